theorem d_106_8 : decode c_106 8 = .ok (.getfield 57, 3) := by decide +kernel
theorem d_106_11 : decode c_106 11 = .ok (.aload_n 0, 1) := by decide +kernel
theorem d_106_12 : decode c_106 12 = .ok (.getfield 49, 3) := by decide +kernel
theorem d_106_15 : decode c_106 15 = .ok (.arraylength, 1) := by decide +kernel
theorem d_106_16 : decode c_106 16 = .ok (.if_icmp .lt 7, 3) := by decide +kernel
theorem d_106_19 : decode c_106 19 = .ok (.aconst_null, 1) := by decide +kernel
theorem d_106_20 : decode c_106 20 = .ok (.goto 12, 3) := by decide +kernel
theorem d_106_23 : decode c_106 23 = .ok (.aload_n 0, 1) := by decide +kernel
theorem d_106_24 : decode c_106 24 = .ok (.getfield 49, 3) := by decide +kernel
theorem d_106_27 : decode c_106 27 = .ok (.aload_n 0, 1) := by decide +kernel
theorem d_106_28 : decode c_106 28 = .ok (.getfield 57, 3) := by decide +kernel
theorem d_106_31 : decode c_106 31 = .ok (.aaload, 1) := by decide +kernel
theorem d_106_32 : decode c_106 32 = .ok (.areturn, 1) := by decide +kernel
theorem d_107_0 : decode c_107 0 = .ok (.iconst 0, 1) := by decide +kernel
theorem d_107_1 : decode c_107 1 = .ok (.istore 4, 2) := by decide +kernel
theorem d_107_3 : decode c_107 3 = .ok (.iconst 1, 1) := by decide +kernel
theorem d_107_4 : decode c_107 4 = .ok (.istore 5, 2) := by decide +kernel
theorem d_107_6 : decode c_107 6 = .ok (.iload 5, 2) := by decide +kernel
theorem d_107_8 : decode c_107 8 = .ok (.aload_n 0, 1) := by decide +kernel
theorem d_107_9 : decode c_107 9 = .ok (.getfield 45, 3) := by decide +kernel
theorem d_107_12 : decode c_107 12 = .ok (.if_icmp .gt 32, 3) := by decide +kernel
theorem d_107_15 : decode c_107 15 = .ok (.aload_n 0, 1) := by decide +kernel
theorem d_107_16 : decode c_107 16 = .ok (.iload 5, 2) := by decide +kernel
theorem d_107_18 : decode c_107 18 = .ok (.iload_n 1, 1) := by decide +kernel
theorem d_107_19 : decode c_107 19 = .ok (.iload_n 2, 1) := by decide +kernel
theorem d_107_20 : decode c_107 20 = .ok (.invokevirtual 70, 3) := by decide +kernel
theorem d_107_23 : decode c_107 23 = .ok (.ifCond .eq 15, 3) := by decide +kernel
theorem d_107_26 : decode c_107 26 = .ok (.iinc 4 1, 3) := by decide +kernel
theorem d_107_29 : decode c_107 29 = .ok (.iload 4, 2) := by decide +kernel
theorem d_107_31 : decode c_107 31 = .ok (.iload_n 3, 1) := by decide +kernel
theorem d_107_32 : decode c_107 32 = .ok (.if_icmp .ne 6, 3) := by decide +kernel
theorem d_107_35 : decode c_107 35 = .ok (.iload 5, 2) := by decide +kernel
theorem d_107_37 : decode c_107 37 = .ok (.ireturn, 1) := by decide +kernel
theorem d_107_38 : decode c_107 38 = .ok (.iinc 5 1, 3) := by decide +kernel
theorem d_107_41 : decode c_107 41 = .ok (.goto (-35), 3) := by decide +kernel
theorem d_107_44 : decode c_107 44 = .ok (.iconst 0, 1) := by decide +kernel
theorem d_107_45 : decode c_107 45 = .ok (.ireturn, 1) := by decide +kernel
theorem d_108_0 : decode c_108 0 = .ok (.aload_n 0, 1) := by decide +kernel
theorem d_108_1 : decode c_108 1 = .ok (.ifnonnull 7, 3) := by decide +kernel
theorem d_108_4 : decode c_108 4 = .ok (.iconst 0, 1) := by decide +kernel
theorem d_108_5 : decode c_108 5 = .ok (.goto 12, 3) := by decide +kernel
theorem d_108_8 : decode c_108 8 = .ok (.aload_n 0, 1) := by decide +kernel
theorem d_108_9 : decode c_108 9 = .ok (.sipush 8208, 3) := by decide +kernel
theorem d_108_12 : decode c_108 12 = .ok (.iconst 0, 1) := by decide +kernel
theorem d_108_13 : decode c_108 13 = .ok (.iload_n 1, 1) := by decide +kernel
theorem d_108_14 : decode c_108 14 = .ok (.invokevirtual 125, 3) := by decide +kernel
theorem d_108_17 : decode c_108 17 = .ok (.ireturn, 1) := by decide +kernel
theorem d_109_0 : decode c_109 0 = .ok (.aload_n 0, 1) := by decide +kernel
theorem d_109_1 : decode c_109 1 = .ok (.invokevirtual 89, 3) := by decide +kernel
theorem d_109_4 : decode c_109 4 = .ok (.astore_n 3, 1) := by decide +kernel
theorem d_109_5 : decode c_109 5 = .ok (.aload_n 3, 1) := by decide +kernel
theorem d_109_6 : decode c_109 6 = .ok (.iload_n 1, 1) := by decide +kernel
theorem d_109_7 : decode c_109 7 = .ok (.invokestatic 93, 3) := by decide +kernel
theorem d_109_10 : decode c_109 10 = .ok (.istore 4, 2) := by decide +kernel
theorem d_109_12 : decode c_109 12 = .ok (.aload_n 3, 1) := by decide +kernel
theorem d_109_13 : decode c_109 13 = .ok (.ifnull 8, 3) := by decide +kernel
theorem d_109_16 : decode c_109 16 = .ok (.iload 4, 2) := by decide +kernel
theorem d_109_18 : decode c_109 18 = .ok (.ifCond .ne 5, 3) := by decide +kernel
theorem d_109_21 : decode c_109 21 = .ok (.iconst (-1), 1) := by decide +kernel
theorem d_109_22 : decode c_109 22 = .ok (.ireturn, 1) := by decide +kernel
theorem d_109_23 : decode c_109 23 = .ok (.iload_n 2, 1) := by decide +kernel
theorem d_109_24 : decode c_109 24 = .ok (.tableswitch 104 0 5 #[40, 48, 66, 75, 85, 95], 40) := by decide +kernel
theorem d_109_64 : decode c_109 64 = .ok (.aload_n 3, 1) := by decide +kernel
theorem d_109_65 : decode c_109 65 = .ok (.iload 4, 2) := by decide +kernel
theorem d_109_67 : decode c_109 67 = .ok (.iconst 1, 1) := by decide +kernel
theorem d_109_68 : decode c_109 68 = .ok (.invokevirtual 97, 3) := by decide +kernel
theorem d_109_71 : decode c_109 71 = .ok (.ireturn, 1) := by decide +kernel
theorem d_109_72 : decode c_109 72 = .ok (.aload_n 3, 1) := by decide +kernel
theorem d_109_73 : decode c_109 73 = .ok (.iload 4, 2) := by decide +kernel
theorem d_109_75 : decode c_109 75 = .ok (.invokevirtual 100, 3) := by decide +kernel
theorem d_109_78 : decode c_109 78 = .ok (.sipush 8192, 3) := by decide +kernel
theorem d_109_81 : decode c_109 81 = .ok (.if_icmp .ne 7, 3) := by decide +kernel
theorem d_109_84 : decode c_109 84 = .ok (.iconst 1, 1) := by decide +kernel
theorem d_109_85 : decode c_109 85 = .ok (.goto 4, 3) := by decide +kernel
theorem d_109_88 : decode c_109 88 = .ok (.iconst 0, 1) := by decide +kernel
theorem d_109_89 : decode c_109 89 = .ok (.ireturn, 1) := by decide +kernel
theorem d_109_90 : decode c_109 90 = .ok (.aload_n 3, 1) := by decide +kernel
theorem d_109_91 : decode c_109 91 = .ok (.bipush 96, 2) := by decide +kernel
theorem d_109_93 : decode c_109 93 = .ok (.iload 4, 2) := by decide +kernel
theorem d_109_95 : decode c_109 95 = .ok (.invokevirtual 85, 3) := by decide +kernel
theorem d_109_98 : decode c_109 98 = .ok (.ireturn, 1) := by decide +kernel
theorem d_109_99 : decode c_109 99 = .ok (.aload_n 3, 1) := by decide +kernel
theorem d_109_100 : decode c_109 100 = .ok (.sipush 256, 3) := by decide +kernel
theorem d_109_103 : decode c_109 103 = .ok (.iload 4, 2) := by decide +kernel
theorem d_109_105 : decode c_109 105 = .ok (.invokevirtual 85, 3) := by decide +kernel
theorem d_109_108 : decode c_109 108 = .ok (.ireturn, 1) := by decide +kernel
theorem d_109_109 : decode c_109 109 = .ok (.aload_n 3, 1) := by decide +kernel
theorem d_109_110 : decode c_109 110 = .ok (.sipush 128, 3) := by decide +kernel
theorem d_109_113 : decode c_109 113 = .ok (.iload 4, 2) := by decide +kernel
theorem d_109_115 : decode c_109 115 = .ok (.invokevirtual 85, 3) := by decide +kernel
theorem d_109_118 : decode c_109 118 = .ok (.ireturn, 1) := by decide +kernel
theorem d_109_119 : decode c_109 119 = .ok (.aload_n 3, 1) := by decide +kernel
theorem d_109_120 : decode c_109 120 = .ok (.ldc 104, 2) := by decide +kernel
theorem d_109_122 : decode c_109 122 = .ok (.iload 4, 2) := by decide +kernel
theorem d_109_124 : decode c_109 124 = .ok (.invokevirtual 85, 3) := by decide +kernel
theorem d_109_127 : decode c_109 127 = .ok (.ireturn, 1) := by decide +kernel
theorem d_109_128 : decode c_109 128 = .ok (.bipush (-2), 2) := by decide +kernel
theorem d_109_130 : decode c_109 130 = .ok (.ireturn, 1) := by decide +kernel
theorem d_110_0 : decode c_110 0 = .ok (.iload_n 3, 1) := by decide +kernel
theorem d_110_1 : decode c_110 1 = .ok (.istore 4, 2) := by decide +kernel
theorem d_110_3 : decode c_110 3 = .ok (.iconst 0, 1) := by decide +kernel
theorem d_110_4 : decode c_110 4 = .ok (.istore 5, 2) := by decide +kernel
theorem d_110_6 : decode c_110 6 = .ok (.iload 5, 2) := by decide +kernel
theorem d_110_8 : decode c_110 8 = .ok (.aload_n 0, 1) := by decide +kernel
theorem d_110_9 : decode c_110 9 = .ok (.getfield 313, 3) := by decide +kernel
theorem d_110_12 : decode c_110 12 = .ok (.if_icmp .ge 61, 3) := by decide +kernel
theorem d_110_15 : decode c_110 15 = .ok (.aload_n 0, 1) := by decide +kernel
theorem d_110_16 : decode c_110 16 = .ok (.getfield 310, 3) := by decide +kernel
theorem d_110_19 : decode c_110 19 = .ok (.ifCond .eq 54, 3) := by decide +kernel
theorem d_110_22 : decode c_110 22 = .ok (.iload_n 3, 1) := by decide +kernel
theorem d_110_23 : decode c_110 23 = .ok (.ifCond .le 50, 3) := by decide +kernel
theorem d_110_26 : decode c_110 26 = .ok (.aload_n 0, 1) := by decide +kernel
theorem d_110_27 : decode c_110 27 = .ok (.iload 5, 2) := by decide +kernel
theorem d_110_29 : decode c_110 29 = .ok (.iload_n 1, 1) := by decide +kernel
theorem d_110_30 : decode c_110 30 = .ok (.invokevirtual 325, 3) := by decide +kernel
theorem d_110_33 : decode c_110 33 = .ok (.ifCond .eq 34, 3) := by decide +kernel
theorem d_110_36 : decode c_110 36 = .ok (.iload_n 1, 1) := by decide +kernel
theorem d_110_37 : decode c_110 37 = .ok (.bipush 8, 2) := by decide +kernel
theorem d_110_39 : decode c_110 39 = .ok (.if_icmp .eq 17, 3) := by decide +kernel
theorem d_110_42 : decode c_110 42 = .ok (.aload_n 0, 1) := by decide +kernel
theorem d_110_43 : decode c_110 43 = .ok (.getfield 73, 3) := by decide +kernel
theorem d_110_46 : decode c_110 46 = .ok (.iload 5, 2) := by decide +kernel
theorem d_110_48 : decode c_110 48 = .ok (.iaload, 1) := by decide +kernel
theorem d_110_49 : decode c_110 49 = .ok (.iload_n 2, 1) := by decide +kernel
theorem d_110_50 : decode c_110 50 = .ok (.if_icmp .eq 6, 3) := by decide +kernel
theorem d_110_53 : decode c_110 53 = .ok (.goto 14, 3) := by decide +kernel
theorem d_110_56 : decode c_110 56 = .ok (.iinc 4 (-1), 3) := by decide +kernel
theorem d_110_59 : decode c_110 59 = .ok (.iload 4, 2) := by decide +kernel
theorem d_110_61 : decode c_110 61 = .ok (.ifCond .ne 6, 3) := by decide +kernel
theorem d_110_64 : decode c_110 64 = .ok (.iload 5, 2) := by decide +kernel
theorem d_110_66 : decode c_110 66 = .ok (.ireturn, 1) := by decide +kernel
theorem d_110_67 : decode c_110 67 = .ok (.iinc 5 1, 3) := by decide +kernel
theorem d_110_70 : decode c_110 70 = .ok (.goto (-64), 3) := by decide +kernel
theorem d_110_73 : decode c_110 73 = .ok (.iconst (-1), 1) := by decide +kernel
theorem d_110_74 : decode c_110 74 = .ok (.ireturn, 1) := by decide +kernel
theorem d_111_0 : decode c_111 0 = .ok (.aload_n 0, 1) := by decide +kernel
theorem d_111_1 : decode c_111 1 = .ok (.iconst 3, 1) := by decide +kernel
theorem d_111_2 : decode c_111 2 = .ok (.iconst (-1), 1) := by decide +kernel
theorem d_111_3 : decode c_111 3 = .ok (.iload_n 1, 1) := by decide +kernel
theorem d_111_4 : decode c_111 4 = .ok (.invokevirtual 333, 3) := by decide +kernel
theorem d_111_7 : decode c_111 7 = .ok (.istore_n 3, 1) := by decide +kernel
theorem d_111_8 : decode c_111 8 = .ok (.iload_n 3, 1) := by decide +kernel
theorem d_111_9 : decode c_111 9 = .ok (.ifCond .ge 5, 3) := by decide +kernel
theorem d_111_12 : decode c_111 12 = .ok (.iconst (-1), 1) := by decide +kernel
theorem d_111_13 : decode c_111 13 = .ok (.ireturn, 1) := by decide +kernel
theorem d_111_14 : decode c_111 14 = .ok (.iload_n 2, 1) := by decide +kernel
theorem d_111_15 : decode c_111 15 = .ok (.tableswitch 90 0 5 #[37, 44, 60, 67, 74, 82], 37) := by decide +kernel
theorem d_111_52 : decode c_111 52 = .ok (.aload_n 0, 1) := by decide +kernel
theorem d_111_53 : decode c_111 53 = .ok (.getfield 76, 3) := by decide +kernel
theorem d_111_56 : decode c_111 56 = .ok (.iload_n 3, 1) := by decide +kernel
theorem d_111_57 : decode c_111 57 = .ok (.iaload, 1) := by decide +kernel
theorem d_111_58 : decode c_111 58 = .ok (.ireturn, 1) := by decide +kernel
theorem d_111_59 : decode c_111 59 = .ok (.aload_n 0, 1) := by decide +kernel
theorem d_111_60 : decode c_111 60 = .ok (.getfield 70, 3) := by decide +kernel
theorem d_111_63 : decode c_111 63 = .ok (.iload_n 3, 1) := by decide +kernel
theorem d_111_64 : decode c_111 64 = .ok (.iaload, 1) := by decide +kernel
theorem d_111_65 : decode c_111 65 = .ok (.iconst 5, 1) := by decide +kernel
theorem d_111_66 : decode c_111 66 = .ok (.if_icmp .ne 7, 3) := by decide +kernel
theorem d_111_69 : decode c_111 69 = .ok (.iconst 1, 1) := by decide +kernel
theorem d_111_70 : decode c_111 70 = .ok (.goto 4, 3) := by decide +kernel
theorem d_111_73 : decode c_111 73 = .ok (.iconst 0, 1) := by decide +kernel
theorem d_111_74 : decode c_111 74 = .ok (.ireturn, 1) := by decide +kernel
theorem d_111_75 : decode c_111 75 = .ok (.aload_n 0, 1) := by decide +kernel
theorem d_111_76 : decode c_111 76 = .ok (.iconst 4, 1) := by decide +kernel
theorem d_111_77 : decode c_111 77 = .ok (.iload_n 3, 1) := by decide +kernel
theorem d_111_78 : decode c_111 78 = .ok (.invokevirtual 322, 3) := by decide +kernel
theorem d_111_81 : decode c_111 81 = .ok (.ireturn, 1) := by decide +kernel
theorem d_111_82 : decode c_111 82 = .ok (.aload_n 0, 1) := by decide +kernel
theorem d_111_83 : decode c_111 83 = .ok (.iconst 5, 1) := by decide +kernel
theorem d_111_84 : decode c_111 84 = .ok (.iload_n 3, 1) := by decide +kernel
theorem d_111_85 : decode c_111 85 = .ok (.invokevirtual 322, 3) := by decide +kernel
theorem d_111_88 : decode c_111 88 = .ok (.ireturn, 1) := by decide +kernel
theorem d_111_89 : decode c_111 89 = .ok (.aload_n 0, 1) := by decide +kernel
theorem d_111_90 : decode c_111 90 = .ok (.bipush 6, 2) := by decide +kernel
theorem d_111_92 : decode c_111 92 = .ok (.iload_n 3, 1) := by decide +kernel
theorem d_111_93 : decode c_111 93 = .ok (.invokevirtual 322, 3) := by decide +kernel
theorem d_111_96 : decode c_111 96 = .ok (.ireturn, 1) := by decide +kernel
theorem d_111_97 : decode c_111 97 = .ok (.aload_n 0, 1) := by decide +kernel
theorem d_111_98 : decode c_111 98 = .ok (.bipush 7, 2) := by decide +kernel
theorem d_111_100 : decode c_111 100 = .ok (.iload_n 3, 1) := by decide +kernel
theorem d_111_101 : decode c_111 101 = .ok (.invokevirtual 322, 3) := by decide +kernel
theorem d_111_104 : decode c_111 104 = .ok (.ireturn, 1) := by decide +kernel
theorem d_111_105 : decode c_111 105 = .ok (.bipush (-2), 2) := by decide +kernel
theorem d_111_107 : decode c_111 107 = .ok (.ireturn, 1) := by decide +kernel
theorem d_112_0 : decode c_112 0 = .ok (.aload_n 0, 1) := by decide +kernel
theorem d_112_1 : decode c_112 1 = .ok (.iload_n 1, 1) := by decide +kernel
theorem d_112_2 : decode c_112 2 = .ok (.invokestatic 93, 3) := by decide +kernel
theorem d_112_5 : decode c_112 5 = .ok (.istore 4, 2) := by decide +kernel
theorem d_112_7 : decode c_112 7 = .ok (.aload_n 0, 1) := by decide +kernel
theorem d_112_8 : decode c_112 8 = .ok (.ifnull 8, 3) := by decide +kernel
theorem d_112_11 : decode c_112 11 = .ok (.iload 4, 2) := by decide +kernel
theorem d_112_13 : decode c_112 13 = .ok (.ifCond .ne 7, 3) := by decide +kernel
theorem d_112_16 : decode c_112 16 = .ok (.iconst 0, 1) := by decide +kernel
theorem d_112_17 : decode c_112 17 = .ok (.goto 11, 3) := by decide +kernel
theorem d_112_20 : decode c_112 20 = .ok (.aload_n 0, 1) := by decide +kernel
theorem d_112_21 : decode c_112 21 = .ok (.iload_n 2, 1) := by decide +kernel
theorem d_112_22 : decode c_112 22 = .ok (.iload 4, 2) := by decide +kernel
theorem d_112_24 : decode c_112 24 = .ok (.iload_n 3, 1) := by decide +kernel
theorem d_112_25 : decode c_112 25 = .ok (.invokevirtual 125, 3) := by decide +kernel
theorem d_112_28 : decode c_112 28 = .ok (.ireturn, 1) := by decide +kernel
theorem d_113_0 : decode c_113 0 = .ok (.iload_n 1, 1) := by decide +kernel
theorem d_113_1 : decode c_113 1 = .ok (.iconst 1, 1) := by decide +kernel
theorem d_113_2 : decode c_113 2 = .ok (.if_icmp .lt 11, 3) := by decide +kernel
theorem d_113_5 : decode c_113 5 = .ok (.iload_n 1, 1) := by decide +kernel
theorem d_113_6 : decode c_113 6 = .ok (.aload_n 0, 1) := by decide +kernel
theorem d_113_7 : decode c_113 7 = .ok (.getfield 45, 3) := by decide +kernel
theorem d_113_10 : decode c_113 10 = .ok (.if_icmp .le 7, 3) := by decide +kernel
theorem d_113_13 : decode c_113 13 = .ok (.iconst 0, 1) := by decide +kernel
theorem d_113_14 : decode c_113 14 = .ok (.goto 9, 3) := by decide +kernel
theorem d_113_17 : decode c_113 17 = .ok (.aload_n 0, 1) := by decide +kernel
theorem d_113_18 : decode c_113 18 = .ok (.getfield 42, 3) := by decide +kernel
theorem d_113_21 : decode c_113 21 = .ok (.iload_n 1, 1) := by decide +kernel
theorem d_113_22 : decode c_113 22 = .ok (.iaload, 1) := by decide +kernel
theorem d_113_23 : decode c_113 23 = .ok (.ireturn, 1) := by decide +kernel
theorem d_114_0 : decode c_114 0 = .ok (.iload_n 3, 1) := by decide +kernel
theorem d_114_1 : decode c_114 1 = .ok (.ifCond .ne 7, 3) := by decide +kernel
theorem d_114_4 : decode c_114 4 = .ok (.iconst 0, 1) := by decide +kernel
theorem d_114_5 : decode c_114 5 = .ok (.goto 10, 3) := by decide +kernel
theorem d_114_8 : decode c_114 8 = .ok (.aload_n 0, 1) := by decide +kernel
theorem d_114_9 : decode c_114 9 = .ok (.iload_n 3, 1) := by decide +kernel
theorem d_114_10 : decode c_114 10 = .ok (.iload_n 1, 1) := by decide +kernel
theorem d_114_11 : decode c_114 11 = .ok (.iload_n 2, 1) := by decide +kernel
theorem d_114_12 : decode c_114 12 = .ok (.invokevirtual 67, 3) := by decide +kernel
theorem d_114_15 : decode c_114 15 = .ok (.ireturn, 1) := by decide +kernel
theorem d_115_0 : decode c_115 0 = .ok (.aload_n 0, 1) := by decide +kernel
theorem d_115_1 : decode c_115 1 = .ok (.invokevirtual 89, 3) := by decide +kernel
theorem d_115_4 : decode c_115 4 = .ok (.astore 4, 2) := by decide +kernel
theorem d_115_6 : decode c_115 6 = .ok (.aload 4, 2) := by decide +kernel
theorem d_115_8 : decode c_115 8 = .ok (.iload_n 1, 1) := by decide +kernel
theorem d_115_9 : decode c_115 9 = .ok (.bipush 96, 2) := by decide +kernel
theorem d_115_11 : decode c_115 11 = .ok (.iload_n 2, 1) := by decide +kernel
theorem d_115_12 : decode c_115 12 = .ok (.invokestatic 105, 3) := by decide +kernel
theorem d_115_15 : decode c_115 15 = .ok (.istore 5, 2) := by decide +kernel
theorem d_115_17 : decode c_115 17 = .ok (.aload 4, 2) := by decide +kernel
theorem d_115_19 : decode c_115 19 = .ok (.ifnull 8, 3) := by decide +kernel
theorem d_115_22 : decode c_115 22 = .ok (.iload 5, 2) := by decide +kernel
theorem d_115_24 : decode c_115 24 = .ok (.ifCond .ne 5, 3) := by decide +kernel
theorem d_115_27 : decode c_115 27 = .ok (.iconst (-1), 1) := by decide +kernel
theorem d_115_28 : decode c_115 28 = .ok (.ireturn, 1) := by decide +kernel
theorem d_115_29 : decode c_115 29 = .ok (.iload_n 3, 1) := by decide +kernel
theorem d_115_30 : decode c_115 30 = .ok (.tableswitch 68 0 2 #[26, 35, 53], 26) := by decide +kernel
theorem d_115_56 : decode c_115 56 = .ok (.aload 4, 2) := by decide +kernel
theorem d_115_58 : decode c_115 58 = .ok (.iload 5, 2) := by decide +kernel
theorem d_115_60 : decode c_115 60 = .ok (.iconst 1, 1) := by decide +kernel
theorem d_115_61 : decode c_115 61 = .ok (.invokevirtual 97, 3) := by decide +kernel
theorem d_115_64 : decode c_115 64 = .ok (.ireturn, 1) := by decide +kernel
theorem d_115_65 : decode c_115 65 = .ok (.aload 4, 2) := by decide +kernel
theorem d_115_67 : decode c_115 67 = .ok (.iload 5, 2) := by decide +kernel
theorem d_115_69 : decode c_115 69 = .ok (.invokevirtual 100, 3) := by decide +kernel
theorem d_115_72 : decode c_115 72 = .ok (.bipush 32, 2) := by decide +kernel
theorem d_115_74 : decode c_115 74 = .ok (.if_icmp .ne 7, 3) := by decide +kernel
theorem d_115_77 : decode c_115 77 = .ok (.iconst 1, 1) := by decide +kernel
theorem d_115_78 : decode c_115 78 = .ok (.goto 4, 3) := by decide +kernel
theorem d_115_81 : decode c_115 81 = .ok (.iconst 0, 1) := by decide +kernel
theorem d_115_82 : decode c_115 82 = .ok (.ireturn, 1) := by decide +kernel
theorem d_115_83 : decode c_115 83 = .ok (.aload 4, 2) := by decide +kernel
theorem d_115_85 : decode c_115 85 = .ok (.iconst 4, 1) := by decide +kernel
theorem d_115_86 : decode c_115 86 = .ok (.iconst 0, 1) := by decide +kernel
theorem d_115_87 : decode c_115 87 = .ok (.aload 4, 2) := by decide +kernel
theorem d_115_89 : decode c_115 89 = .ok (.iload 5, 2) := by decide +kernel
theorem d_115_91 : decode c_115 91 = .ok (.invokevirtual 109, 3) := by decide +kernel
theorem d_115_94 : decode c_115 94 = .ok (.invokevirtual 112, 3) := by decide +kernel
theorem d_115_97 : decode c_115 97 = .ok (.ireturn, 1) := by decide +kernel
theorem d_115_98 : decode c_115 98 = .ok (.bipush (-2), 2) := by decide +kernel
theorem d_115_100 : decode c_115 100 = .ok (.ireturn, 1) := by decide +kernel
theorem d_116_0 : decode c_116 0 = .ok (.iconst 0, 1) := by decide +kernel
theorem d_116_1 : decode c_116 1 = .ok (.istore 4, 2) := by decide +kernel
theorem d_116_3 : decode c_116 3 = .ok (.iload 4, 2) := by decide +kernel
theorem d_116_5 : decode c_116 5 = .ok (.aload_n 0, 1) := by decide +kernel
theorem d_116_6 : decode c_116 6 = .ok (.getfield 313, 3) := by decide +kernel
theorem d_116_9 : decode c_116 9 = .ok (.if_icmp .ge 44, 3) := by decide +kernel
theorem d_116_12 : decode c_116 12 = .ok (.aload_n 0, 1) := by decide +kernel
theorem d_116_13 : decode c_116 13 = .ok (.iload 4, 2) := by decide +kernel
theorem d_116_15 : decode c_116 15 = .ok (.iload_n 1, 1) := by decide +kernel
theorem d_116_16 : decode c_116 16 = .ok (.invokevirtual 325, 3) := by decide +kernel
theorem d_116_19 : decode c_116 19 = .ok (.ifCond .eq 28, 3) := by decide +kernel
theorem d_116_22 : decode c_116 22 = .ok (.aload_n 0, 1) := by decide +kernel
theorem d_116_23 : decode c_116 23 = .ok (.getfield 73, 3) := by decide +kernel
theorem d_116_26 : decode c_116 26 = .ok (.iload 4, 2) := by decide +kernel
theorem d_116_28 : decode c_116 28 = .ok (.iaload, 1) := by decide +kernel
theorem d_116_29 : decode c_116 29 = .ok (.iload_n 2, 1) := by decide +kernel
theorem d_116_30 : decode c_116 30 = .ok (.if_icmp .ne 17, 3) := by decide +kernel
theorem d_116_33 : decode c_116 33 = .ok (.aload_n 0, 1) := by decide +kernel
theorem d_116_34 : decode c_116 34 = .ok (.getfield 76, 3) := by decide +kernel
theorem d_116_37 : decode c_116 37 = .ok (.iload 4, 2) := by decide +kernel
theorem d_116_39 : decode c_116 39 = .ok (.iaload, 1) := by decide +kernel
theorem d_116_40 : decode c_116 40 = .ok (.iload_n 3, 1) := by decide +kernel
theorem d_116_41 : decode c_116 41 = .ok (.if_icmp .ne 6, 3) := by decide +kernel
theorem d_116_44 : decode c_116 44 = .ok (.iload 4, 2) := by decide +kernel
theorem d_116_46 : decode c_116 46 = .ok (.ireturn, 1) := by decide +kernel
theorem d_116_47 : decode c_116 47 = .ok (.iinc 4 1, 3) := by decide +kernel
theorem d_116_50 : decode c_116 50 = .ok (.goto (-47), 3) := by decide +kernel
theorem d_116_53 : decode c_116 53 = .ok (.iconst (-1), 1) := by decide +kernel
theorem d_116_54 : decode c_116 54 = .ok (.ireturn, 1) := by decide +kernel
theorem d_117_0 : decode c_117 0 = .ok (.iload_n 1, 1) := by decide +kernel
theorem d_117_1 : decode c_117 1 = .ok (.ifCond .ge 7, 3) := by decide +kernel
theorem d_117_4 : decode c_117 4 = .ok (.iconst (-1), 1) := by decide +kernel
theorem d_117_5 : decode c_117 5 = .ok (.goto 15, 3) := by decide +kernel
theorem d_117_8 : decode c_117 8 = .ok (.aload_n 0, 1) := by decide +kernel
theorem d_117_9 : decode c_117 9 = .ok (.iconst 2, 1) := by decide +kernel
theorem d_117_10 : decode c_117 10 = .ok (.iconst (-1), 1) := by decide +kernel
theorem d_117_11 : decode c_117 11 = .ok (.aload_n 0, 1) := by decide +kernel
theorem d_117_12 : decode c_117 12 = .ok (.getfield 79, 3) := by decide +kernel
theorem d_117_15 : decode c_117 15 = .ok (.iload_n 1, 1) := by decide +kernel
theorem d_117_16 : decode c_117 16 = .ok (.iaload, 1) := by decide +kernel
theorem d_117_17 : decode c_117 17 = .ok (.invokevirtual 329, 3) := by decide +kernel
theorem d_117_20 : decode c_117 20 = .ok (.ireturn, 1) := by decide +kernel
theorem d_118_0 : decode c_118 0 = .ok (.iconst 0, 1) := by decide +kernel
theorem d_118_1 : decode c_118 1 = .ok (.istore_n 3, 1) := by decide +kernel
theorem d_118_2 : decode c_118 2 = .ok (.iconst 0, 1) := by decide +kernel
theorem d_118_3 : decode c_118 3 = .ok (.istore 4, 2) := by decide +kernel
theorem d_118_5 : decode c_118 5 = .ok (.iload 4, 2) := by decide +kernel
theorem d_118_7 : decode c_118 7 = .ok (.iload_n 2, 1) := by decide +kernel
theorem d_118_8 : decode c_118 8 = .ok (.if_icmp .gt 43, 3) := by decide +kernel
theorem d_118_11 : decode c_118 11 = .ok (.iload_n 3, 1) := by decide +kernel
theorem d_118_12 : decode c_118 12 = .ok (.aload_n 0, 1) := by decide +kernel
theorem d_118_13 : decode c_118 13 = .ok (.iload 4, 2) := by decide +kernel
theorem d_118_15 : decode c_118 15 = .ok (.iload_n 1, 1) := by decide +kernel
theorem d_118_16 : decode c_118 16 = .ok (.invokevirtual 325, 3) := by decide +kernel
theorem d_118_19 : decode c_118 19 = .ok (.ifCond .eq 23, 3) := by decide +kernel
theorem d_118_22 : decode c_118 22 = .ok (.aload_n 0, 1) := by decide +kernel
theorem d_118_23 : decode c_118 23 = .ok (.getfield 73, 3) := by decide +kernel
theorem d_118_26 : decode c_118 26 = .ok (.iload 4, 2) := by decide +kernel
theorem d_118_28 : decode c_118 28 = .ok (.iaload, 1) := by decide +kernel
theorem d_118_29 : decode c_118 29 = .ok (.aload_n 0, 1) := by decide +kernel
theorem d_118_30 : decode c_118 30 = .ok (.getfield 73, 3) := by decide +kernel
theorem d_118_33 : decode c_118 33 = .ok (.iload_n 2, 1) := by decide +kernel
theorem d_118_34 : decode c_118 34 = .ok (.iaload, 1) := by decide +kernel
theorem d_118_35 : decode c_118 35 = .ok (.if_icmp .ne 7, 3) := by decide +kernel
theorem d_118_38 : decode c_118 38 = .ok (.iconst 1, 1) := by decide +kernel
theorem d_118_39 : decode c_118 39 = .ok (.goto 4, 3) := by decide +kernel
theorem d_118_42 : decode c_118 42 = .ok (.iconst 0, 1) := by decide +kernel
theorem d_118_43 : decode c_118 43 = .ok (.iadd, 1) := by decide +kernel
theorem d_118_44 : decode c_118 44 = .ok (.istore_n 3, 1) := by decide +kernel
theorem d_118_45 : decode c_118 45 = .ok (.iinc 4 1, 3) := by decide +kernel
theorem d_118_48 : decode c_118 48 = .ok (.goto (-43), 3) := by decide +kernel
theorem d_118_51 : decode c_118 51 = .ok (.iload_n 3, 1) := by decide +kernel
theorem d_118_52 : decode c_118 52 = .ok (.ireturn, 1) := by decide +kernel
theorem d_119_0 : decode c_119 0 = .ok (.aload_n 0, 1) := by decide +kernel
theorem d_119_1 : decode c_119 1 = .ok (.iconst 3, 1) := by decide +kernel
theorem d_119_2 : decode c_119 2 = .ok (.iconst (-1), 1) := by decide +kernel
theorem d_119_3 : decode c_119 3 = .ok (.iload_n 1, 1) := by decide +kernel
theorem d_119_4 : decode c_119 4 = .ok (.invokevirtual 333, 3) := by decide +kernel
theorem d_119_7 : decode c_119 7 = .ok (.istore 4, 2) := by decide +kernel
theorem d_119_9 : decode c_119 9 = .ok (.iload 4, 2) := by decide +kernel
theorem d_119_11 : decode c_119 11 = .ok (.ifCond .ge 7, 3) := by decide +kernel
theorem d_119_14 : decode c_119 14 = .ok (.iconst (-1), 1) := by decide +kernel
theorem d_119_15 : decode c_119 15 = .ok (.goto 11, 3) := by decide +kernel
theorem d_119_18 : decode c_119 18 = .ok (.aload_n 0, 1) := by decide +kernel
theorem d_119_19 : decode c_119 19 = .ok (.iconst 4, 1) := by decide +kernel
theorem d_119_20 : decode c_119 20 = .ok (.iload 4, 2) := by decide +kernel
theorem d_119_22 : decode c_119 22 = .ok (.iload_n 2, 1) := by decide +kernel
theorem d_119_23 : decode c_119 23 = .ok (.invokevirtual 333, 3) := by decide +kernel
theorem d_119_26 : decode c_119 26 = .ok (.istore 5, 2) := by decide +kernel
theorem d_119_28 : decode c_119 28 = .ok (.iload 5, 2) := by decide +kernel
theorem d_119_30 : decode c_119 30 = .ok (.ifCond .ge 5, 3) := by decide +kernel
theorem d_119_33 : decode c_119 33 = .ok (.iconst (-1), 1) := by decide +kernel
theorem d_119_34 : decode c_119 34 = .ok (.ireturn, 1) := by decide +kernel
theorem d_119_35 : decode c_119 35 = .ok (.iload_n 3, 1) := by decide +kernel
theorem d_119_36 : decode c_119 36 = .ok (.ifCond .ne 13, 3) := by decide +kernel
theorem d_119_39 : decode c_119 39 = .ok (.aload_n 0, 1) := by decide +kernel
theorem d_119_40 : decode c_119 40 = .ok (.getfield 76, 3) := by decide +kernel
theorem d_119_43 : decode c_119 43 = .ok (.iload 5, 2) := by decide +kernel
theorem d_119_45 : decode c_119 45 = .ok (.iaload, 1) := by decide +kernel
theorem d_119_46 : decode c_119 46 = .ok (.goto 49, 3) := by decide +kernel
theorem d_119_49 : decode c_119 49 = .ok (.iload_n 3, 1) := by decide +kernel
theorem d_119_50 : decode c_119 50 = .ok (.iconst 1, 1) := by decide +kernel
theorem d_119_51 : decode c_119 51 = .ok (.if_icmp .ne 23, 3) := by decide +kernel
theorem d_119_54 : decode c_119 54 = .ok (.aload_n 0, 1) := by decide +kernel
theorem d_119_55 : decode c_119 55 = .ok (.getfield 70, 3) := by decide +kernel
theorem d_119_58 : decode c_119 58 = .ok (.iload 5, 2) := by decide +kernel
theorem d_119_60 : decode c_119 60 = .ok (.iaload, 1) := by decide +kernel
theorem d_119_61 : decode c_119 61 = .ok (.bipush 7, 2) := by decide +kernel
theorem d_119_63 : decode c_119 63 = .ok (.if_icmp .ne 7, 3) := by decide +kernel
theorem d_119_66 : decode c_119 66 = .ok (.iconst 1, 1) := by decide +kernel
theorem d_119_67 : decode c_119 67 = .ok (.goto 28, 3) := by decide +kernel
theorem d_119_70 : decode c_119 70 = .ok (.iconst 0, 1) := by decide +kernel
theorem d_119_71 : decode c_119 71 = .ok (.goto 24, 3) := by decide +kernel
theorem d_119_74 : decode c_119 74 = .ok (.iload_n 3, 1) := by decide +kernel
theorem d_119_75 : decode c_119 75 = .ok (.iconst 2, 1) := by decide +kernel
theorem d_119_76 : decode c_119 76 = .ok (.if_icmp .ne 17, 3) := by decide +kernel
theorem d_119_79 : decode c_119 79 = .ok (.aload_n 0, 1) := by decide +kernel
theorem d_119_80 : decode c_119 80 = .ok (.iconst 2, 1) := by decide +kernel
theorem d_119_81 : decode c_119 81 = .ok (.aload_n 0, 1) := by decide +kernel
theorem d_119_82 : decode c_119 82 = .ok (.iload 5, 2) := by decide +kernel
theorem d_119_84 : decode c_119 84 = .ok (.invokevirtual 336, 3) := by decide +kernel
theorem d_119_87 : decode c_119 87 = .ok (.invokevirtual 340, 3) := by decide +kernel
theorem d_119_90 : decode c_119 90 = .ok (.goto 5, 3) := by decide +kernel
theorem d_119_93 : decode c_119 93 = .ok (.bipush (-2), 2) := by decide +kernel
theorem d_119_95 : decode c_119 95 = .ok (.ireturn, 1) := by decide +kernel
theorem d_120_0 : decode c_120 0 = .ok (.iload_n 1, 1) := by decide +kernel
theorem d_120_1 : decode c_120 1 = .ok (.iconst 1, 1) := by decide +kernel
theorem d_120_2 : decode c_120 2 = .ok (.if_icmp .lt 25, 3) := by decide +kernel
theorem d_120_5 : decode c_120 5 = .ok (.iload_n 1, 1) := by decide +kernel
theorem d_120_6 : decode c_120 6 = .ok (.aload_n 0, 1) := by decide +kernel
theorem d_120_7 : decode c_120 7 = .ok (.getfield 45, 3) := by decide +kernel
theorem d_120_10 : decode c_120 10 = .ok (.if_icmp .gt 17, 3) := by decide +kernel
theorem d_120_13 : decode c_120 13 = .ok (.iload_n 2, 1) := by decide +kernel
theorem d_120_14 : decode c_120 14 = .ok (.ifCond .lt 13, 3) := by decide +kernel
theorem d_120_17 : decode c_120 17 = .ok (.iload_n 2, 1) := by decide +kernel
theorem d_120_18 : decode c_120 18 = .ok (.aload_n 0, 1) := by decide +kernel
theorem d_120_19 : decode c_120 19 = .ok (.getfield 39, 3) := by decide +kernel
theorem d_120_22 : decode c_120 22 = .ok (.iload_n 1, 1) := by decide +kernel
theorem d_120_23 : decode c_120 23 = .ok (.iaload, 1) := by decide +kernel
theorem d_120_24 : decode c_120 24 = .ok (.if_icmp .lt 6, 3) := by decide +kernel
theorem d_120_27 : decode c_120 27 = .ok (.bipush 6, 2) := by decide +kernel
theorem d_120_29 : decode c_120 29 = .ok (.ireturn, 1) := by decide +kernel
theorem d_120_30 : decode c_120 30 = .ok (.aload_n 0, 1) := by decide +kernel
theorem d_120_31 : decode c_120 31 = .ok (.getfield 9, 3) := by decide +kernel
theorem d_120_34 : decode c_120 34 = .ok (.aload_n 0, 1) := by decide +kernel
theorem d_120_35 : decode c_120 35 = .ok (.getfield 36, 3) := by decide +kernel
theorem d_120_38 : decode c_120 38 = .ok (.iload_n 1, 1) := by decide +kernel
theorem d_120_39 : decode c_120 39 = .ok (.iaload, 1) := by decide +kernel
theorem d_120_40 : decode c_120 40 = .ok (.iload_n 2, 1) := by decide +kernel
theorem d_120_41 : decode c_120 41 = .ok (.iadd, 1) := by decide +kernel
theorem d_120_42 : decode c_120 42 = .ok (.baload, 1) := by decide +kernel
theorem d_120_43 : decode c_120 43 = .ok (.ireturn, 1) := by decide +kernel
theorem d_121_0 : decode c_121 0 = .ok (.aload_n 0, 1) := by decide +kernel
theorem d_121_1 : decode c_121 1 = .ok (.iload_n 1, 1) := by decide +kernel
theorem d_121_2 : decode c_121 2 = .ok (.iload_n 2, 1) := by decide +kernel
theorem d_121_3 : decode c_121 3 = .ok (.invokevirtual 57, 3) := by decide +kernel
theorem d_121_6 : decode c_121 6 = .ok (.iconst 1, 1) := by decide +kernel
theorem d_121_7 : decode c_121 7 = .ok (.if_icmp .ne 12, 3) := by decide +kernel
theorem d_121_10 : decode c_121 10 = .ok (.aload_n 0, 1) := by decide +kernel
theorem d_121_11 : decode c_121 11 = .ok (.iload_n 1, 1) := by decide +kernel
theorem d_121_12 : decode c_121 12 = .ok (.iload_n 2, 1) := by decide +kernel
theorem d_121_13 : decode c_121 13 = .ok (.invokevirtual 48, 3) := by decide +kernel
theorem d_121_16 : decode c_121 16 = .ok (.goto 4, 3) := by decide +kernel
theorem d_121_19 : decode c_121 19 = .ok (.iconst 0, 1) := by decide +kernel
theorem d_121_20 : decode c_121 20 = .ok (.ireturn, 1) := by decide +kernel
theorem d_122_0 : decode c_122 0 = .ok (.iload_n 1, 1) := by decide +kernel
theorem d_122_1 : decode c_122 1 = .ok (.iconst 1, 1) := by decide +kernel
theorem d_122_2 : decode c_122 2 = .ok (.if_icmp .lt 11, 3) := by decide +kernel
theorem d_122_5 : decode c_122 5 = .ok (.iload_n 1, 1) := by decide +kernel
theorem d_122_6 : decode c_122 6 = .ok (.aload_n 0, 1) := by decide +kernel
theorem d_122_7 : decode c_122 7 = .ok (.getfield 45, 3) := by decide +kernel
theorem d_122_10 : decode c_122 10 = .ok (.if_icmp .le 7, 3) := by decide +kernel
theorem d_122_13 : decode c_122 13 = .ok (.iconst 0, 1) := by decide +kernel
theorem d_122_14 : decode c_122 14 = .ok (.goto 9, 3) := by decide +kernel
theorem d_122_17 : decode c_122 17 = .ok (.aload_n 0, 1) := by decide +kernel
theorem d_122_18 : decode c_122 18 = .ok (.getfield 33, 3) := by decide +kernel
theorem d_122_21 : decode c_122 21 = .ok (.iload_n 1, 1) := by decide +kernel
theorem d_122_22 : decode c_122 22 = .ok (.iaload, 1) := by decide +kernel
theorem d_122_23 : decode c_122 23 = .ok (.ireturn, 1) := by decide +kernel
theorem d_123_0 : decode c_123 0 = .ok (.aload_n 0, 1) := by decide +kernel
theorem d_123_1 : decode c_123 1 = .ok (.bipush 96, 2) := by decide +kernel
theorem d_123_3 : decode c_123 3 = .ok (.aload_n 0, 1) := by decide +kernel
theorem d_123_4 : decode c_123 4 = .ok (.iload_n 1, 1) := by decide +kernel
theorem d_123_5 : decode c_123 5 = .ok (.invokevirtual 74, 3) := by decide +kernel
theorem d_123_8 : decode c_123 8 = .ok (.aload_n 0, 1) := by decide +kernel
theorem d_123_9 : decode c_123 9 = .ok (.iload_n 1, 1) := by decide +kernel
theorem d_123_10 : decode c_123 10 = .ok (.iload_n 2, 1) := by decide +kernel
theorem d_123_11 : decode c_123 11 = .ok (.iconst 1, 1) := by decide +kernel
theorem d_123_12 : decode c_123 12 = .ok (.iadd, 1) := by decide +kernel
theorem d_123_13 : decode c_123 13 = .ok (.invokevirtual 48, 3) := by decide +kernel
theorem d_123_16 : decode c_123 16 = .ok (.invokevirtual 52, 3) := by decide +kernel
theorem d_123_19 : decode c_123 19 = .ok (.ireturn, 1) := by decide +kernel
theorem d_124_0 : decode c_124 0 = .ok (.aload_n 0, 1) := by decide +kernel
theorem d_124_1 : decode c_124 1 = .ok (.iload_n 1, 1) := by decide +kernel
theorem d_124_2 : decode c_124 2 = .ok (.iconst 2, 1) := by decide +kernel
theorem d_124_3 : decode c_124 3 = .ok (.invokevirtual 116, 3) := by decide +kernel
theorem d_124_6 : decode c_124 6 = .ok (.sipush 1024, 3) := by decide +kernel
theorem d_124_9 : decode c_124 9 = .ok (.if_icmp .eq 5, 3) := by decide +kernel
theorem d_124_12 : decode c_124 12 = .ok (.iconst 0, 1) := by decide +kernel
theorem d_124_13 : decode c_124 13 = .ok (.ireturn, 1) := by decide +kernel
theorem d_124_14 : decode c_124 14 = .ok (.aload_n 0, 1) := by decide +kernel
theorem d_124_15 : decode c_124 15 = .ok (.bipush 96, 2) := by decide +kernel
theorem d_124_17 : decode c_124 17 = .ok (.aload_n 0, 1) := by decide +kernel
theorem d_124_18 : decode c_124 18 = .ok (.iload_n 1, 1) := by decide +kernel
theorem d_124_19 : decode c_124 19 = .ok (.invokevirtual 128, 3) := by decide +kernel
theorem d_124_22 : decode c_124 22 = .ok (.aload_n 0, 1) := by decide +kernel
theorem d_124_23 : decode c_124 23 = .ok (.iload_n 1, 1) := by decide +kernel
theorem d_124_24 : decode c_124 24 = .ok (.iconst 2, 1) := by decide +kernel
theorem d_124_25 : decode c_124 25 = .ok (.invokevirtual 163, 3) := by decide +kernel
theorem d_124_28 : decode c_124 28 = .ok (.invokevirtual 112, 3) := by decide +kernel
theorem d_124_31 : decode c_124 31 = .ok (.ireturn, 1) := by decide +kernel
theorem d_125_0 : decode c_125 0 = .ok (.iload_n 1, 1) := by decide +kernel
theorem d_125_1 : decode c_125 1 = .ok (.iconst 1, 1) := by decide +kernel
theorem d_125_2 : decode c_125 2 = .ok (.if_icmp .lt 11, 3) := by decide +kernel
theorem d_125_5 : decode c_125 5 = .ok (.iload_n 1, 1) := by decide +kernel
theorem d_125_6 : decode c_125 6 = .ok (.aload_n 0, 1) := by decide +kernel
theorem d_125_7 : decode c_125 7 = .ok (.getfield 45, 3) := by decide +kernel
theorem d_125_10 : decode c_125 10 = .ok (.if_icmp .le 7, 3) := by decide +kernel
theorem d_125_13 : decode c_125 13 = .ok (.iconst 0, 1) := by decide +kernel
theorem d_125_14 : decode c_125 14 = .ok (.goto 9, 3) := by decide +kernel
theorem d_125_17 : decode c_125 17 = .ok (.aload_n 0, 1) := by decide +kernel
theorem d_125_18 : decode c_125 18 = .ok (.getfield 39, 3) := by decide +kernel
theorem d_125_21 : decode c_125 21 = .ok (.iload_n 1, 1) := by decide +kernel
theorem d_125_22 : decode c_125 22 = .ok (.iaload, 1) := by decide +kernel
theorem d_125_23 : decode c_125 23 = .ok (.ireturn, 1) := by decide +kernel
theorem d_126_0 : decode c_126 0 = .ok (.iconst 0, 1) := by decide +kernel
theorem d_126_1 : decode c_126 1 = .ok (.istore_n 3, 1) := by decide +kernel
theorem d_126_2 : decode c_126 2 = .ok (.iconst 0, 1) := by decide +kernel
theorem d_126_3 : decode c_126 3 = .ok (.istore 4, 2) := by decide +kernel
theorem d_126_5 : decode c_126 5 = .ok (.iload 4, 2) := by decide +kernel
theorem d_126_7 : decode c_126 7 = .ok (.aload_n 0, 1) := by decide +kernel
theorem d_126_8 : decode c_126 8 = .ok (.iload_n 1, 1) := by decide +kernel
theorem d_126_9 : decode c_126 9 = .ok (.invokevirtual 60, 3) := by decide +kernel
theorem d_126_12 : decode c_126 12 = .ok (.if_icmp .ge 23, 3) := by decide +kernel
theorem d_126_15 : decode c_126 15 = .ok (.aload_n 0, 1) := by decide +kernel
theorem d_126_16 : decode c_126 16 = .ok (.iload_n 1, 1) := by decide +kernel
theorem d_126_17 : decode c_126 17 = .ok (.iload 4, 2) := by decide +kernel
theorem d_126_19 : decode c_126 19 = .ok (.invokevirtual 64, 3) := by decide +kernel
theorem d_126_22 : decode c_126 22 = .ok (.iload_n 2, 1) := by decide +kernel
theorem d_126_23 : decode c_126 23 = .ok (.if_icmp .ne 6, 3) := by decide +kernel
theorem d_126_26 : decode c_126 26 = .ok (.iinc 3 1, 3) := by decide +kernel
theorem d_126_29 : decode c_126 29 = .ok (.iinc 4 1, 3) := by decide +kernel
theorem d_126_32 : decode c_126 32 = .ok (.goto (-27), 3) := by decide +kernel
theorem d_126_35 : decode c_126 35 = .ok (.iload_n 3, 1) := by decide +kernel
theorem d_126_36 : decode c_126 36 = .ok (.ireturn, 1) := by decide +kernel
theorem d_127_0 : decode c_127 0 = .ok (.aload_n 0, 1) := by decide +kernel
theorem d_127_1 : decode c_127 1 = .ok (.invokevirtual 89, 3) := by decide +kernel
theorem d_127_4 : decode c_127 4 = .ok (.astore 4, 2) := by decide +kernel
theorem d_127_6 : decode c_127 6 = .ok (.aload 4, 2) := by decide +kernel
theorem d_127_8 : decode c_127 8 = .ok (.iload_n 1, 1) := by decide +kernel
theorem d_127_9 : decode c_127 9 = .ok (.sipush 256, 3) := by decide +kernel
theorem d_127_12 : decode c_127 12 = .ok (.iload_n 2, 1) := by decide +kernel
theorem d_127_13 : decode c_127 13 = .ok (.invokestatic 105, 3) := by decide +kernel
theorem d_127_16 : decode c_127 16 = .ok (.istore 5, 2) := by decide +kernel
theorem d_127_18 : decode c_127 18 = .ok (.aload 4, 2) := by decide +kernel
theorem d_127_20 : decode c_127 20 = .ok (.ifnull 8, 3) := by decide +kernel
theorem d_127_23 : decode c_127 23 = .ok (.iload 5, 2) := by decide +kernel
theorem d_127_25 : decode c_127 25 = .ok (.ifCond .ne 5, 3) := by decide +kernel
theorem d_127_28 : decode c_127 28 = .ok (.iconst (-1), 1) := by decide +kernel
theorem d_127_29 : decode c_127 29 = .ok (.ireturn, 1) := by decide +kernel
theorem d_127_30 : decode c_127 30 = .ok (.iload_n 3, 1) := by decide +kernel
theorem d_127_31 : decode c_127 31 = .ok (.tableswitch 99 0 4 #[33, 42, 69, 77, 88], 33) := by decide +kernel
theorem d_127_64 : decode c_127 64 = .ok (.aload 4, 2) := by decide +kernel
theorem d_127_66 : decode c_127 66 = .ok (.iload 5, 2) := by decide +kernel
theorem d_127_68 : decode c_127 68 = .ok (.iconst 1, 1) := by decide +kernel
theorem d_127_69 : decode c_127 69 = .ok (.invokevirtual 97, 3) := by decide +kernel
theorem d_127_72 : decode c_127 72 = .ok (.ireturn, 1) := by decide +kernel
theorem d_127_73 : decode c_127 73 = .ok (.aload 4, 2) := by decide +kernel
theorem d_127_75 : decode c_127 75 = .ok (.iload 5, 2) := by decide +kernel
theorem d_127_77 : decode c_127 77 = .ok (.iconst 2, 1) := by decide +kernel
theorem d_127_78 : decode c_127 78 = .ok (.invokevirtual 116, 3) := by decide +kernel
theorem d_127_81 : decode c_127 81 = .ok (.sipush 512, 3) := by decide +kernel
theorem d_127_84 : decode c_127 84 = .ok (.if_icmp .ne 14, 3) := by decide +kernel
theorem d_127_87 : decode c_127 87 = .ok (.aload 4, 2) := by decide +kernel
theorem d_127_89 : decode c_127 89 = .ok (.iload 5, 2) := by decide +kernel
theorem d_127_91 : decode c_127 91 = .ok (.iconst 3, 1) := by decide +kernel
theorem d_127_92 : decode c_127 92 = .ok (.invokevirtual 97, 3) := by decide +kernel
theorem d_127_95 : decode c_127 95 = .ok (.goto 4, 3) := by decide +kernel
theorem d_127_98 : decode c_127 98 = .ok (.iconst 0, 1) := by decide +kernel
theorem d_127_99 : decode c_127 99 = .ok (.ireturn, 1) := by decide +kernel
theorem d_127_100 : decode c_127 100 = .ok (.aload 4, 2) := by decide +kernel
theorem d_127_102 : decode c_127 102 = .ok (.iload 5, 2) := by decide +kernel
theorem d_127_104 : decode c_127 104 = .ok (.invokestatic 119, 3) := by decide +kernel
theorem d_127_107 : decode c_127 107 = .ok (.ireturn, 1) := by decide +kernel
theorem d_127_108 : decode c_127 108 = .ok (.aload 4, 2) := by decide +kernel
theorem d_127_110 : decode c_127 110 = .ok (.iload 5, 2) := by decide +kernel
theorem d_127_112 : decode c_127 112 = .ok (.sipush 2048, 3) := by decide +kernel
theorem d_127_115 : decode c_127 115 = .ok (.invokevirtual 122, 3) := by decide +kernel
theorem d_127_118 : decode c_127 118 = .ok (.ireturn, 1) := by decide +kernel
theorem d_127_119 : decode c_127 119 = .ok (.aload 4, 2) := by decide +kernel
theorem d_127_121 : decode c_127 121 = .ok (.iload 5, 2) := by decide +kernel
theorem d_127_123 : decode c_127 123 = .ok (.sipush 4096, 3) := by decide +kernel
theorem d_127_126 : decode c_127 126 = .ok (.invokevirtual 122, 3) := by decide +kernel
theorem d_127_129 : decode c_127 129 = .ok (.ireturn, 1) := by decide +kernel
theorem d_127_130 : decode c_127 130 = .ok (.bipush (-2), 2) := by decide +kernel
theorem d_127_132 : decode c_127 132 = .ok (.ireturn, 1) := by decide +kernel
theorem d_128_0 : decode c_128 0 = .ok (.iload_n 1, 1) := by decide +kernel
theorem d_128_1 : decode c_128 1 = .ok (.ifCond .ge 7, 3) := by decide +kernel
theorem d_128_4 : decode c_128 4 = .ok (.iconst (-1), 1) := by decide +kernel
theorem d_128_5 : decode c_128 5 = .ok (.goto 10, 3) := by decide +kernel
theorem d_128_8 : decode c_128 8 = .ok (.aload_n 0, 1) := by decide +kernel
theorem d_128_9 : decode c_128 9 = .ok (.iconst 4, 1) := by decide +kernel
theorem d_128_10 : decode c_128 10 = .ok (.iload_n 1, 1) := by decide +kernel
theorem d_128_11 : decode c_128 11 = .ok (.iload_n 2, 1) := by decide +kernel
theorem d_128_12 : decode c_128 12 = .ok (.invokevirtual 329, 3) := by decide +kernel
theorem d_128_15 : decode c_128 15 = .ok (.ireturn, 1) := by decide +kernel
theorem d_129_0 : decode c_129 0 = .ok (.iconst 0, 1) := by decide +kernel
theorem d_129_1 : decode c_129 1 = .ok (.istore_n 3, 1) := by decide +kernel
theorem d_129_2 : decode c_129 2 = .ok (.iconst 0, 1) := by decide +kernel
theorem d_129_3 : decode c_129 3 = .ok (.istore 4, 2) := by decide +kernel
theorem d_129_5 : decode c_129 5 = .ok (.iload 4, 2) := by decide +kernel
theorem d_129_7 : decode c_129 7 = .ok (.aload_n 0, 1) := by decide +kernel
theorem d_129_8 : decode c_129 8 = .ok (.getfield 103, 3) := by decide +kernel
theorem d_129_11 : decode c_129 11 = .ok (.iload_n 1, 1) := by decide +kernel
theorem d_129_12 : decode c_129 12 = .ok (.iaload, 1) := by decide +kernel
theorem d_129_13 : decode c_129 13 = .ok (.if_icmp .ge 35, 3) := by decide +kernel
theorem d_129_16 : decode c_129 16 = .ok (.iload_n 3, 1) := by decide +kernel
theorem d_129_17 : decode c_129 17 = .ok (.aload_n 0, 1) := by decide +kernel
theorem d_129_18 : decode c_129 18 = .ok (.getfield 106, 3) := by decide +kernel
theorem d_129_21 : decode c_129 21 = .ok (.aload_n 0, 1) := by decide +kernel
theorem d_129_22 : decode c_129 22 = .ok (.getfield 100, 3) := by decide +kernel
theorem d_129_25 : decode c_129 25 = .ok (.iload_n 1, 1) := by decide +kernel
theorem d_129_26 : decode c_129 26 = .ok (.iaload, 1) := by decide +kernel
theorem d_129_27 : decode c_129 27 = .ok (.iload 4, 2) := by decide +kernel
theorem d_129_29 : decode c_129 29 = .ok (.iadd, 1) := by decide +kernel
theorem d_129_30 : decode c_129 30 = .ok (.iaload, 1) := by decide +kernel
theorem d_129_31 : decode c_129 31 = .ok (.iload_n 2, 1) := by decide +kernel
theorem d_129_32 : decode c_129 32 = .ok (.if_icmp .ne 7, 3) := by decide +kernel
theorem d_129_35 : decode c_129 35 = .ok (.iconst 1, 1) := by decide +kernel
theorem d_129_36 : decode c_129 36 = .ok (.goto 4, 3) := by decide +kernel
theorem d_129_39 : decode c_129 39 = .ok (.iconst 0, 1) := by decide +kernel
theorem d_129_40 : decode c_129 40 = .ok (.iadd, 1) := by decide +kernel
theorem d_129_41 : decode c_129 41 = .ok (.istore_n 3, 1) := by decide +kernel
theorem d_129_42 : decode c_129 42 = .ok (.iinc 4 1, 3) := by decide +kernel
theorem d_129_45 : decode c_129 45 = .ok (.goto (-40), 3) := by decide +kernel
theorem d_129_48 : decode c_129 48 = .ok (.iload_n 3, 1) := by decide +kernel
theorem d_129_49 : decode c_129 49 = .ok (.ireturn, 1) := by decide +kernel
theorem d_130_0 : decode c_130 0 = .ok (.aload_n 0, 1) := by decide +kernel
theorem d_130_1 : decode c_130 1 = .ok (.iconst 3, 1) := by decide +kernel
theorem d_130_2 : decode c_130 2 = .ok (.iconst (-1), 1) := by decide +kernel
theorem d_130_3 : decode c_130 3 = .ok (.iload_n 1, 1) := by decide +kernel
theorem d_130_4 : decode c_130 4 = .ok (.invokevirtual 333, 3) := by decide +kernel
theorem d_130_7 : decode c_130 7 = .ok (.istore 4, 2) := by decide +kernel
theorem d_130_9 : decode c_130 9 = .ok (.iload 4, 2) := by decide +kernel
theorem d_130_11 : decode c_130 11 = .ok (.ifCond .ge 7, 3) := by decide +kernel
theorem d_130_14 : decode c_130 14 = .ok (.iconst (-1), 1) := by decide +kernel
theorem d_130_15 : decode c_130 15 = .ok (.goto 11, 3) := by decide +kernel
theorem d_130_18 : decode c_130 18 = .ok (.aload_n 0, 1) := by decide +kernel
theorem d_130_19 : decode c_130 19 = .ok (.iconst 5, 1) := by decide +kernel
theorem d_130_20 : decode c_130 20 = .ok (.iload 4, 2) := by decide +kernel
theorem d_130_22 : decode c_130 22 = .ok (.iload_n 2, 1) := by decide +kernel
theorem d_130_23 : decode c_130 23 = .ok (.invokevirtual 333, 3) := by decide +kernel
theorem d_130_26 : decode c_130 26 = .ok (.istore 5, 2) := by decide +kernel
theorem d_130_28 : decode c_130 28 = .ok (.iload 5, 2) := by decide +kernel
theorem d_130_30 : decode c_130 30 = .ok (.ifCond .ge 5, 3) := by decide +kernel
theorem d_130_33 : decode c_130 33 = .ok (.iconst (-1), 1) := by decide +kernel
theorem d_130_34 : decode c_130 34 = .ok (.ireturn, 1) := by decide +kernel
theorem d_130_35 : decode c_130 35 = .ok (.iload_n 3, 1) := by decide +kernel
theorem d_130_36 : decode c_130 36 = .ok (.tableswitch 122 0 4 #[36, 44, 67, 106, 114], 36) := by decide +kernel
theorem d_130_72 : decode c_130 72 = .ok (.aload_n 0, 1) := by decide +kernel
theorem d_130_73 : decode c_130 73 = .ok (.getfield 76, 3) := by decide +kernel
theorem d_130_76 : decode c_130 76 = .ok (.iload 5, 2) := by decide +kernel
theorem d_130_78 : decode c_130 78 = .ok (.iaload, 1) := by decide +kernel
theorem d_130_79 : decode c_130 79 = .ok (.ireturn, 1) := by decide +kernel
theorem d_130_80 : decode c_130 80 = .ok (.aload_n 0, 1) := by decide +kernel
theorem d_130_81 : decode c_130 81 = .ok (.getfield 97, 3) := by decide +kernel
theorem d_130_84 : decode c_130 84 = .ok (.iload 5, 2) := by decide +kernel
theorem d_130_86 : decode c_130 86 = .ok (.iaload, 1) := by decide +kernel
theorem d_130_87 : decode c_130 87 = .ok (.iconst 1, 1) := by decide +kernel
theorem d_130_88 : decode c_130 88 = .ok (.if_icmp .ne 13, 3) := by decide +kernel
theorem d_130_91 : decode c_130 91 = .ok (.aload_n 0, 1) := by decide +kernel
theorem d_130_92 : decode c_130 92 = .ok (.getfield 91, 3) := by decide +kernel
theorem d_130_95 : decode c_130 95 = .ok (.iload 5, 2) := by decide +kernel
theorem d_130_97 : decode c_130 97 = .ok (.iaload, 1) := by decide +kernel
theorem d_130_98 : decode c_130 98 = .ok (.goto 4, 3) := by decide +kernel
theorem d_130_101 : decode c_130 101 = .ok (.iconst 0, 1) := by decide +kernel
theorem d_130_102 : decode c_130 102 = .ok (.ireturn, 1) := by decide +kernel
theorem d_130_103 : decode c_130 103 = .ok (.aload_n 0, 1) := by decide +kernel
theorem d_130_104 : decode c_130 104 = .ok (.getfield 97, 3) := by decide +kernel
theorem d_130_107 : decode c_130 107 = .ok (.iload 5, 2) := by decide +kernel
theorem d_130_109 : decode c_130 109 = .ok (.iaload, 1) := by decide +kernel
theorem d_130_110 : decode c_130 110 = .ok (.iconst 2, 1) := by decide +kernel
theorem d_130_111 : decode c_130 111 = .ok (.if_icmp .ne 29, 3) := by decide +kernel
theorem d_130_114 : decode c_130 114 = .ok (.aload_n 0, 1) := by decide +kernel
theorem d_130_115 : decode c_130 115 = .ok (.iconst 4, 1) := by decide +kernel
theorem d_130_116 : decode c_130 116 = .ok (.aload_n 0, 1) := by decide +kernel
theorem d_130_117 : decode c_130 117 = .ok (.iload 4, 2) := by decide +kernel
theorem d_130_119 : decode c_130 119 = .ok (.aload_n 0, 1) := by decide +kernel
theorem d_130_120 : decode c_130 120 = .ok (.getfield 109, 3) := by decide +kernel
theorem d_130_123 : decode c_130 123 = .ok (.aload_n 0, 1) := by decide +kernel
theorem d_130_124 : decode c_130 124 = .ok (.getfield 100, 3) := by decide +kernel
theorem d_130_127 : decode c_130 127 = .ok (.iload 5, 2) := by decide +kernel
theorem d_130_129 : decode c_130 129 = .ok (.iaload, 1) := by decide +kernel
theorem d_130_130 : decode c_130 130 = .ok (.iaload, 1) := by decide +kernel
theorem d_130_131 : decode c_130 131 = .ok (.invokevirtual 343, 3) := by decide +kernel
theorem d_130_134 : decode c_130 134 = .ok (.invokevirtual 340, 3) := by decide +kernel
theorem d_130_137 : decode c_130 137 = .ok (.goto 4, 3) := by decide +kernel
theorem d_130_140 : decode c_130 140 = .ok (.iconst 0, 1) := by decide +kernel
theorem d_130_141 : decode c_130 141 = .ok (.ireturn, 1) := by decide +kernel
theorem d_130_142 : decode c_130 142 = .ok (.aload_n 0, 1) := by decide +kernel
theorem d_130_143 : decode c_130 143 = .ok (.iload 5, 2) := by decide +kernel
theorem d_130_145 : decode c_130 145 = .ok (.iconst 1, 1) := by decide +kernel
theorem d_130_146 : decode c_130 146 = .ok (.invokevirtual 346, 3) := by decide +kernel
theorem d_130_149 : decode c_130 149 = .ok (.ireturn, 1) := by decide +kernel
theorem d_130_150 : decode c_130 150 = .ok (.aload_n 0, 1) := by decide +kernel
theorem d_130_151 : decode c_130 151 = .ok (.iload 5, 2) := by decide +kernel
theorem d_130_153 : decode c_130 153 = .ok (.iconst 2, 1) := by decide +kernel
theorem d_130_154 : decode c_130 154 = .ok (.invokevirtual 346, 3) := by decide +kernel
theorem d_130_157 : decode c_130 157 = .ok (.ireturn, 1) := by decide +kernel
theorem d_130_158 : decode c_130 158 = .ok (.bipush (-2), 2) := by decide +kernel
theorem d_130_160 : decode c_130 160 = .ok (.ireturn, 1) := by decide +kernel
theorem d_131_0 : decode c_131 0 = .ok (.aload_n 0, 1) := by decide +kernel
theorem d_131_1 : decode c_131 1 = .ok (.ldc 56, 2) := by decide +kernel
theorem d_131_3 : decode c_131 3 = .ok (.aload_n 0, 1) := by decide +kernel
theorem d_131_4 : decode c_131 4 = .ok (.iload_n 1, 1) := by decide +kernel
theorem d_131_5 : decode c_131 5 = .ok (.invokevirtual 74, 3) := by decide +kernel
theorem d_131_8 : decode c_131 8 = .ok (.aload_n 0, 1) := by decide +kernel
theorem d_131_9 : decode c_131 9 = .ok (.iload_n 1, 1) := by decide +kernel
theorem d_131_10 : decode c_131 10 = .ok (.iload_n 2, 1) := by decide +kernel
theorem d_131_11 : decode c_131 11 = .ok (.invokevirtual 48, 3) := by decide +kernel
theorem d_131_14 : decode c_131 14 = .ok (.invokevirtual 52, 3) := by decide +kernel
theorem d_131_17 : decode c_131 17 = .ok (.ireturn, 1) := by decide +kernel
theorem d_132_0 : decode c_132 0 = .ok (.aload_n 0, 1) := by decide +kernel
theorem d_132_1 : decode c_132 1 = .ok (.ldc 104, 2) := by decide +kernel
theorem d_132_3 : decode c_132 3 = .ok (.aload_n 0, 1) := by decide +kernel
theorem d_132_4 : decode c_132 4 = .ok (.iload_n 1, 1) := by decide +kernel
theorem d_132_5 : decode c_132 5 = .ok (.invokevirtual 128, 3) := by decide +kernel
theorem d_132_8 : decode c_132 8 = .ok (.aload_n 0, 1) := by decide +kernel
theorem d_132_9 : decode c_132 9 = .ok (.iload_n 1, 1) := by decide +kernel
theorem d_132_10 : decode c_132 10 = .ok (.iload_n 2, 1) := by decide +kernel
theorem d_132_11 : decode c_132 11 = .ok (.invokevirtual 166, 3) := by decide +kernel
theorem d_132_14 : decode c_132 14 = .ok (.invokevirtual 112, 3) := by decide +kernel
theorem d_132_17 : decode c_132 17 = .ok (.ireturn, 1) := by decide +kernel
theorem d_133_0 : decode c_133 0 = .ok (.aload_n 0, 1) := by decide +kernel
theorem d_133_1 : decode c_133 1 = .ok (.bipush 96, 2) := by decide +kernel
theorem d_133_3 : decode c_133 3 = .ok (.aload_n 0, 1) := by decide +kernel
theorem d_133_4 : decode c_133 4 = .ok (.iload_n 3, 1) := by decide +kernel
theorem d_133_5 : decode c_133 5 = .ok (.invokevirtual 77, 3) := by decide +kernel
theorem d_133_8 : decode c_133 8 = .ok (.aload_n 0, 1) := by decide +kernel
theorem d_133_9 : decode c_133 9 = .ok (.iload_n 1, 1) := by decide +kernel
theorem d_133_10 : decode c_133 10 = .ok (.iload_n 2, 1) := by decide +kernel
theorem d_133_11 : decode c_133 11 = .ok (.iconst 2, 1) := by decide +kernel
theorem d_133_12 : decode c_133 12 = .ok (.iadd, 1) := by decide +kernel
theorem d_133_13 : decode c_133 13 = .ok (.invokevirtual 48, 3) := by decide +kernel
theorem d_133_16 : decode c_133 16 = .ok (.invokevirtual 52, 3) := by decide +kernel
theorem d_133_19 : decode c_133 19 = .ok (.ireturn, 1) := by decide +kernel
theorem d_134_0 : decode c_134 0 = .ok (.aload_n 0, 1) := by decide +kernel
theorem d_134_1 : decode c_134 1 = .ok (.iload_n 1, 1) := by decide +kernel
theorem d_134_2 : decode c_134 2 = .ok (.iload_n 2, 1) := by decide +kernel
theorem d_134_3 : decode c_134 3 = .ok (.aload_n 0, 1) := by decide +kernel
theorem d_134_4 : decode c_134 4 = .ok (.iload_n 1, 1) := by decide +kernel
theorem d_134_5 : decode c_134 5 = .ok (.iload_n 2, 1) := by decide +kernel
theorem d_134_6 : decode c_134 6 = .ok (.invokevirtual 166, 3) := by decide +kernel
theorem d_134_9 : decode c_134 9 = .ok (.invokevirtual 169, 3) := by decide +kernel
theorem d_134_12 : decode c_134 12 = .ok (.istore_n 3, 1) := by decide +kernel
theorem d_134_13 : decode c_134 13 = .ok (.aload_n 0, 1) := by decide +kernel
theorem d_134_14 : decode c_134 14 = .ok (.bipush 96, 2) := by decide +kernel
theorem d_134_16 : decode c_134 16 = .ok (.aload_n 0, 1) := by decide +kernel
theorem d_134_17 : decode c_134 17 = .ok (.iload_n 3, 1) := by decide +kernel
theorem d_134_18 : decode c_134 18 = .ok (.invokevirtual 128, 3) := by decide +kernel
theorem d_134_21 : decode c_134 21 = .ok (.iload_n 3, 1) := by decide +kernel
theorem d_134_22 : decode c_134 22 = .ok (.invokevirtual 112, 3) := by decide +kernel
theorem d_134_25 : decode c_134 25 = .ok (.ireturn, 1) := by decide +kernel
theorem d_135_0 : decode c_135 0 = .ok (.aload_n 0, 1) := by decide +kernel
theorem d_135_1 : decode c_135 1 = .ok (.invokevirtual 89, 3) := by decide +kernel
theorem d_135_4 : decode c_135 4 = .ok (.astore_n 3, 1) := by decide +kernel
theorem d_135_5 : decode c_135 5 = .ok (.aload_n 3, 1) := by decide +kernel
theorem d_135_6 : decode c_135 6 = .ok (.ifnonnull 7, 3) := by decide +kernel
theorem d_135_9 : decode c_135 9 = .ok (.iconst 0, 1) := by decide +kernel
theorem d_135_10 : decode c_135 10 = .ok (.goto 12, 3) := by decide +kernel
theorem d_135_13 : decode c_135 13 = .ok (.aload_n 3, 1) := by decide +kernel
theorem d_135_14 : decode c_135 14 = .ok (.sipush 16384, 3) := by decide +kernel
theorem d_135_17 : decode c_135 17 = .ok (.iconst (-1), 1) := by decide +kernel
theorem d_135_18 : decode c_135 18 = .ok (.iload_n 1, 1) := by decide +kernel
theorem d_135_19 : decode c_135 19 = .ok (.invokevirtual 125, 3) := by decide +kernel
theorem d_135_22 : decode c_135 22 = .ok (.istore 4, 2) := by decide +kernel
theorem d_135_24 : decode c_135 24 = .ok (.aload_n 3, 1) := by decide +kernel
theorem d_135_25 : decode c_135 25 = .ok (.ifnull 8, 3) := by decide +kernel
theorem d_135_28 : decode c_135 28 = .ok (.iload 4, 2) := by decide +kernel
theorem d_135_30 : decode c_135 30 = .ok (.ifCond .ne 5, 3) := by decide +kernel
theorem d_135_33 : decode c_135 33 = .ok (.iconst (-1), 1) := by decide +kernel
theorem d_135_34 : decode c_135 34 = .ok (.ireturn, 1) := by decide +kernel
theorem d_135_35 : decode c_135 35 = .ok (.iload_n 2, 1) := by decide +kernel
theorem d_135_36 : decode c_135 36 = .ok (.tableswitch 83 0 4 #[36, 51, 59, 67, 75], 36) := by decide +kernel
theorem d_135_72 : decode c_135 72 = .ok (.aload_n 3, 1) := by decide +kernel
theorem d_135_73 : decode c_135 73 = .ok (.sipush 8208, 3) := by decide +kernel
theorem d_135_76 : decode c_135 76 = .ok (.iconst 0, 1) := by decide +kernel
theorem d_135_77 : decode c_135 77 = .ok (.aload_n 3, 1) := by decide +kernel
theorem d_135_78 : decode c_135 78 = .ok (.iload 4, 2) := by decide +kernel
theorem d_135_80 : decode c_135 80 = .ok (.invokevirtual 128, 3) := by decide +kernel
theorem d_135_83 : decode c_135 83 = .ok (.invokevirtual 112, 3) := by decide +kernel
theorem d_135_86 : decode c_135 86 = .ok (.ireturn, 1) := by decide +kernel
theorem d_135_87 : decode c_135 87 = .ok (.aload_n 3, 1) := by decide +kernel
theorem d_135_88 : decode c_135 88 = .ok (.iload 4, 2) := by decide +kernel
theorem d_135_90 : decode c_135 90 = .ok (.iconst 1, 1) := by decide +kernel
theorem d_135_91 : decode c_135 91 = .ok (.invokestatic 131, 3) := by decide +kernel
theorem d_135_94 : decode c_135 94 = .ok (.ireturn, 1) := by decide +kernel
theorem d_135_95 : decode c_135 95 = .ok (.aload_n 3, 1) := by decide +kernel
theorem d_135_96 : decode c_135 96 = .ok (.iload 4, 2) := by decide +kernel
theorem d_135_98 : decode c_135 98 = .ok (.iconst 1, 1) := by decide +kernel
theorem d_135_99 : decode c_135 99 = .ok (.invokestatic 135, 3) := by decide +kernel
theorem d_135_102 : decode c_135 102 = .ok (.ireturn, 1) := by decide +kernel
theorem d_135_103 : decode c_135 103 = .ok (.aload_n 3, 1) := by decide +kernel
theorem d_135_104 : decode c_135 104 = .ok (.iload 4, 2) := by decide +kernel
theorem d_135_106 : decode c_135 106 = .ok (.iconst 5, 1) := by decide +kernel
theorem d_135_107 : decode c_135 107 = .ok (.invokestatic 131, 3) := by decide +kernel
theorem d_135_110 : decode c_135 110 = .ok (.ireturn, 1) := by decide +kernel
theorem d_135_111 : decode c_135 111 = .ok (.aload_n 3, 1) := by decide +kernel
theorem d_135_112 : decode c_135 112 = .ok (.iload 4, 2) := by decide +kernel
theorem d_135_114 : decode c_135 114 = .ok (.iconst 5, 1) := by decide +kernel
theorem d_135_115 : decode c_135 115 = .ok (.invokestatic 135, 3) := by decide +kernel
theorem d_135_118 : decode c_135 118 = .ok (.ireturn, 1) := by decide +kernel
theorem d_135_119 : decode c_135 119 = .ok (.bipush (-2), 2) := by decide +kernel
theorem d_135_121 : decode c_135 121 = .ok (.ireturn, 1) := by decide +kernel
theorem d_136_0 : decode c_136 0 = .ok (.iload_n 1, 1) := by decide +kernel
theorem d_136_1 : decode c_136 1 = .ok (.ifCond .ge 7, 3) := by decide +kernel
theorem d_136_4 : decode c_136 4 = .ok (.iconst (-1), 1) := by decide +kernel
theorem d_136_5 : decode c_136 5 = .ok (.goto 15, 3) := by decide +kernel
theorem d_136_8 : decode c_136 8 = .ok (.aload_n 0, 1) := by decide +kernel
theorem d_136_9 : decode c_136 9 = .ok (.iconst 3, 1) := by decide +kernel
theorem d_136_10 : decode c_136 10 = .ok (.iconst (-1), 1) := by decide +kernel
theorem d_136_11 : decode c_136 11 = .ok (.aload_n 0, 1) := by decide +kernel
theorem d_136_12 : decode c_136 12 = .ok (.getfield 79, 3) := by decide +kernel
theorem d_136_15 : decode c_136 15 = .ok (.iload_n 1, 1) := by decide +kernel
theorem d_136_16 : decode c_136 16 = .ok (.iaload, 1) := by decide +kernel
theorem d_136_17 : decode c_136 17 = .ok (.invokevirtual 329, 3) := by decide +kernel
theorem d_136_20 : decode c_136 20 = .ok (.ireturn, 1) := by decide +kernel
theorem d_137_0 : decode c_137 0 = .ok (.aload_n 0, 1) := by decide +kernel
theorem d_137_1 : decode c_137 1 = .ok (.bipush 8, 2) := by decide +kernel
theorem d_137_3 : decode c_137 3 = .ok (.iconst (-1), 1) := by decide +kernel
theorem d_137_4 : decode c_137 4 = .ok (.iload_n 1, 1) := by decide +kernel
theorem d_137_5 : decode c_137 5 = .ok (.invokevirtual 333, 3) := by decide +kernel
theorem d_137_8 : decode c_137 8 = .ok (.istore_n 3, 1) := by decide +kernel
theorem d_137_9 : decode c_137 9 = .ok (.iload_n 3, 1) := by decide +kernel
theorem d_137_10 : decode c_137 10 = .ok (.ifCond .ge 5, 3) := by decide +kernel
theorem d_137_13 : decode c_137 13 = .ok (.iconst (-1), 1) := by decide +kernel
theorem d_137_14 : decode c_137 14 = .ok (.ireturn, 1) := by decide +kernel
theorem d_137_15 : decode c_137 15 = .ok (.aload_n 0, 1) := by decide +kernel
theorem d_137_16 : decode c_137 16 = .ok (.bipush 7, 2) := by decide +kernel
theorem d_137_18 : decode c_137 18 = .ok (.aload_n 0, 1) := by decide +kernel
theorem d_137_19 : decode c_137 19 = .ok (.getfield 73, 3) := by decide +kernel
theorem d_137_22 : decode c_137 22 = .ok (.iload_n 3, 1) := by decide +kernel
theorem d_137_23 : decode c_137 23 = .ok (.iaload, 1) := by decide +kernel
theorem d_137_24 : decode c_137 24 = .ok (.aload_n 0, 1) := by decide +kernel
theorem d_137_25 : decode c_137 25 = .ok (.getfield 79, 3) := by decide +kernel
theorem d_137_28 : decode c_137 28 = .ok (.iload_n 3, 1) := by decide +kernel
theorem d_137_29 : decode c_137 29 = .ok (.iaload, 1) := by decide +kernel
theorem d_137_30 : decode c_137 30 = .ok (.invokevirtual 329, 3) := by decide +kernel
theorem d_137_33 : decode c_137 33 = .ok (.istore 4, 2) := by decide +kernel
theorem d_137_35 : decode c_137 35 = .ok (.aload_n 0, 1) := by decide +kernel
theorem d_137_36 : decode c_137 36 = .ok (.bipush 7, 2) := by decide +kernel
theorem d_137_38 : decode c_137 38 = .ok (.aload_n 0, 1) := by decide +kernel
theorem d_137_39 : decode c_137 39 = .ok (.getfield 73, 3) := by decide +kernel
theorem d_137_42 : decode c_137 42 = .ok (.iload_n 3, 1) := by decide +kernel
theorem d_137_43 : decode c_137 43 = .ok (.iaload, 1) := by decide +kernel
theorem d_137_44 : decode c_137 44 = .ok (.aload_n 0, 1) := by decide +kernel
theorem d_137_45 : decode c_137 45 = .ok (.getfield 85, 3) := by decide +kernel
theorem d_137_48 : decode c_137 48 = .ok (.iload_n 3, 1) := by decide +kernel
theorem d_137_49 : decode c_137 49 = .ok (.iaload, 1) := by decide +kernel
theorem d_137_50 : decode c_137 50 = .ok (.invokevirtual 329, 3) := by decide +kernel
theorem d_137_53 : decode c_137 53 = .ok (.istore 5, 2) := by decide +kernel
theorem d_137_55 : decode c_137 55 = .ok (.iload_n 2, 1) := by decide +kernel
theorem d_137_56 : decode c_137 56 = .ok (.tableswitch 110 0 4 #[36, 48, 57, 79, 88], 36) := by decide +kernel
theorem d_137_92 : decode c_137 92 = .ok (.aload_n 0, 1) := by decide +kernel
theorem d_137_93 : decode c_137 93 = .ok (.iconst 3, 1) := by decide +kernel
theorem d_137_94 : decode c_137 94 = .ok (.aload_n 0, 1) := by decide +kernel
theorem d_137_95 : decode c_137 95 = .ok (.getfield 73, 3) := by decide +kernel
theorem d_137_98 : decode c_137 98 = .ok (.iload_n 3, 1) := by decide +kernel
theorem d_137_99 : decode c_137 99 = .ok (.iaload, 1) := by decide +kernel
theorem d_137_100 : decode c_137 100 = .ok (.invokevirtual 340, 3) := by decide +kernel
theorem d_137_103 : decode c_137 103 = .ok (.ireturn, 1) := by decide +kernel
theorem d_137_104 : decode c_137 104 = .ok (.aload_n 0, 1) := by decide +kernel
theorem d_137_105 : decode c_137 105 = .ok (.bipush 7, 2) := by decide +kernel
theorem d_137_107 : decode c_137 107 = .ok (.iload 4, 2) := by decide +kernel
theorem d_137_109 : decode c_137 109 = .ok (.invokevirtual 340, 3) := by decide +kernel
theorem d_137_112 : decode c_137 112 = .ok (.ireturn, 1) := by decide +kernel
theorem d_137_113 : decode c_137 113 = .ok (.aload_n 0, 1) := by decide +kernel
theorem d_137_114 : decode c_137 114 = .ok (.iconst 4, 1) := by decide +kernel
theorem d_137_115 : decode c_137 115 = .ok (.aload_n 0, 1) := by decide +kernel
theorem d_137_116 : decode c_137 116 = .ok (.aload_n 0, 1) := by decide +kernel
theorem d_137_117 : decode c_137 117 = .ok (.iload 4, 2) := by decide +kernel
theorem d_137_119 : decode c_137 119 = .ok (.invokevirtual 349, 3) := by decide +kernel
theorem d_137_122 : decode c_137 122 = .ok (.aload_n 0, 1) := by decide +kernel
theorem d_137_123 : decode c_137 123 = .ok (.getfield 82, 3) := by decide +kernel
theorem d_137_126 : decode c_137 126 = .ok (.iload_n 3, 1) := by decide +kernel
theorem d_137_127 : decode c_137 127 = .ok (.iaload, 1) := by decide +kernel
theorem d_137_128 : decode c_137 128 = .ok (.invokevirtual 343, 3) := by decide +kernel
theorem d_137_131 : decode c_137 131 = .ok (.invokevirtual 340, 3) := by decide +kernel
theorem d_137_134 : decode c_137 134 = .ok (.ireturn, 1) := by decide +kernel
theorem d_137_135 : decode c_137 135 = .ok (.aload_n 0, 1) := by decide +kernel
theorem d_137_136 : decode c_137 136 = .ok (.bipush 7, 2) := by decide +kernel
theorem d_137_138 : decode c_137 138 = .ok (.iload 5, 2) := by decide +kernel
theorem d_137_140 : decode c_137 140 = .ok (.invokevirtual 340, 3) := by decide +kernel
theorem d_137_143 : decode c_137 143 = .ok (.ireturn, 1) := by decide +kernel
theorem d_137_144 : decode c_137 144 = .ok (.aload_n 0, 1) := by decide +kernel
theorem d_137_145 : decode c_137 145 = .ok (.iconst 4, 1) := by decide +kernel
theorem d_137_146 : decode c_137 146 = .ok (.aload_n 0, 1) := by decide +kernel
theorem d_137_147 : decode c_137 147 = .ok (.aload_n 0, 1) := by decide +kernel
theorem d_137_148 : decode c_137 148 = .ok (.iload 5, 2) := by decide +kernel
theorem d_137_150 : decode c_137 150 = .ok (.invokevirtual 349, 3) := by decide +kernel
theorem d_137_153 : decode c_137 153 = .ok (.aload_n 0, 1) := by decide +kernel
theorem d_137_154 : decode c_137 154 = .ok (.getfield 88, 3) := by decide +kernel
theorem d_137_157 : decode c_137 157 = .ok (.iload_n 3, 1) := by decide +kernel
theorem d_137_158 : decode c_137 158 = .ok (.iaload, 1) := by decide +kernel
theorem d_137_159 : decode c_137 159 = .ok (.invokevirtual 343, 3) := by decide +kernel
theorem d_137_162 : decode c_137 162 = .ok (.invokevirtual 340, 3) := by decide +kernel
theorem d_137_165 : decode c_137 165 = .ok (.ireturn, 1) := by decide +kernel
theorem d_137_166 : decode c_137 166 = .ok (.bipush (-2), 2) := by decide +kernel
theorem d_137_168 : decode c_137 168 = .ok (.ireturn, 1) := by decide +kernel
theorem d_138_0 : decode c_138 0 = .ok (.aload_n 0, 1) := by decide +kernel
theorem d_138_1 : decode c_138 1 = .ok (.iload_n 1, 1) := by decide +kernel
theorem d_138_2 : decode c_138 2 = .ok (.invokevirtual 29, 3) := by decide +kernel
theorem d_138_5 : decode c_138 5 = .ok (.istore_n 2, 1) := by decide +kernel
theorem d_138_6 : decode c_138 6 = .ok (.iload_n 2, 1) := by decide +kernel
theorem d_138_7 : decode c_138 7 = .ok (.ldc 48, 2) := by decide +kernel
theorem d_138_9 : decode c_138 9 = .ok (.iand, 1) := by decide +kernel
theorem d_138_10 : decode c_138 10 = .ok (.ifCond .ne 5, 3) := by decide +kernel
theorem d_138_13 : decode c_138 13 = .ok (.iconst 0, 1) := by decide +kernel
theorem d_138_14 : decode c_138 14 = .ok (.ireturn, 1) := by decide +kernel
theorem d_138_15 : decode c_138 15 = .ok (.iload_n 2, 1) := by decide +kernel
theorem d_138_16 : decode c_138 16 = .ok (.sipush 8215, 3) := by decide +kernel
theorem d_138_19 : decode c_138 19 = .ok (.iand, 1) := by decide +kernel
theorem d_138_20 : decode c_138 20 = .ok (.ifCond .eq 9, 3) := by decide +kernel
theorem d_138_23 : decode c_138 23 = .ok (.sipush 8215, 3) := by decide +kernel
theorem d_138_26 : decode c_138 26 = .ok (.goto 5, 3) := by decide +kernel
theorem d_138_29 : decode c_138 29 = .ok (.ldc 49, 2) := by decide +kernel
theorem d_138_31 : decode c_138 31 = .ok (.istore_n 3, 1) := by decide +kernel
theorem d_138_32 : decode c_138 32 = .ok (.aload_n 0, 1) := by decide +kernel
theorem d_138_33 : decode c_138 33 = .ok (.iload_n 3, 1) := by decide +kernel
theorem d_138_34 : decode c_138 34 = .ok (.aload_n 0, 1) := by decide +kernel
theorem d_138_35 : decode c_138 35 = .ok (.iload_n 1, 1) := by decide +kernel
theorem d_138_36 : decode c_138 36 = .ok (.invokevirtual 50, 3) := by decide +kernel
theorem d_138_39 : decode c_138 39 = .ok (.aload_n 0, 1) := by decide +kernel
theorem d_138_40 : decode c_138 40 = .ok (.iload_n 1, 1) := by decide +kernel
theorem d_138_41 : decode c_138 41 = .ok (.iconst 1, 1) := by decide +kernel
theorem d_138_42 : decode c_138 42 = .ok (.invokevirtual 53, 3) := by decide +kernel
theorem d_138_45 : decode c_138 45 = .ok (.invokevirtual 57, 3) := by decide +kernel
theorem d_138_48 : decode c_138 48 = .ok (.iload_n 1, 1) := by decide +kernel
theorem d_138_49 : decode c_138 49 = .ok (.if_icmp .eq 7, 3) := by decide +kernel
theorem d_138_52 : decode c_138 52 = .ok (.iconst 1, 1) := by decide +kernel
theorem d_138_53 : decode c_138 53 = .ok (.goto 4, 3) := by decide +kernel
theorem d_138_56 : decode c_138 56 = .ok (.iconst 0, 1) := by decide +kernel
theorem d_138_57 : decode c_138 57 = .ok (.ireturn, 1) := by decide +kernel
theorem d_139_0 : decode c_139 0 = .ok (.aload_n 0, 1) := by decide +kernel
theorem d_139_1 : decode c_139 1 = .ok (.iload_n 1, 1) := by decide +kernel
theorem d_139_2 : decode c_139 2 = .ok (.invokevirtual 36, 3) := by decide +kernel
theorem d_139_5 : decode c_139 5 = .ok (.ifCond .ne 5, 3) := by decide +kernel
theorem d_139_8 : decode c_139 8 = .ok (.iconst 2, 1) := by decide +kernel
theorem d_139_9 : decode c_139 9 = .ok (.ireturn, 1) := by decide +kernel
theorem d_139_10 : decode c_139 10 = .ok (.aload_n 0, 1) := by decide +kernel
theorem d_139_11 : decode c_139 11 = .ok (.iload_n 1, 1) := by decide +kernel
theorem d_139_12 : decode c_139 12 = .ok (.iconst 3, 1) := by decide +kernel
theorem d_139_13 : decode c_139 13 = .ok (.invokevirtual 53, 3) := by decide +kernel
theorem d_139_16 : decode c_139 16 = .ok (.aload_n 0, 1) := by decide +kernel
theorem d_139_17 : decode c_139 17 = .ok (.iload_n 1, 1) := by decide +kernel
theorem d_139_18 : decode c_139 18 = .ok (.iconst 5, 1) := by decide +kernel
theorem d_139_19 : decode c_139 19 = .ok (.invokevirtual 53, 3) := by decide +kernel
theorem d_139_22 : decode c_139 22 = .ok (.if_icmp .le 7, 3) := by decide +kernel
theorem d_139_25 : decode c_139 25 = .ok (.iconst 3, 1) := by decide +kernel
theorem d_139_26 : decode c_139 26 = .ok (.goto 4, 3) := by decide +kernel
theorem d_139_29 : decode c_139 29 = .ok (.iconst 0, 1) := by decide +kernel
theorem d_139_30 : decode c_139 30 = .ok (.ireturn, 1) := by decide +kernel
theorem d_140_0 : decode c_140 0 = .ok (.aload_n 0, 1) := by decide +kernel
theorem d_140_1 : decode c_140 1 = .ok (.iload_n 1, 1) := by decide +kernel
theorem d_140_2 : decode c_140 2 = .ok (.invokevirtual 36, 3) := by decide +kernel
theorem d_140_5 : decode c_140 5 = .ok (.istore_n 3, 1) := by decide +kernel
theorem d_140_6 : decode c_140 6 = .ok (.iload_n 3, 1) := by decide +kernel
theorem d_140_7 : decode c_140 7 = .ok (.ifCond .eq 18, 3) := by decide +kernel
theorem d_140_10 : decode c_140 10 = .ok (.aload_n 0, 1) := by decide +kernel
theorem d_140_11 : decode c_140 11 = .ok (.bipush 8, 2) := by decide +kernel
theorem d_140_13 : decode c_140 13 = .ok (.iload_n 3, 1) := by decide +kernel
theorem d_140_14 : decode c_140 14 = .ok (.iload_n 2, 1) := by decide +kernel
theorem d_140_15 : decode c_140 15 = .ok (.invokevirtual 57, 3) := by decide +kernel
theorem d_140_18 : decode c_140 18 = .ok (.ifCond .ne 7, 3) := by decide +kernel
theorem d_140_21 : decode c_140 21 = .ok (.iconst 1, 1) := by decide +kernel
theorem d_140_22 : decode c_140 22 = .ok (.goto 4, 3) := by decide +kernel
theorem d_140_25 : decode c_140 25 = .ok (.iconst 0, 1) := by decide +kernel
theorem d_140_26 : decode c_140 26 = .ok (.ireturn, 1) := by decide +kernel
theorem d_141_0 : decode c_141 0 = .ok (.iconst 0, 1) := by decide +kernel
theorem d_141_1 : decode c_141 1 = .ok (.istore_n 2, 1) := by decide +kernel
theorem d_141_2 : decode c_141 2 = .ok (.iconst 2, 1) := by decide +kernel
theorem d_141_3 : decode c_141 3 = .ok (.istore_n 3, 1) := by decide +kernel
theorem d_141_4 : decode c_141 4 = .ok (.iload_n 3, 1) := by decide +kernel
theorem d_141_5 : decode c_141 5 = .ok (.aload_n 0, 1) := by decide +kernel
theorem d_141_6 : decode c_141 6 = .ok (.iload_n 1, 1) := by decide +kernel
theorem d_141_7 : decode c_141 7 = .ok (.invokevirtual 61, 3) := by decide +kernel
theorem d_141_10 : decode c_141 10 = .ok (.if_icmp .ge 107, 3) := by decide +kernel
theorem d_141_13 : decode c_141 13 = .ok (.aload_n 0, 1) := by decide +kernel
theorem d_141_14 : decode c_141 14 = .ok (.iload_n 1, 1) := by decide +kernel
theorem d_141_15 : decode c_141 15 = .ok (.iload_n 3, 1) := by decide +kernel
theorem d_141_16 : decode c_141 16 = .ok (.invokevirtual 64, 3) := by decide +kernel
theorem d_141_19 : decode c_141 19 = .ok (.istore 4, 2) := by decide +kernel
theorem d_141_21 : decode c_141 21 = .ok (.iload 4, 2) := by decide +kernel
theorem d_141_23 : decode c_141 23 = .ok (.sipush 7168, 3) := by decide +kernel
theorem d_141_26 : decode c_141 26 = .ok (.iand, 1) := by decide +kernel
theorem d_141_27 : decode c_141 27 = .ok (.ifCond .eq 67, 3) := by decide +kernel
theorem d_141_30 : decode c_141 30 = .ok (.aload_n 0, 1) := by decide +kernel
theorem d_141_31 : decode c_141 31 = .ok (.iload_n 1, 1) := by decide +kernel
theorem d_141_32 : decode c_141 32 = .ok (.iload_n 3, 1) := by decide +kernel
theorem d_141_33 : decode c_141 33 = .ok (.invokevirtual 67, 3) := by decide +kernel
theorem d_141_36 : decode c_141 36 = .ok (.istore 5, 2) := by decide +kernel
theorem d_141_38 : decode c_141 38 = .ok (.iload 5, 2) := by decide +kernel
theorem d_141_40 : decode c_141 40 = .ok (.ifCond .eq 20, 3) := by decide +kernel
theorem d_141_43 : decode c_141 43 = .ok (.aload_n 0, 1) := by decide +kernel
theorem d_141_44 : decode c_141 44 = .ok (.iload 5, 2) := by decide +kernel
theorem d_141_46 : decode c_141 46 = .ok (.aload_n 0, 1) := by decide +kernel
theorem d_141_47 : decode c_141 47 = .ok (.iload_n 1, 1) := by decide +kernel
theorem d_141_48 : decode c_141 48 = .ok (.iload_n 3, 1) := by decide +kernel
theorem d_141_49 : decode c_141 49 = .ok (.iconst 3, 1) := by decide +kernel
theorem d_141_50 : decode c_141 50 = .ok (.iadd, 1) := by decide +kernel
theorem d_141_51 : decode c_141 51 = .ok (.invokevirtual 53, 3) := by decide +kernel
theorem d_141_54 : decode c_141 54 = .ok (.invokestatic 70, 3) := by decide +kernel
theorem d_141_57 : decode c_141 57 = .ok (.ifCond .eq 5, 3) := by decide +kernel
theorem d_141_60 : decode c_141 60 = .ok (.iconst 2, 1) := by decide +kernel
theorem d_141_61 : decode c_141 61 = .ok (.ireturn, 1) := by decide +kernel
theorem d_141_62 : decode c_141 62 = .ok (.iload_n 2, 1) := by decide +kernel
theorem d_141_63 : decode c_141 63 = .ok (.aload_n 0, 1) := by decide +kernel
theorem d_141_64 : decode c_141 64 = .ok (.iload 5, 2) := by decide +kernel
theorem d_141_66 : decode c_141 66 = .ok (.invokevirtual 29, 3) := by decide +kernel
theorem d_141_69 : decode c_141 69 = .ok (.iload 4, 2) := by decide +kernel
theorem d_141_71 : decode c_141 71 = .ok (.sipush 4096, 3) := by decide +kernel
theorem d_141_74 : decode c_141 74 = .ok (.if_icmp .ne 8, 3) := by decide +kernel
theorem d_141_77 : decode c_141 77 = .ok (.bipush 64, 2) := by decide +kernel
theorem d_141_79 : decode c_141 79 = .ok (.goto 5, 3) := by decide +kernel
theorem d_141_82 : decode c_141 82 = .ok (.bipush 32, 2) := by decide +kernel
theorem d_141_84 : decode c_141 84 = .ok (.if_icmp .ne 7, 3) := by decide +kernel
theorem d_141_87 : decode c_141 87 = .ok (.iconst 1, 1) := by decide +kernel
theorem d_141_88 : decode c_141 88 = .ok (.goto 4, 3) := by decide +kernel
theorem d_141_91 : decode c_141 91 = .ok (.iconst 0, 1) := by decide +kernel
theorem d_141_92 : decode c_141 92 = .ok (.ior, 1) := by decide +kernel
theorem d_141_93 : decode c_141 93 = .ok (.istore_n 2, 1) := by decide +kernel
theorem d_141_94 : decode c_141 94 = .ok (.iload_n 3, 1) := by decide +kernel
theorem d_141_95 : decode c_141 95 = .ok (.aload_n 0, 1) := by decide +kernel
theorem d_141_96 : decode c_141 96 = .ok (.iload_n 1, 1) := by decide +kernel
theorem d_141_97 : decode c_141 97 = .ok (.iload_n 3, 1) := by decide +kernel
theorem d_141_98 : decode c_141 98 = .ok (.invokevirtual 64, 3) := by decide +kernel
theorem d_141_101 : decode c_141 101 = .ok (.sipush 512, 3) := by decide +kernel
theorem d_141_104 : decode c_141 104 = .ok (.if_icmp .ne 7, 3) := by decide +kernel
theorem d_141_107 : decode c_141 107 = .ok (.iconst 2, 1) := by decide +kernel
theorem d_141_108 : decode c_141 108 = .ok (.goto 4, 3) := by decide +kernel
theorem d_141_111 : decode c_141 111 = .ok (.iconst 4, 1) := by decide +kernel
theorem d_141_112 : decode c_141 112 = .ok (.iadd, 1) := by decide +kernel
theorem d_141_113 : decode c_141 113 = .ok (.istore_n 3, 1) := by decide +kernel
theorem d_141_114 : decode c_141 114 = .ok (.goto (-110), 3) := by decide +kernel
theorem d_141_117 : decode c_141 117 = .ok (.aload_n 0, 1) := by decide +kernel
theorem d_141_118 : decode c_141 118 = .ok (.iload_n 1, 1) := by decide +kernel
theorem d_141_119 : decode c_141 119 = .ok (.iconst 2, 1) := by decide +kernel
theorem d_141_120 : decode c_141 120 = .ok (.invokevirtual 64, 3) := by decide +kernel
theorem d_141_123 : decode c_141 123 = .ok (.sipush 1536, 3) := by decide +kernel
theorem d_141_126 : decode c_141 126 = .ok (.iand, 1) := by decide +kernel
theorem d_141_127 : decode c_141 127 = .ok (.ifCond .ne 5, 3) := by decide +kernel
theorem d_141_130 : decode c_141 130 = .ok (.iconst 4, 1) := by decide +kernel
theorem d_141_131 : decode c_141 131 = .ok (.ireturn, 1) := by decide +kernel
theorem d_141_132 : decode c_141 132 = .ok (.iload_n 2, 1) := by decide +kernel
theorem d_141_133 : decode c_141 133 = .ok (.ifCond .eq 7, 3) := by decide +kernel
theorem d_141_136 : decode c_141 136 = .ok (.iconst 5, 1) := by decide +kernel
theorem d_141_137 : decode c_141 137 = .ok (.goto 4, 3) := by decide +kernel
theorem d_141_140 : decode c_141 140 = .ok (.iconst 0, 1) := by decide +kernel
theorem d_141_141 : decode c_141 141 = .ok (.ireturn, 1) := by decide +kernel
theorem d_142_0 : decode c_142 0 = .ok (.iload_n 1, 1) := by decide +kernel
theorem d_142_1 : decode c_142 1 = .ok (.ifCond .eq 12, 3) := by decide +kernel
theorem d_142_4 : decode c_142 4 = .ok (.iload_n 2, 1) := by decide +kernel
theorem d_142_5 : decode c_142 5 = .ok (.aload_n 0, 1) := by decide +kernel
theorem d_142_6 : decode c_142 6 = .ok (.getfield 9, 3) := by decide +kernel
theorem d_142_9 : decode c_142 9 = .ok (.arraylength, 1) := by decide +kernel
theorem d_142_10 : decode c_142 10 = .ok (.if_icmp .lt 5, 3) := by decide +kernel
theorem d_142_13 : decode c_142 13 = .ok (.iload_n 2, 1) := by decide +kernel
theorem d_142_14 : decode c_142 14 = .ok (.ireturn, 1) := by decide +kernel
theorem d_142_15 : decode c_142 15 = .ok (.iconst 0, 1) := by decide +kernel
theorem d_142_16 : decode c_142 16 = .ok (.istore_n 3, 1) := by decide +kernel
theorem d_142_17 : decode c_142 17 = .ok (.iload_n 3, 1) := by decide +kernel
theorem d_142_18 : decode c_142 18 = .ok (.iload_n 2, 1) := by decide +kernel
theorem d_142_19 : decode c_142 19 = .ok (.if_icmp .ge 21, 3) := by decide +kernel
theorem d_142_22 : decode c_142 22 = .ok (.aload_n 0, 1) := by decide +kernel
theorem d_142_23 : decode c_142 23 = .ok (.getfield 9, 3) := by decide +kernel
theorem d_142_26 : decode c_142 26 = .ok (.iload_n 3, 1) := by decide +kernel
theorem d_142_27 : decode c_142 27 = .ok (.iaload, 1) := by decide +kernel
theorem d_142_28 : decode c_142 28 = .ok (.iload_n 1, 1) := by decide +kernel
theorem d_142_29 : decode c_142 29 = .ok (.if_icmp .ne 5, 3) := by decide +kernel
theorem d_142_32 : decode c_142 32 = .ok (.iload_n 2, 1) := by decide +kernel
theorem d_142_33 : decode c_142 33 = .ok (.ireturn, 1) := by decide +kernel
theorem d_142_34 : decode c_142 34 = .ok (.iinc 3 1, 3) := by decide +kernel
theorem d_142_37 : decode c_142 37 = .ok (.goto (-20), 3) := by decide +kernel
theorem d_142_40 : decode c_142 40 = .ok (.aload_n 0, 1) := by decide +kernel
theorem d_142_41 : decode c_142 41 = .ok (.getfield 9, 3) := by decide +kernel
theorem d_142_44 : decode c_142 44 = .ok (.iload_n 2, 1) := by decide +kernel
theorem d_142_45 : decode c_142 45 = .ok (.iload_n 1, 1) := by decide +kernel
theorem d_142_46 : decode c_142 46 = .ok (.iastore, 1) := by decide +kernel
theorem d_142_47 : decode c_142 47 = .ok (.iload_n 2, 1) := by decide +kernel
theorem d_142_48 : decode c_142 48 = .ok (.iconst 1, 1) := by decide +kernel
theorem d_142_49 : decode c_142 49 = .ok (.iadd, 1) := by decide +kernel
theorem d_142_50 : decode c_142 50 = .ok (.ireturn, 1) := by decide +kernel
theorem d_143_0 : decode c_143 0 = .ok (.aload_n 0, 1) := by decide +kernel
theorem d_143_1 : decode c_143 1 = .ok (.aload_n 1, 1) := by decide +kernel
theorem d_143_2 : decode c_143 2 = .ok (.iload_n 2, 1) := by decide +kernel
theorem d_143_3 : decode c_143 3 = .ok (.invokevirtual 36, 3) := by decide +kernel
theorem d_143_6 : decode c_143 6 = .ok (.iconst 0, 1) := by decide +kernel
theorem d_143_7 : decode c_143 7 = .ok (.invokevirtual 77, 3) := by decide +kernel
theorem d_143_10 : decode c_143 10 = .ok (.istore_n 3, 1) := by decide +kernel
theorem d_143_11 : decode c_143 11 = .ok (.iconst 0, 1) := by decide +kernel
theorem d_143_12 : decode c_143 12 = .ok (.istore 4, 2) := by decide +kernel
theorem d_143_14 : decode c_143 14 = .ok (.iload 4, 2) := by decide +kernel
theorem d_143_16 : decode c_143 16 = .ok (.iload_n 3, 1) := by decide +kernel
theorem d_143_17 : decode c_143 17 = .ok (.if_icmp .ge 93, 3) := by decide +kernel
theorem d_143_20 : decode c_143 20 = .ok (.iload 4, 2) := by decide +kernel
theorem d_143_22 : decode c_143 22 = .ok (.aload_n 0, 1) := by decide +kernel
theorem d_143_23 : decode c_143 23 = .ok (.getfield 9, 3) := by decide +kernel
theorem d_143_26 : decode c_143 26 = .ok (.arraylength, 1) := by decide +kernel
theorem d_143_27 : decode c_143 27 = .ok (.if_icmp .ge 83, 3) := by decide +kernel
theorem d_143_30 : decode c_143 30 = .ok (.aload_n 0, 1) := by decide +kernel
theorem d_143_31 : decode c_143 31 = .ok (.getfield 9, 3) := by decide +kernel
theorem d_143_34 : decode c_143 34 = .ok (.iload 4, 2) := by decide +kernel
theorem d_143_36 : decode c_143 36 = .ok (.iaload, 1) := by decide +kernel
theorem d_143_37 : decode c_143 37 = .ok (.aload_n 1, 1) := by decide +kernel
theorem d_143_38 : decode c_143 38 = .ok (.iload_n 2, 1) := by decide +kernel
theorem d_143_39 : decode c_143 39 = .ok (.invokevirtual 50, 3) := by decide +kernel
theorem d_143_42 : decode c_143 42 = .ok (.if_icmp .ne 5, 3) := by decide +kernel
theorem d_143_45 : decode c_143 45 = .ok (.iconst 1, 1) := by decide +kernel
theorem d_143_46 : decode c_143 46 = .ok (.ireturn, 1) := by decide +kernel
theorem d_143_47 : decode c_143 47 = .ok (.iconst 1, 1) := by decide +kernel
theorem d_143_48 : decode c_143 48 = .ok (.istore 5, 2) := by decide +kernel
theorem d_143_50 : decode c_143 50 = .ok (.iload 5, 2) := by decide +kernel
theorem d_143_52 : decode c_143 52 = .ok (.aload_n 1, 1) := by decide +kernel
theorem d_143_53 : decode c_143 53 = .ok (.invokevirtual 15, 3) := by decide +kernel
theorem d_143_56 : decode c_143 56 = .ok (.if_icmp .gt 48, 3) := by decide +kernel
theorem d_143_59 : decode c_143 59 = .ok (.aload_n 1, 1) := by decide +kernel
theorem d_143_60 : decode c_143 60 = .ok (.iload 5, 2) := by decide +kernel
theorem d_143_62 : decode c_143 62 = .ok (.invokevirtual 29, 3) := by decide +kernel
theorem d_143_65 : decode c_143 65 = .ok (.ldc 80, 2) := by decide +kernel
theorem d_143_67 : decode c_143 67 = .ok (.if_icmp .ne 31, 3) := by decide +kernel
theorem d_143_70 : decode c_143 70 = .ok (.aload_n 1, 1) := by decide +kernel
theorem d_143_71 : decode c_143 71 = .ok (.iload 5, 2) := by decide +kernel
theorem d_143_73 : decode c_143 73 = .ok (.invokevirtual 50, 3) := by decide +kernel
theorem d_143_76 : decode c_143 76 = .ok (.aload_n 0, 1) := by decide +kernel
theorem d_143_77 : decode c_143 77 = .ok (.getfield 9, 3) := by decide +kernel
theorem d_143_80 : decode c_143 80 = .ok (.iload 4, 2) := by decide +kernel
theorem d_143_82 : decode c_143 82 = .ok (.iaload, 1) := by decide +kernel
theorem d_143_83 : decode c_143 83 = .ok (.if_icmp .ne 15, 3) := by decide +kernel
theorem d_143_86 : decode c_143 86 = .ok (.aload_n 0, 1) := by decide +kernel
theorem d_143_87 : decode c_143 87 = .ok (.aload_n 1, 1) := by decide +kernel
theorem d_143_88 : decode c_143 88 = .ok (.iload 5, 2) := by decide +kernel
theorem d_143_90 : decode c_143 90 = .ok (.invokevirtual 36, 3) := by decide +kernel
theorem d_143_93 : decode c_143 93 = .ok (.iload_n 3, 1) := by decide +kernel
theorem d_143_94 : decode c_143 94 = .ok (.invokevirtual 77, 3) := by decide +kernel
theorem d_143_97 : decode c_143 97 = .ok (.istore_n 3, 1) := by decide +kernel
theorem d_143_98 : decode c_143 98 = .ok (.iinc 5 1, 3) := by decide +kernel
theorem d_143_101 : decode c_143 101 = .ok (.goto (-51), 3) := by decide +kernel
theorem d_143_104 : decode c_143 104 = .ok (.iinc 4 1, 3) := by decide +kernel
theorem d_143_107 : decode c_143 107 = .ok (.goto (-93), 3) := by decide +kernel
theorem d_143_110 : decode c_143 110 = .ok (.iconst 0, 1) := by decide +kernel
theorem d_143_111 : decode c_143 111 = .ok (.ireturn, 1) := by decide +kernel
theorem d_144_0 : decode c_144 0 = .ok (.aload_n 1, 1) := by decide +kernel
theorem d_144_1 : decode c_144 1 = .ok (.iload_n 2, 1) := by decide +kernel
theorem d_144_2 : decode c_144 2 = .ok (.invokevirtual 36, 3) := by decide +kernel
theorem d_144_5 : decode c_144 5 = .ok (.ifCond .ne 5, 3) := by decide +kernel
theorem d_144_8 : decode c_144 8 = .ok (.iconst 2, 1) := by decide +kernel
theorem d_144_9 : decode c_144 9 = .ok (.ireturn, 1) := by decide +kernel
theorem d_144_10 : decode c_144 10 = .ok (.aload_n 0, 1) := by decide +kernel
theorem d_144_11 : decode c_144 11 = .ok (.aload_n 1, 1) := by decide +kernel
theorem d_144_12 : decode c_144 12 = .ok (.iload_n 2, 1) := by decide +kernel
theorem d_144_13 : decode c_144 13 = .ok (.invokevirtual 74, 3) := by decide +kernel
theorem d_144_16 : decode c_144 16 = .ok (.ifCond .eq 8, 3) := by decide +kernel
theorem d_144_19 : decode c_144 19 = .ok (.bipush 10, 2) := by decide +kernel
theorem d_144_21 : decode c_144 21 = .ok (.goto 4, 3) := by decide +kernel
theorem d_144_24 : decode c_144 24 = .ok (.iconst 0, 1) := by decide +kernel
theorem d_144_25 : decode c_144 25 = .ok (.ireturn, 1) := by decide +kernel
theorem d_145_0 : decode c_145 0 = .ok (.iload_n 1, 1) := by decide +kernel
theorem d_145_1 : decode c_145 1 = .ok (.ifCond .eq 15, 3) := by decide +kernel
theorem d_145_4 : decode c_145 4 = .ok (.iload_n 2, 1) := by decide +kernel
theorem d_145_5 : decode c_145 5 = .ok (.ifCond .ne 15, 3) := by decide +kernel
theorem d_145_8 : decode c_145 8 = .ok (.aload_n 0, 1) := by decide +kernel
theorem d_145_9 : decode c_145 9 = .ok (.iload_n 1, 1) := by decide +kernel
theorem d_145_10 : decode c_145 10 = .ok (.invokevirtual 36, 3) := by decide +kernel
theorem d_145_13 : decode c_145 13 = .ok (.ifCond .eq 7, 3) := by decide +kernel
theorem d_145_16 : decode c_145 16 = .ok (.iconst 1, 1) := by decide +kernel
theorem d_145_17 : decode c_145 17 = .ok (.goto 4, 3) := by decide +kernel
theorem d_145_20 : decode c_145 20 = .ok (.iconst 0, 1) := by decide +kernel
theorem d_145_21 : decode c_145 21 = .ok (.ireturn, 1) := by decide +kernel
theorem d_146_0 : decode c_146 0 = .ok (.aload_n 0, 1) := by decide +kernel
theorem d_146_1 : decode c_146 1 = .ok (.iload_n 1, 1) := by decide +kernel
theorem d_146_2 : decode c_146 2 = .ok (.invokevirtual 36, 3) := by decide +kernel
theorem d_146_5 : decode c_146 5 = .ok (.istore 4, 2) := by decide +kernel
theorem d_146_7 : decode c_146 7 = .ok (.aload_n 0, 1) := by decide +kernel
theorem d_146_8 : decode c_146 8 = .ok (.iload_n 2, 1) := by decide +kernel
theorem d_146_9 : decode c_146 9 = .ok (.invokevirtual 36, 3) := by decide +kernel
theorem d_146_12 : decode c_146 12 = .ok (.istore 5, 2) := by decide +kernel
theorem d_146_14 : decode c_146 14 = .ok (.aload_n 0, 1) := by decide +kernel
theorem d_146_15 : decode c_146 15 = .ok (.iload_n 1, 1) := by decide +kernel
theorem d_146_16 : decode c_146 16 = .ok (.iload_n 3, 1) := by decide +kernel
theorem d_146_17 : decode c_146 17 = .ok (.invokevirtual 53, 3) := by decide +kernel
theorem d_146_20 : decode c_146 20 = .ok (.i2l, 1) := by decide +kernel
theorem d_146_21 : decode c_146 21 = .ok (.aload_n 0, 1) := by decide +kernel
theorem d_146_22 : decode c_146 22 = .ok (.iload 4, 2) := by decide +kernel
theorem d_146_24 : decode c_146 24 = .ok (.iconst 3, 1) := by decide +kernel
theorem d_146_25 : decode c_146 25 = .ok (.invokevirtual 53, 3) := by decide +kernel
theorem d_146_28 : decode c_146 28 = .ok (.i2l, 1) := by decide +kernel
theorem d_146_29 : decode c_146 29 = .ok (.lmul, 1) := by decide +kernel
theorem d_146_30 : decode c_146 30 = .ok (.aload_n 0, 1) := by decide +kernel
theorem d_146_31 : decode c_146 31 = .ok (.iload 5, 2) := by decide +kernel
theorem d_146_33 : decode c_146 33 = .ok (.iconst 5, 1) := by decide +kernel
theorem d_146_34 : decode c_146 34 = .ok (.invokevirtual 53, 3) := by decide +kernel
theorem d_146_37 : decode c_146 37 = .ok (.i2l, 1) := by decide +kernel
theorem d_146_38 : decode c_146 38 = .ok (.lmul, 1) := by decide +kernel
theorem d_146_39 : decode c_146 39 = .ok (.lstore 6, 2) := by decide +kernel
theorem d_146_41 : decode c_146 41 = .ok (.aload_n 0, 1) := by decide +kernel
theorem d_146_42 : decode c_146 42 = .ok (.iload_n 2, 1) := by decide +kernel
theorem d_146_43 : decode c_146 43 = .ok (.iload_n 3, 1) := by decide +kernel
theorem d_146_44 : decode c_146 44 = .ok (.invokevirtual 53, 3) := by decide +kernel
theorem d_146_47 : decode c_146 47 = .ok (.i2l, 1) := by decide +kernel
theorem d_146_48 : decode c_146 48 = .ok (.aload_n 0, 1) := by decide +kernel
theorem d_146_49 : decode c_146 49 = .ok (.iload 5, 2) := by decide +kernel
theorem d_146_51 : decode c_146 51 = .ok (.iconst 3, 1) := by decide +kernel
theorem d_146_52 : decode c_146 52 = .ok (.invokevirtual 53, 3) := by decide +kernel
theorem d_146_55 : decode c_146 55 = .ok (.i2l, 1) := by decide +kernel
theorem d_146_56 : decode c_146 56 = .ok (.lmul, 1) := by decide +kernel
theorem d_146_57 : decode c_146 57 = .ok (.aload_n 0, 1) := by decide +kernel
theorem d_146_58 : decode c_146 58 = .ok (.iload 4, 2) := by decide +kernel
theorem d_146_60 : decode c_146 60 = .ok (.iconst 5, 1) := by decide +kernel
theorem d_146_61 : decode c_146 61 = .ok (.invokevirtual 53, 3) := by decide +kernel
theorem d_146_64 : decode c_146 64 = .ok (.i2l, 1) := by decide +kernel
theorem d_146_65 : decode c_146 65 = .ok (.lmul, 1) := by decide +kernel
theorem d_146_66 : decode c_146 66 = .ok (.lstore 8, 2) := by decide +kernel
theorem d_146_68 : decode c_146 68 = .ok (.lload 6, 2) := by decide +kernel
theorem d_146_70 : decode c_146 70 = .ok (.lload 8, 2) := by decide +kernel
theorem d_146_72 : decode c_146 72 = .ok (.lcmp, 1) := by decide +kernel
theorem d_146_73 : decode c_146 73 = .ok (.ifCond .gt 7, 3) := by decide +kernel
theorem d_146_76 : decode c_146 76 = .ok (.iconst 1, 1) := by decide +kernel
theorem d_146_77 : decode c_146 77 = .ok (.goto 4, 3) := by decide +kernel
theorem d_146_80 : decode c_146 80 = .ok (.iconst 0, 1) := by decide +kernel
theorem d_146_81 : decode c_146 81 = .ok (.ireturn, 1) := by decide +kernel
theorem d_147_0 : decode c_147 0 = .ok (.iload_n 1, 1) := by decide +kernel
theorem d_147_1 : decode c_147 1 = .ok (.ifCond .ne 6, 3) := by decide +kernel
theorem d_147_4 : decode c_147 4 = .ok (.bipush 6, 2) := by decide +kernel
theorem d_147_6 : decode c_147 6 = .ok (.ireturn, 1) := by decide +kernel
theorem d_147_7 : decode c_147 7 = .ok (.aload_n 0, 1) := by decide +kernel
