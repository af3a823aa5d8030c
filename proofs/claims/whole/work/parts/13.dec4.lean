theorem d_147_8 : decode c_147 8 = .ok (.iload_n 1, 1) := by decide +kernel
theorem d_147_9 : decode c_147 9 = .ok (.invokevirtual 36, 3) := by decide +kernel
theorem d_147_12 : decode c_147 12 = .ok (.istore_n 3, 1) := by decide +kernel
theorem d_147_13 : decode c_147 13 = .ok (.aload_n 0, 1) := by decide +kernel
theorem d_147_14 : decode c_147 14 = .ok (.iload_n 2, 1) := by decide +kernel
theorem d_147_15 : decode c_147 15 = .ok (.invokevirtual 36, 3) := by decide +kernel
theorem d_147_18 : decode c_147 18 = .ok (.istore 4, 2) := by decide +kernel
theorem d_147_20 : decode c_147 20 = .ok (.aload_n 0, 1) := by decide +kernel
theorem d_147_21 : decode c_147 21 = .ok (.iload_n 3, 1) := by decide +kernel
theorem d_147_22 : decode c_147 22 = .ok (.invokevirtual 36, 3) := by decide +kernel
theorem d_147_25 : decode c_147 25 = .ok (.istore 5, 2) := by decide +kernel
theorem d_147_27 : decode c_147 27 = .ok (.aload_n 0, 1) := by decide +kernel
theorem d_147_28 : decode c_147 28 = .ok (.iload 4, 2) := by decide +kernel
theorem d_147_30 : decode c_147 30 = .ok (.invokevirtual 36, 3) := by decide +kernel
theorem d_147_33 : decode c_147 33 = .ok (.istore 6, 2) := by decide +kernel
theorem d_147_35 : decode c_147 35 = .ok (.iload 5, 2) := by decide +kernel
theorem d_147_37 : decode c_147 37 = .ok (.ifCond .eq 8, 3) := by decide +kernel
theorem d_147_40 : decode c_147 40 = .ok (.iload 6, 2) := by decide +kernel
theorem d_147_42 : decode c_147 42 = .ok (.ifCond .ne 5, 3) := by decide +kernel
theorem d_147_45 : decode c_147 45 = .ok (.iconst 0, 1) := by decide +kernel
theorem d_147_46 : decode c_147 46 = .ok (.ireturn, 1) := by decide +kernel
theorem d_147_47 : decode c_147 47 = .ok (.aload_n 0, 1) := by decide +kernel
theorem d_147_48 : decode c_147 48 = .ok (.iload 5, 2) := by decide +kernel
theorem d_147_50 : decode c_147 50 = .ok (.bipush 6, 2) := by decide +kernel
theorem d_147_52 : decode c_147 52 = .ok (.invokevirtual 53, 3) := by decide +kernel
theorem d_147_55 : decode c_147 55 = .ok (.aload_n 0, 1) := by decide +kernel
theorem d_147_56 : decode c_147 56 = .ok (.iload 6, 2) := by decide +kernel
theorem d_147_58 : decode c_147 58 = .ok (.bipush 6, 2) := by decide +kernel
theorem d_147_60 : decode c_147 60 = .ok (.invokevirtual 53, 3) := by decide +kernel
theorem d_147_63 : decode c_147 63 = .ok (.if_icmp .eq 6, 3) := by decide +kernel
theorem d_147_66 : decode c_147 66 = .ok (.bipush 7, 2) := by decide +kernel
theorem d_147_68 : decode c_147 68 = .ok (.ireturn, 1) := by decide +kernel
theorem d_147_69 : decode c_147 69 = .ok (.aload_n 0, 1) := by decide +kernel
theorem d_147_70 : decode c_147 70 = .ok (.iload 4, 2) := by decide +kernel
theorem d_147_72 : decode c_147 72 = .ok (.iload_n 3, 1) := by decide +kernel
theorem d_147_73 : decode c_147 73 = .ok (.iconst 3, 1) := by decide +kernel
theorem d_147_74 : decode c_147 74 = .ok (.invokestatic 100, 3) := by decide +kernel
theorem d_147_77 : decode c_147 77 = .ok (.ifCond .eq 18, 3) := by decide +kernel
theorem d_147_80 : decode c_147 80 = .ok (.aload_n 0, 1) := by decide +kernel
theorem d_147_81 : decode c_147 81 = .ok (.iload_n 3, 1) := by decide +kernel
theorem d_147_82 : decode c_147 82 = .ok (.iload 4, 2) := by decide +kernel
theorem d_147_84 : decode c_147 84 = .ok (.iconst 5, 1) := by decide +kernel
theorem d_147_85 : decode c_147 85 = .ok (.invokestatic 100, 3) := by decide +kernel
theorem d_147_88 : decode c_147 88 = .ok (.ifCond .eq 7, 3) := by decide +kernel
theorem d_147_91 : decode c_147 91 = .ok (.iconst 1, 1) := by decide +kernel
theorem d_147_92 : decode c_147 92 = .ok (.goto 4, 3) := by decide +kernel
theorem d_147_95 : decode c_147 95 = .ok (.iconst 0, 1) := by decide +kernel
theorem d_147_96 : decode c_147 96 = .ok (.istore 7, 2) := by decide +kernel
theorem d_147_98 : decode c_147 98 = .ok (.iload 7, 2) := by decide +kernel
theorem d_147_100 : decode c_147 100 = .ok (.ifCond .eq 7, 3) := by decide +kernel
theorem d_147_103 : decode c_147 103 = .ok (.iconst 0, 1) := by decide +kernel
theorem d_147_104 : decode c_147 104 = .ok (.goto 5, 3) := by decide +kernel
theorem d_147_107 : decode c_147 107 = .ok (.bipush 8, 2) := by decide +kernel
theorem d_147_109 : decode c_147 109 = .ok (.ireturn, 1) := by decide +kernel
theorem d_148_0 : decode c_148 0 = .ok (.iload_n 1, 1) := by decide +kernel
theorem d_148_1 : decode c_148 1 = .ok (.ifCond .eq 7, 3) := by decide +kernel
theorem d_148_4 : decode c_148 4 = .ok (.iload_n 2, 1) := by decide +kernel
theorem d_148_5 : decode c_148 5 = .ok (.ifCond .ne 5, 3) := by decide +kernel
theorem d_148_8 : decode c_148 8 = .ok (.iconst 0, 1) := by decide +kernel
theorem d_148_9 : decode c_148 9 = .ok (.ireturn, 1) := by decide +kernel
theorem d_148_10 : decode c_148 10 = .ok (.iconst 0, 1) := by decide +kernel
theorem d_148_11 : decode c_148 11 = .ok (.istore_n 3, 1) := by decide +kernel
theorem d_148_12 : decode c_148 12 = .ok (.iconst 1, 1) := by decide +kernel
theorem d_148_13 : decode c_148 13 = .ok (.istore 4, 2) := by decide +kernel
theorem d_148_15 : decode c_148 15 = .ok (.iload 4, 2) := by decide +kernel
theorem d_148_17 : decode c_148 17 = .ok (.aload_n 0, 1) := by decide +kernel
theorem d_148_18 : decode c_148 18 = .ok (.invokevirtual 15, 3) := by decide +kernel
theorem d_148_21 : decode c_148 21 = .ok (.if_icmp .gt 74, 3) := by decide +kernel
theorem d_148_24 : decode c_148 24 = .ok (.aload_n 0, 1) := by decide +kernel
theorem d_148_25 : decode c_148 25 = .ok (.iload 4, 2) := by decide +kernel
theorem d_148_27 : decode c_148 27 = .ok (.invokevirtual 29, 3) := by decide +kernel
theorem d_148_30 : decode c_148 30 = .ok (.bipush 8, 2) := by decide +kernel
theorem d_148_32 : decode c_148 32 = .ok (.if_icmp .ne 57, 3) := by decide +kernel
theorem d_148_35 : decode c_148 35 = .ok (.aload_n 0, 1) := by decide +kernel
theorem d_148_36 : decode c_148 36 = .ok (.iload 4, 2) := by decide +kernel
theorem d_148_38 : decode c_148 38 = .ok (.invokevirtual 50, 3) := by decide +kernel
theorem d_148_41 : decode c_148 41 = .ok (.iload_n 2, 1) := by decide +kernel
theorem d_148_42 : decode c_148 42 = .ok (.if_icmp .ne 47, 3) := by decide +kernel
theorem d_148_45 : decode c_148 45 = .ok (.aload_n 0, 1) := by decide +kernel
theorem d_148_46 : decode c_148 46 = .ok (.bipush 8, 2) := by decide +kernel
theorem d_148_48 : decode c_148 48 = .ok (.iload_n 1, 1) := by decide +kernel
theorem d_148_49 : decode c_148 49 = .ok (.aload_n 0, 1) := by decide +kernel
theorem d_148_50 : decode c_148 50 = .ok (.iload 4, 2) := by decide +kernel
theorem d_148_52 : decode c_148 52 = .ok (.iconst 1, 1) := by decide +kernel
theorem d_148_53 : decode c_148 53 = .ok (.invokevirtual 53, 3) := by decide +kernel
theorem d_148_56 : decode c_148 56 = .ok (.invokevirtual 57, 3) := by decide +kernel
theorem d_148_59 : decode c_148 59 = .ok (.istore 5, 2) := by decide +kernel
theorem d_148_61 : decode c_148 61 = .ok (.aload_n 0, 1) := by decide +kernel
theorem d_148_62 : decode c_148 62 = .ok (.iload 5, 2) := by decide +kernel
theorem d_148_64 : decode c_148 64 = .ok (.iload 4, 2) := by decide +kernel
theorem d_148_66 : decode c_148 66 = .ok (.invokestatic 97, 3) := by decide +kernel
theorem d_148_69 : decode c_148 69 = .ok (.istore 6, 2) := by decide +kernel
theorem d_148_71 : decode c_148 71 = .ok (.iload 6, 2) := by decide +kernel
theorem d_148_73 : decode c_148 73 = .ok (.ifCond .eq 16, 3) := by decide +kernel
theorem d_148_76 : decode c_148 76 = .ok (.iload_n 3, 1) := by decide +kernel
theorem d_148_77 : decode c_148 77 = .ok (.ifCond .eq 9, 3) := by decide +kernel
theorem d_148_80 : decode c_148 80 = .ok (.iload 6, 2) := by decide +kernel
theorem d_148_82 : decode c_148 82 = .ok (.iload_n 3, 1) := by decide +kernel
theorem d_148_83 : decode c_148 83 = .ok (.if_icmp .ge 6, 3) := by decide +kernel
theorem d_148_86 : decode c_148 86 = .ok (.iload 6, 2) := by decide +kernel
theorem d_148_88 : decode c_148 88 = .ok (.istore_n 3, 1) := by decide +kernel
theorem d_148_89 : decode c_148 89 = .ok (.iinc 4 1, 3) := by decide +kernel
theorem d_148_92 : decode c_148 92 = .ok (.goto (-77), 3) := by decide +kernel
theorem d_148_95 : decode c_148 95 = .ok (.iload_n 3, 1) := by decide +kernel
theorem d_148_96 : decode c_148 96 = .ok (.ireturn, 1) := by decide +kernel
theorem d_149_0 : decode c_149 0 = .ok (.aload_n 0, 1) := by decide +kernel
theorem d_149_1 : decode c_149 1 = .ok (.iload_n 1, 1) := by decide +kernel
theorem d_149_2 : decode c_149 2 = .ok (.iconst 5, 1) := by decide +kernel
theorem d_149_3 : decode c_149 3 = .ok (.invokevirtual 53, 3) := by decide +kernel
theorem d_149_6 : decode c_149 6 = .ok (.istore_n 2, 1) := by decide +kernel
theorem d_149_7 : decode c_149 7 = .ok (.aload_n 0, 1) := by decide +kernel
theorem d_149_8 : decode c_149 8 = .ok (.iload_n 1, 1) := by decide +kernel
theorem d_149_9 : decode c_149 9 = .ok (.bipush 7, 2) := by decide +kernel
theorem d_149_11 : decode c_149 11 = .ok (.invokevirtual 53, 3) := by decide +kernel
theorem d_149_14 : decode c_149 14 = .ok (.istore_n 3, 1) := by decide +kernel
theorem d_149_15 : decode c_149 15 = .ok (.iconst 1, 1) := by decide +kernel
theorem d_149_16 : decode c_149 16 = .ok (.istore 4, 2) := by decide +kernel
theorem d_149_18 : decode c_149 18 = .ok (.iload 4, 2) := by decide +kernel
theorem d_149_20 : decode c_149 20 = .ok (.iload_n 1, 1) := by decide +kernel
theorem d_149_21 : decode c_149 21 = .ok (.if_icmp .ge 60, 3) := by decide +kernel
theorem d_149_24 : decode c_149 24 = .ok (.aload_n 0, 1) := by decide +kernel
theorem d_149_25 : decode c_149 25 = .ok (.iload 4, 2) := by decide +kernel
theorem d_149_27 : decode c_149 27 = .ok (.invokevirtual 29, 3) := by decide +kernel
theorem d_149_30 : decode c_149 30 = .ok (.sipush 16384, 3) := by decide +kernel
theorem d_149_33 : decode c_149 33 = .ok (.if_icmp .ne 42, 3) := by decide +kernel
theorem d_149_36 : decode c_149 36 = .ok (.aload_n 0, 1) := by decide +kernel
theorem d_149_37 : decode c_149 37 = .ok (.iload 4, 2) := by decide +kernel
theorem d_149_39 : decode c_149 39 = .ok (.invokevirtual 50, 3) := by decide +kernel
theorem d_149_42 : decode c_149 42 = .ok (.aload_n 0, 1) := by decide +kernel
theorem d_149_43 : decode c_149 43 = .ok (.iload_n 1, 1) := by decide +kernel
theorem d_149_44 : decode c_149 44 = .ok (.invokevirtual 50, 3) := by decide +kernel
theorem d_149_47 : decode c_149 47 = .ok (.if_icmp .ne 28, 3) := by decide +kernel
theorem d_149_50 : decode c_149 50 = .ok (.aload_n 0, 1) := by decide +kernel
theorem d_149_51 : decode c_149 51 = .ok (.iload 4, 2) := by decide +kernel
theorem d_149_53 : decode c_149 53 = .ok (.iconst 5, 1) := by decide +kernel
theorem d_149_54 : decode c_149 54 = .ok (.invokevirtual 53, 3) := by decide +kernel
theorem d_149_57 : decode c_149 57 = .ok (.iload_n 2, 1) := by decide +kernel
theorem d_149_58 : decode c_149 58 = .ok (.if_icmp .ne 17, 3) := by decide +kernel
theorem d_149_61 : decode c_149 61 = .ok (.aload_n 0, 1) := by decide +kernel
theorem d_149_62 : decode c_149 62 = .ok (.iload 4, 2) := by decide +kernel
theorem d_149_64 : decode c_149 64 = .ok (.bipush 7, 2) := by decide +kernel
theorem d_149_66 : decode c_149 66 = .ok (.invokevirtual 53, 3) := by decide +kernel
theorem d_149_69 : decode c_149 69 = .ok (.iload_n 3, 1) := by decide +kernel
theorem d_149_70 : decode c_149 70 = .ok (.if_icmp .ne 5, 3) := by decide +kernel
theorem d_149_73 : decode c_149 73 = .ok (.iconst 1, 1) := by decide +kernel
theorem d_149_74 : decode c_149 74 = .ok (.ireturn, 1) := by decide +kernel
theorem d_149_75 : decode c_149 75 = .ok (.iinc 4 1, 3) := by decide +kernel
theorem d_149_78 : decode c_149 78 = .ok (.goto (-60), 3) := by decide +kernel
theorem d_149_81 : decode c_149 81 = .ok (.iconst 0, 1) := by decide +kernel
theorem d_149_82 : decode c_149 82 = .ok (.ireturn, 1) := by decide +kernel
theorem d_150_0 : decode c_150 0 = .ok (.aload_n 0, 1) := by decide +kernel
theorem d_150_1 : decode c_150 1 = .ok (.iload_n 1, 1) := by decide +kernel
theorem d_150_2 : decode c_150 2 = .ok (.iconst 1, 1) := by decide +kernel
theorem d_150_3 : decode c_150 3 = .ok (.invokevirtual 81, 3) := by decide +kernel
theorem d_150_6 : decode c_150 6 = .ok (.istore_n 2, 1) := by decide +kernel
theorem d_150_7 : decode c_150 7 = .ok (.aload_n 0, 1) := by decide +kernel
theorem d_150_8 : decode c_150 8 = .ok (.iload_n 1, 1) := by decide +kernel
theorem d_150_9 : decode c_150 9 = .ok (.iconst 5, 1) := by decide +kernel
theorem d_150_10 : decode c_150 10 = .ok (.invokevirtual 81, 3) := by decide +kernel
theorem d_150_13 : decode c_150 13 = .ok (.istore_n 3, 1) := by decide +kernel
theorem d_150_14 : decode c_150 14 = .ok (.aload_n 0, 1) := by decide +kernel
theorem d_150_15 : decode c_150 15 = .ok (.iload_n 1, 1) := by decide +kernel
theorem d_150_16 : decode c_150 16 = .ok (.iconst 1, 1) := by decide +kernel
theorem d_150_17 : decode c_150 17 = .ok (.iload_n 2, 1) := by decide +kernel
theorem d_150_18 : decode c_150 18 = .ok (.invokevirtual 84, 3) := by decide +kernel
theorem d_150_21 : decode c_150 21 = .ok (.istore 4, 2) := by decide +kernel
theorem d_150_23 : decode c_150 23 = .ok (.aload_n 0, 1) := by decide +kernel
theorem d_150_24 : decode c_150 24 = .ok (.iload_n 1, 1) := by decide +kernel
theorem d_150_25 : decode c_150 25 = .ok (.iconst 5, 1) := by decide +kernel
theorem d_150_26 : decode c_150 26 = .ok (.iload_n 3, 1) := by decide +kernel
theorem d_150_27 : decode c_150 27 = .ok (.invokevirtual 84, 3) := by decide +kernel
theorem d_150_30 : decode c_150 30 = .ok (.istore 5, 2) := by decide +kernel
theorem d_150_32 : decode c_150 32 = .ok (.aload_n 0, 1) := by decide +kernel
theorem d_150_33 : decode c_150 33 = .ok (.iload_n 2, 1) := by decide +kernel
theorem d_150_34 : decode c_150 34 = .ok (.iload 4, 2) := by decide +kernel
theorem d_150_36 : decode c_150 36 = .ok (.invokestatic 87, 3) := by decide +kernel
theorem d_150_39 : decode c_150 39 = .ok (.ifCond .ne 13, 3) := by decide +kernel
theorem d_150_42 : decode c_150 42 = .ok (.aload_n 0, 1) := by decide +kernel
theorem d_150_43 : decode c_150 43 = .ok (.iload_n 3, 1) := by decide +kernel
theorem d_150_44 : decode c_150 44 = .ok (.iload 5, 2) := by decide +kernel
theorem d_150_46 : decode c_150 46 = .ok (.invokestatic 87, 3) := by decide +kernel
theorem d_150_49 : decode c_150 49 = .ok (.ifCond .eq 5, 3) := by decide +kernel
theorem d_150_52 : decode c_150 52 = .ok (.iconst 2, 1) := by decide +kernel
theorem d_150_53 : decode c_150 53 = .ok (.ireturn, 1) := by decide +kernel
theorem d_150_54 : decode c_150 54 = .ok (.aload_n 0, 1) := by decide +kernel
theorem d_150_55 : decode c_150 55 = .ok (.iload 4, 2) := by decide +kernel
theorem d_150_57 : decode c_150 57 = .ok (.invokevirtual 29, 3) := by decide +kernel
theorem d_150_60 : decode c_150 60 = .ok (.bipush 64, 2) := by decide +kernel
theorem d_150_62 : decode c_150 62 = .ok (.if_icmp .eq 14, 3) := by decide +kernel
theorem d_150_65 : decode c_150 65 = .ok (.aload_n 0, 1) := by decide +kernel
theorem d_150_66 : decode c_150 66 = .ok (.iload 5, 2) := by decide +kernel
theorem d_150_68 : decode c_150 68 = .ok (.invokevirtual 29, 3) := by decide +kernel
theorem d_150_71 : decode c_150 71 = .ok (.bipush 32, 2) := by decide +kernel
theorem d_150_73 : decode c_150 73 = .ok (.if_icmp .ne 5, 3) := by decide +kernel
theorem d_150_76 : decode c_150 76 = .ok (.iconst 5, 1) := by decide +kernel
theorem d_150_77 : decode c_150 77 = .ok (.ireturn, 1) := by decide +kernel
theorem d_150_78 : decode c_150 78 = .ok (.aload_n 0, 1) := by decide +kernel
theorem d_150_79 : decode c_150 79 = .ok (.aload_n 0, 1) := by decide +kernel
theorem d_150_80 : decode c_150 80 = .ok (.iload 4, 2) := by decide +kernel
theorem d_150_82 : decode c_150 82 = .ok (.invokevirtual 36, 3) := by decide +kernel
theorem d_150_85 : decode c_150 85 = .ok (.aload_n 0, 1) := by decide +kernel
theorem d_150_86 : decode c_150 86 = .ok (.iload 5, 2) := by decide +kernel
theorem d_150_88 : decode c_150 88 = .ok (.invokevirtual 36, 3) := by decide +kernel
theorem d_150_91 : decode c_150 91 = .ok (.invokestatic 90, 3) := by decide +kernel
theorem d_150_94 : decode c_150 94 = .ok (.istore 6, 2) := by decide +kernel
theorem d_150_96 : decode c_150 96 = .ok (.iload 6, 2) := by decide +kernel
theorem d_150_98 : decode c_150 98 = .ok (.ifCond .eq 6, 3) := by decide +kernel
theorem d_150_101 : decode c_150 101 = .ok (.iload 6, 2) := by decide +kernel
theorem d_150_103 : decode c_150 103 = .ok (.ireturn, 1) := by decide +kernel
theorem d_150_104 : decode c_150 104 = .ok (.iload 5, 2) := by decide +kernel
theorem d_150_106 : decode c_150 106 = .ok (.ifCond .eq 16, 3) := by decide +kernel
theorem d_150_109 : decode c_150 109 = .ok (.aload_n 0, 1) := by decide +kernel
theorem d_150_110 : decode c_150 110 = .ok (.iload_n 1, 1) := by decide +kernel
theorem d_150_111 : decode c_150 111 = .ok (.invokestatic 94, 3) := by decide +kernel
theorem d_150_114 : decode c_150 114 = .ok (.ifCond .eq 8, 3) := by decide +kernel
theorem d_150_117 : decode c_150 117 = .ok (.bipush 9, 2) := by decide +kernel
theorem d_150_119 : decode c_150 119 = .ok (.goto 4, 3) := by decide +kernel
theorem d_150_122 : decode c_150 122 = .ok (.iconst 0, 1) := by decide +kernel
theorem d_150_123 : decode c_150 123 = .ok (.ireturn, 1) := by decide +kernel
theorem d_151_0 : decode c_151 0 = .ok (.aload_n 1, 1) := by decide +kernel
theorem d_151_1 : decode c_151 1 = .ok (.iload_n 2, 1) := by decide +kernel
theorem d_151_2 : decode c_151 2 = .ok (.invokestatic 25, 3) := by decide +kernel
theorem d_151_5 : decode c_151 5 = .ok (.ifCond .eq 5, 3) := by decide +kernel
theorem d_151_8 : decode c_151 8 = .ok (.iconst 1, 1) := by decide +kernel
theorem d_151_9 : decode c_151 9 = .ok (.ireturn, 1) := by decide +kernel
theorem d_151_10 : decode c_151 10 = .ok (.aload_n 1, 1) := by decide +kernel
theorem d_151_11 : decode c_151 11 = .ok (.iload_n 2, 1) := by decide +kernel
theorem d_151_12 : decode c_151 12 = .ok (.invokevirtual 29, 3) := by decide +kernel
theorem d_151_15 : decode c_151 15 = .ok (.lookupswitch 112 #[(2, 73), (8, 79), (32, 79), (64, 79), (128, 79), (256, 93), (16384, 106), (65536, 99)], 73) := by decide +kernel
theorem d_151_88 : decode c_151 88 = .ok (.aload_n 1, 1) := by decide +kernel
theorem d_151_89 : decode c_151 89 = .ok (.iload_n 2, 1) := by decide +kernel
theorem d_151_90 : decode c_151 90 = .ok (.invokestatic 33, 3) := by decide +kernel
theorem d_151_93 : decode c_151 93 = .ok (.ireturn, 1) := by decide +kernel
theorem d_151_94 : decode c_151 94 = .ok (.aload_n 1, 1) := by decide +kernel
theorem d_151_95 : decode c_151 95 = .ok (.iload_n 2, 1) := by decide +kernel
theorem d_151_96 : decode c_151 96 = .ok (.invokevirtual 36, 3) := by decide +kernel
theorem d_151_99 : decode c_151 99 = .ok (.ifCond .ne 7, 3) := by decide +kernel
theorem d_151_102 : decode c_151 102 = .ok (.iconst 2, 1) := by decide +kernel
theorem d_151_103 : decode c_151 103 = .ok (.goto 4, 3) := by decide +kernel
theorem d_151_106 : decode c_151 106 = .ok (.iconst 0, 1) := by decide +kernel
theorem d_151_107 : decode c_151 107 = .ok (.ireturn, 1) := by decide +kernel
theorem d_151_108 : decode c_151 108 = .ok (.aload_n 1, 1) := by decide +kernel
theorem d_151_109 : decode c_151 109 = .ok (.iload_n 2, 1) := by decide +kernel
theorem d_151_110 : decode c_151 110 = .ok (.invokestatic 39, 3) := by decide +kernel
theorem d_151_113 : decode c_151 113 = .ok (.ireturn, 1) := by decide +kernel
theorem d_151_114 : decode c_151 114 = .ok (.aload_n 0, 1) := by decide +kernel
theorem d_151_115 : decode c_151 115 = .ok (.aload_n 1, 1) := by decide +kernel
theorem d_151_116 : decode c_151 116 = .ok (.iload_n 2, 1) := by decide +kernel
theorem d_151_117 : decode c_151 117 = .ok (.invokevirtual 42, 3) := by decide +kernel
theorem d_151_120 : decode c_151 120 = .ok (.ireturn, 1) := by decide +kernel
theorem d_151_121 : decode c_151 121 = .ok (.aload_n 1, 1) := by decide +kernel
theorem d_151_122 : decode c_151 122 = .ok (.iload_n 2, 1) := by decide +kernel
theorem d_151_123 : decode c_151 123 = .ok (.invokestatic 45, 3) := by decide +kernel
theorem d_151_126 : decode c_151 126 = .ok (.ireturn, 1) := by decide +kernel
theorem d_151_127 : decode c_151 127 = .ok (.iconst 0, 1) := by decide +kernel
theorem d_151_128 : decode c_151 128 = .ok (.ireturn, 1) := by decide +kernel
theorem d_152_0 : decode c_152 0 = .ok (.iconst 1, 1) := by decide +kernel
theorem d_152_1 : decode c_152 1 = .ok (.istore_n 2, 1) := by decide +kernel
theorem d_152_2 : decode c_152 2 = .ok (.iload_n 2, 1) := by decide +kernel
theorem d_152_3 : decode c_152 3 = .ok (.aload_n 1, 1) := by decide +kernel
theorem d_152_4 : decode c_152 4 = .ok (.invokevirtual 15, 3) := by decide +kernel
theorem d_152_7 : decode c_152 7 = .ok (.if_icmp .gt 27, 3) := by decide +kernel
theorem d_152_10 : decode c_152 10 = .ok (.aload_n 0, 1) := by decide +kernel
theorem d_152_11 : decode c_152 11 = .ok (.aload_n 1, 1) := by decide +kernel
theorem d_152_12 : decode c_152 12 = .ok (.iload_n 2, 1) := by decide +kernel
theorem d_152_13 : decode c_152 13 = .ok (.invokevirtual 21, 3) := by decide +kernel
theorem d_152_16 : decode c_152 16 = .ok (.istore_n 3, 1) := by decide +kernel
theorem d_152_17 : decode c_152 17 = .ok (.iload_n 3, 1) := by decide +kernel
theorem d_152_18 : decode c_152 18 = .ok (.ifCond .eq 10, 3) := by decide +kernel
theorem d_152_21 : decode c_152 21 = .ok (.iload_n 2, 1) := by decide +kernel
theorem d_152_22 : decode c_152 22 = .ok (.bipush 100, 2) := by decide +kernel
theorem d_152_24 : decode c_152 24 = .ok (.imul, 1) := by decide +kernel
theorem d_152_25 : decode c_152 25 = .ok (.iload_n 3, 1) := by decide +kernel
theorem d_152_26 : decode c_152 26 = .ok (.iadd, 1) := by decide +kernel
theorem d_152_27 : decode c_152 27 = .ok (.ireturn, 1) := by decide +kernel
theorem d_152_28 : decode c_152 28 = .ok (.iinc 2 1, 3) := by decide +kernel
theorem d_152_31 : decode c_152 31 = .ok (.goto (-29), 3) := by decide +kernel
theorem d_152_34 : decode c_152 34 = .ok (.iconst 0, 1) := by decide +kernel
theorem d_152_35 : decode c_152 35 = .ok (.ireturn, 1) := by decide +kernel
theorem d_153_0 : decode c_153 0 = .ok (.aload_n 0, 1) := by decide +kernel
theorem d_153_1 : decode c_153 1 = .ok (.invokevirtual 89, 3) := by decide +kernel
theorem d_153_4 : decode c_153 4 = .ok (.astore_n 1, 1) := by decide +kernel
theorem d_153_5 : decode c_153 5 = .ok (.aload_n 1, 1) := by decide +kernel
theorem d_153_6 : decode c_153 6 = .ok (.ifnonnull 8, 3) := by decide +kernel
theorem d_153_9 : decode c_153 9 = .ok (.bipush (-3), 2) := by decide +kernel
theorem d_153_11 : decode c_153 11 = .ok (.goto 11, 3) := by decide +kernel
theorem d_153_14 : decode c_153 14 = .ok (.aload_n 0, 1) := by decide +kernel
theorem d_153_15 : decode c_153 15 = .ok (.getfield 43, 3) := by decide +kernel
theorem d_153_18 : decode c_153 18 = .ok (.aload_n 1, 1) := by decide +kernel
theorem d_153_19 : decode c_153 19 = .ok (.invokevirtual 138, 3) := by decide +kernel
theorem d_153_22 : decode c_153 22 = .ok (.ireturn, 1) := by decide +kernel
theorem d_154_0 : decode c_154 0 = .ok (.aload_n 0, 1) := by decide +kernel
theorem d_154_1 : decode c_154 1 = .ok (.getfield 76, 3) := by decide +kernel
theorem d_154_4 : decode c_154 4 = .ok (.iload_n 1, 1) := by decide +kernel
theorem d_154_5 : decode c_154 5 = .ok (.iaload, 1) := by decide +kernel
theorem d_154_6 : decode c_154 6 = .ok (.ifCond .ne 5, 3) := by decide +kernel
theorem d_154_9 : decode c_154 9 = .ok (.iconst 0, 1) := by decide +kernel
theorem d_154_10 : decode c_154 10 = .ok (.ireturn, 1) := by decide +kernel
theorem d_154_11 : decode c_154 11 = .ok (.iconst 0, 1) := by decide +kernel
theorem d_154_12 : decode c_154 12 = .ok (.istore_n 2, 1) := by decide +kernel
theorem d_154_13 : decode c_154 13 = .ok (.iload_n 2, 1) := by decide +kernel
theorem d_154_14 : decode c_154 14 = .ok (.iload_n 1, 1) := by decide +kernel
theorem d_154_15 : decode c_154 15 = .ok (.if_icmp .ge 41, 3) := by decide +kernel
theorem d_154_18 : decode c_154 18 = .ok (.aload_n 0, 1) := by decide +kernel
theorem d_154_19 : decode c_154 19 = .ok (.getfield 73, 3) := by decide +kernel
theorem d_154_22 : decode c_154 22 = .ok (.iload_n 2, 1) := by decide +kernel
theorem d_154_23 : decode c_154 23 = .ok (.iaload, 1) := by decide +kernel
theorem d_154_24 : decode c_154 24 = .ok (.aload_n 0, 1) := by decide +kernel
theorem d_154_25 : decode c_154 25 = .ok (.getfield 73, 3) := by decide +kernel
theorem d_154_28 : decode c_154 28 = .ok (.iload_n 1, 1) := by decide +kernel
theorem d_154_29 : decode c_154 29 = .ok (.iaload, 1) := by decide +kernel
theorem d_154_30 : decode c_154 30 = .ok (.if_icmp .ne 20, 3) := by decide +kernel
theorem d_154_33 : decode c_154 33 = .ok (.aload_n 0, 1) := by decide +kernel
theorem d_154_34 : decode c_154 34 = .ok (.getfield 76, 3) := by decide +kernel
theorem d_154_37 : decode c_154 37 = .ok (.iload_n 2, 1) := by decide +kernel
theorem d_154_38 : decode c_154 38 = .ok (.iaload, 1) := by decide +kernel
theorem d_154_39 : decode c_154 39 = .ok (.aload_n 0, 1) := by decide +kernel
theorem d_154_40 : decode c_154 40 = .ok (.getfield 76, 3) := by decide +kernel
theorem d_154_43 : decode c_154 43 = .ok (.iload_n 1, 1) := by decide +kernel
theorem d_154_44 : decode c_154 44 = .ok (.iaload, 1) := by decide +kernel
theorem d_154_45 : decode c_154 45 = .ok (.if_icmp .ne 5, 3) := by decide +kernel
theorem d_154_48 : decode c_154 48 = .ok (.iconst 1, 1) := by decide +kernel
theorem d_154_49 : decode c_154 49 = .ok (.ireturn, 1) := by decide +kernel
theorem d_154_50 : decode c_154 50 = .ok (.iinc 2 1, 3) := by decide +kernel
theorem d_154_53 : decode c_154 53 = .ok (.goto (-40), 3) := by decide +kernel
theorem d_154_56 : decode c_154 56 = .ok (.iconst 0, 1) := by decide +kernel
theorem d_154_57 : decode c_154 57 = .ok (.ireturn, 1) := by decide +kernel
theorem d_155_0 : decode c_155 0 = .ok (.aload_n 0, 1) := by decide +kernel
theorem d_155_1 : decode c_155 1 = .ok (.aload_n 0, 1) := by decide +kernel
theorem d_155_2 : decode c_155 2 = .ok (.getfield 73, 3) := by decide +kernel
theorem d_155_5 : decode c_155 5 = .ok (.iload_n 1, 1) := by decide +kernel
theorem d_155_6 : decode c_155 6 = .ok (.iaload, 1) := by decide +kernel
theorem d_155_7 : decode c_155 7 = .ok (.aload_n 0, 1) := by decide +kernel
theorem d_155_8 : decode c_155 8 = .ok (.getfield 109, 3) := by decide +kernel
theorem d_155_11 : decode c_155 11 = .ok (.iload_n 2, 1) := by decide +kernel
theorem d_155_12 : decode c_155 12 = .ok (.iaload, 1) := by decide +kernel
theorem d_155_13 : decode c_155 13 = .ok (.invokevirtual 343, 3) := by decide +kernel
theorem d_155_16 : decode c_155 16 = .ok (.istore_n 3, 1) := by decide +kernel
theorem d_155_17 : decode c_155 17 = .ok (.aload_n 0, 1) := by decide +kernel
theorem d_155_18 : decode c_155 18 = .ok (.iload_n 3, 1) := by decide +kernel
theorem d_155_19 : decode c_155 19 = .ok (.invokevirtual 336, 3) := by decide +kernel
theorem d_155_22 : decode c_155 22 = .ok (.istore 4, 2) := by decide +kernel
theorem d_155_24 : decode c_155 24 = .ok (.iload_n 3, 1) := by decide +kernel
theorem d_155_25 : decode c_155 25 = .ok (.ifCond .lt 25, 3) := by decide +kernel
theorem d_155_28 : decode c_155 28 = .ok (.iload 4, 2) := by decide +kernel
theorem d_155_30 : decode c_155 30 = .ok (.ifCond .lt 24, 3) := by decide +kernel
theorem d_155_33 : decode c_155 33 = .ok (.aload_n 0, 1) := by decide +kernel
theorem d_155_34 : decode c_155 34 = .ok (.bipush 9, 2) := by decide +kernel
theorem d_155_36 : decode c_155 36 = .ok (.iload 4, 2) := by decide +kernel
theorem d_155_38 : decode c_155 38 = .ok (.aload_n 0, 1) := by decide +kernel
theorem d_155_39 : decode c_155 39 = .ok (.getfield 112, 3) := by decide +kernel
theorem d_155_42 : decode c_155 42 = .ok (.iload_n 2, 1) := by decide +kernel
theorem d_155_43 : decode c_155 43 = .ok (.iaload, 1) := by decide +kernel
theorem d_155_44 : decode c_155 44 = .ok (.invokevirtual 329, 3) := by decide +kernel
theorem d_155_47 : decode c_155 47 = .ok (.ifCond .ge 7, 3) := by decide +kernel
theorem d_155_50 : decode c_155 50 = .ok (.iconst 1, 1) := by decide +kernel
theorem d_155_51 : decode c_155 51 = .ok (.goto 4, 3) := by decide +kernel
theorem d_155_54 : decode c_155 54 = .ok (.iconst 0, 1) := by decide +kernel
theorem d_155_55 : decode c_155 55 = .ok (.ireturn, 1) := by decide +kernel
theorem d_156_0 : decode c_156 0 = .ok (.aload_n 0, 1) := by decide +kernel
theorem d_156_1 : decode c_156 1 = .ok (.bipush 7, 2) := by decide +kernel
theorem d_156_3 : decode c_156 3 = .ok (.aload_n 0, 1) := by decide +kernel
theorem d_156_4 : decode c_156 4 = .ok (.getfield 73, 3) := by decide +kernel
theorem d_156_7 : decode c_156 7 = .ok (.iload_n 1, 1) := by decide +kernel
theorem d_156_8 : decode c_156 8 = .ok (.iaload, 1) := by decide +kernel
theorem d_156_9 : decode c_156 9 = .ok (.iload_n 2, 1) := by decide +kernel
theorem d_156_10 : decode c_156 10 = .ok (.invokevirtual 329, 3) := by decide +kernel
theorem d_156_13 : decode c_156 13 = .ok (.istore 4, 2) := by decide +kernel
theorem d_156_15 : decode c_156 15 = .ok (.aload_n 0, 1) := by decide +kernel
theorem d_156_16 : decode c_156 16 = .ok (.iload 4, 2) := by decide +kernel
theorem d_156_18 : decode c_156 18 = .ok (.invokevirtual 349, 3) := by decide +kernel
theorem d_156_21 : decode c_156 21 = .ok (.istore 5, 2) := by decide +kernel
theorem d_156_23 : decode c_156 23 = .ok (.iload 4, 2) := by decide +kernel
theorem d_156_25 : decode c_156 25 = .ok (.ifCond .lt 18, 3) := by decide +kernel
theorem d_156_28 : decode c_156 28 = .ok (.iload 5, 2) := by decide +kernel
theorem d_156_30 : decode c_156 30 = .ok (.ifCond .lt 17, 3) := by decide +kernel
theorem d_156_33 : decode c_156 33 = .ok (.aload_n 0, 1) := by decide +kernel
theorem d_156_34 : decode c_156 34 = .ok (.iload 5, 2) := by decide +kernel
theorem d_156_36 : decode c_156 36 = .ok (.iload_n 3, 1) := by decide +kernel
theorem d_156_37 : decode c_156 37 = .ok (.invokevirtual 343, 3) := by decide +kernel
theorem d_156_40 : decode c_156 40 = .ok (.ifCond .ge 7, 3) := by decide +kernel
theorem d_156_43 : decode c_156 43 = .ok (.iconst 1, 1) := by decide +kernel
theorem d_156_44 : decode c_156 44 = .ok (.goto 4, 3) := by decide +kernel
theorem d_156_47 : decode c_156 47 = .ok (.iconst 0, 1) := by decide +kernel
theorem d_156_48 : decode c_156 48 = .ok (.ireturn, 1) := by decide +kernel
theorem d_157_0 : decode c_157 0 = .ok (.aload_n 0, 1) := by decide +kernel
theorem d_157_1 : decode c_157 1 = .ok (.getfield 70, 3) := by decide +kernel
theorem d_157_4 : decode c_157 4 = .ok (.iload_n 1, 1) := by decide +kernel
theorem d_157_5 : decode c_157 5 = .ok (.iaload, 1) := by decide +kernel
theorem d_157_6 : decode c_157 6 = .ok (.tableswitch 222 2 12 #[58, 222, 222, 222, 79, 100, 100, 79, 128, 114, 176], 58) := by decide +kernel
theorem d_157_64 : decode c_157 64 = .ok (.aload_n 0, 1) := by decide +kernel
theorem d_157_65 : decode c_157 65 = .ok (.iconst 0, 1) := by decide +kernel
theorem d_157_66 : decode c_157 66 = .ok (.iconst (-1), 1) := by decide +kernel
theorem d_157_67 : decode c_157 67 = .ok (.aload_n 0, 1) := by decide +kernel
theorem d_157_68 : decode c_157 68 = .ok (.getfield 79, 3) := by decide +kernel
theorem d_157_71 : decode c_157 71 = .ok (.iload_n 1, 1) := by decide +kernel
theorem d_157_72 : decode c_157 72 = .ok (.iaload, 1) := by decide +kernel
theorem d_157_73 : decode c_157 73 = .ok (.invokevirtual 329, 3) := by decide +kernel
theorem d_157_76 : decode c_157 76 = .ok (.ifCond .ge 7, 3) := by decide +kernel
theorem d_157_79 : decode c_157 79 = .ok (.iconst 1, 1) := by decide +kernel
theorem d_157_80 : decode c_157 80 = .ok (.goto 4, 3) := by decide +kernel
theorem d_157_83 : decode c_157 83 = .ok (.iconst 0, 1) := by decide +kernel
theorem d_157_84 : decode c_157 84 = .ok (.ireturn, 1) := by decide +kernel
theorem d_157_85 : decode c_157 85 = .ok (.aload_n 0, 1) := by decide +kernel
theorem d_157_86 : decode c_157 86 = .ok (.iconst 1, 1) := by decide +kernel
theorem d_157_87 : decode c_157 87 = .ok (.iconst (-1), 1) := by decide +kernel
theorem d_157_88 : decode c_157 88 = .ok (.aload_n 0, 1) := by decide +kernel
theorem d_157_89 : decode c_157 89 = .ok (.getfield 79, 3) := by decide +kernel
theorem d_157_92 : decode c_157 92 = .ok (.iload_n 1, 1) := by decide +kernel
theorem d_157_93 : decode c_157 93 = .ok (.iaload, 1) := by decide +kernel
theorem d_157_94 : decode c_157 94 = .ok (.invokevirtual 329, 3) := by decide +kernel
theorem d_157_97 : decode c_157 97 = .ok (.ifCond .ge 7, 3) := by decide +kernel
theorem d_157_100 : decode c_157 100 = .ok (.iconst 1, 1) := by decide +kernel
theorem d_157_101 : decode c_157 101 = .ok (.goto 4, 3) := by decide +kernel
theorem d_157_104 : decode c_157 104 = .ok (.iconst 0, 1) := by decide +kernel
theorem d_157_105 : decode c_157 105 = .ok (.ireturn, 1) := by decide +kernel
theorem d_157_106 : decode c_157 106 = .ok (.aload_n 0, 1) := by decide +kernel
theorem d_157_107 : decode c_157 107 = .ok (.iload_n 1, 1) := by decide +kernel
theorem d_157_108 : decode c_157 108 = .ok (.invokevirtual 336, 3) := by decide +kernel
theorem d_157_111 : decode c_157 111 = .ok (.ifCond .ge 7, 3) := by decide +kernel
theorem d_157_114 : decode c_157 114 = .ok (.iconst 1, 1) := by decide +kernel
theorem d_157_115 : decode c_157 115 = .ok (.goto 4, 3) := by decide +kernel
theorem d_157_118 : decode c_157 118 = .ok (.iconst 0, 1) := by decide +kernel
theorem d_157_119 : decode c_157 119 = .ok (.ireturn, 1) := by decide +kernel
theorem d_157_120 : decode c_157 120 = .ok (.aload_n 0, 1) := by decide +kernel
theorem d_157_121 : decode c_157 121 = .ok (.iload_n 1, 1) := by decide +kernel
theorem d_157_122 : decode c_157 122 = .ok (.invokevirtual 349, 3) := by decide +kernel
theorem d_157_125 : decode c_157 125 = .ok (.ifCond .ge 7, 3) := by decide +kernel
theorem d_157_128 : decode c_157 128 = .ok (.iconst 1, 1) := by decide +kernel
theorem d_157_129 : decode c_157 129 = .ok (.goto 4, 3) := by decide +kernel
theorem d_157_132 : decode c_157 132 = .ok (.iconst 0, 1) := by decide +kernel
theorem d_157_133 : decode c_157 133 = .ok (.ireturn, 1) := by decide +kernel
theorem d_157_134 : decode c_157 134 = .ok (.iconst 0, 1) := by decide +kernel
theorem d_157_135 : decode c_157 135 = .ok (.istore_n 2, 1) := by decide +kernel
theorem d_157_136 : decode c_157 136 = .ok (.iconst 0, 1) := by decide +kernel
theorem d_157_137 : decode c_157 137 = .ok (.istore_n 3, 1) := by decide +kernel
theorem d_157_138 : decode c_157 138 = .ok (.iload_n 3, 1) := by decide +kernel
theorem d_157_139 : decode c_157 139 = .ok (.aload_n 0, 1) := by decide +kernel
theorem d_157_140 : decode c_157 140 = .ok (.getfield 103, 3) := by decide +kernel
theorem d_157_143 : decode c_157 143 = .ok (.iload_n 1, 1) := by decide +kernel
theorem d_157_144 : decode c_157 144 = .ok (.iaload, 1) := by decide +kernel
theorem d_157_145 : decode c_157 145 = .ok (.if_icmp .ge 35, 3) := by decide +kernel
theorem d_157_148 : decode c_157 148 = .ok (.iload_n 2, 1) := by decide +kernel
theorem d_157_149 : decode c_157 149 = .ok (.ifCond .ne 19, 3) := by decide +kernel
theorem d_157_152 : decode c_157 152 = .ok (.aload_n 0, 1) := by decide +kernel
theorem d_157_153 : decode c_157 153 = .ok (.iload_n 1, 1) := by decide +kernel
theorem d_157_154 : decode c_157 154 = .ok (.aload_n 0, 1) := by decide +kernel
theorem d_157_155 : decode c_157 155 = .ok (.getfield 100, 3) := by decide +kernel
theorem d_157_158 : decode c_157 158 = .ok (.iload_n 1, 1) := by decide +kernel
theorem d_157_159 : decode c_157 159 = .ok (.iaload, 1) := by decide +kernel
theorem d_157_160 : decode c_157 160 = .ok (.iload_n 3, 1) := by decide +kernel
theorem d_157_161 : decode c_157 161 = .ok (.iadd, 1) := by decide +kernel
theorem d_157_162 : decode c_157 162 = .ok (.invokevirtual 356, 3) := by decide +kernel
theorem d_157_165 : decode c_157 165 = .ok (.ifCond .eq 7, 3) := by decide +kernel
theorem d_157_168 : decode c_157 168 = .ok (.iconst 1, 1) := by decide +kernel
theorem d_157_169 : decode c_157 169 = .ok (.goto 4, 3) := by decide +kernel
theorem d_157_172 : decode c_157 172 = .ok (.iconst 0, 1) := by decide +kernel
theorem d_157_173 : decode c_157 173 = .ok (.istore_n 2, 1) := by decide +kernel
theorem d_157_174 : decode c_157 174 = .ok (.iinc 3 1, 3) := by decide +kernel
theorem d_157_177 : decode c_157 177 = .ok (.goto (-39), 3) := by decide +kernel
theorem d_157_180 : decode c_157 180 = .ok (.iload_n 2, 1) := by decide +kernel
theorem d_157_181 : decode c_157 181 = .ok (.ireturn, 1) := by decide +kernel
theorem d_157_182 : decode c_157 182 = .ok (.aload_n 0, 1) := by decide +kernel
theorem d_157_183 : decode c_157 183 = .ok (.iload_n 1, 1) := by decide +kernel
theorem d_157_184 : decode c_157 184 = .ok (.aload_n 0, 1) := by decide +kernel
theorem d_157_185 : decode c_157 185 = .ok (.getfield 79, 3) := by decide +kernel
theorem d_157_188 : decode c_157 188 = .ok (.iload_n 1, 1) := by decide +kernel
theorem d_157_189 : decode c_157 189 = .ok (.iaload, 1) := by decide +kernel
theorem d_157_190 : decode c_157 190 = .ok (.aload_n 0, 1) := by decide +kernel
theorem d_157_191 : decode c_157 191 = .ok (.getfield 82, 3) := by decide +kernel
theorem d_157_194 : decode c_157 194 = .ok (.iload_n 1, 1) := by decide +kernel
theorem d_157_195 : decode c_157 195 = .ok (.iaload, 1) := by decide +kernel
theorem d_157_196 : decode c_157 196 = .ok (.invokevirtual 359, 3) := by decide +kernel
theorem d_157_199 : decode c_157 199 = .ok (.ifCond .ne 23, 3) := by decide +kernel
theorem d_157_202 : decode c_157 202 = .ok (.aload_n 0, 1) := by decide +kernel
theorem d_157_203 : decode c_157 203 = .ok (.iload_n 1, 1) := by decide +kernel
theorem d_157_204 : decode c_157 204 = .ok (.aload_n 0, 1) := by decide +kernel
theorem d_157_205 : decode c_157 205 = .ok (.getfield 85, 3) := by decide +kernel
theorem d_157_208 : decode c_157 208 = .ok (.iload_n 1, 1) := by decide +kernel
theorem d_157_209 : decode c_157 209 = .ok (.iaload, 1) := by decide +kernel
theorem d_157_210 : decode c_157 210 = .ok (.aload_n 0, 1) := by decide +kernel
theorem d_157_211 : decode c_157 211 = .ok (.getfield 88, 3) := by decide +kernel
theorem d_157_214 : decode c_157 214 = .ok (.iload_n 1, 1) := by decide +kernel
theorem d_157_215 : decode c_157 215 = .ok (.iaload, 1) := by decide +kernel
theorem d_157_216 : decode c_157 216 = .ok (.invokevirtual 359, 3) := by decide +kernel
theorem d_157_219 : decode c_157 219 = .ok (.ifCond .eq 7, 3) := by decide +kernel
theorem d_157_222 : decode c_157 222 = .ok (.iconst 1, 1) := by decide +kernel
theorem d_157_223 : decode c_157 223 = .ok (.goto 4, 3) := by decide +kernel
theorem d_157_226 : decode c_157 226 = .ok (.iconst 0, 1) := by decide +kernel
theorem d_157_227 : decode c_157 227 = .ok (.ireturn, 1) := by decide +kernel
theorem d_157_228 : decode c_157 228 = .ok (.iconst 0, 1) := by decide +kernel
theorem d_157_229 : decode c_157 229 = .ok (.ireturn, 1) := by decide +kernel
theorem d_158_0 : decode c_158 0 = .ok (.aload_n 0, 1) := by decide +kernel
theorem d_158_1 : decode c_158 1 = .ok (.aload_n 0, 1) := by decide +kernel
theorem d_158_2 : decode c_158 2 = .ok (.aload_n 0, 1) := by decide +kernel
theorem d_158_3 : decode c_158 3 = .ok (.bipush 7, 2) := by decide +kernel
theorem d_158_5 : decode c_158 5 = .ok (.aload_n 0, 1) := by decide +kernel
theorem d_158_6 : decode c_158 6 = .ok (.getfield 73, 3) := by decide +kernel
theorem d_158_9 : decode c_158 9 = .ok (.iload_n 1, 1) := by decide +kernel
theorem d_158_10 : decode c_158 10 = .ok (.iaload, 1) := by decide +kernel
theorem d_158_11 : decode c_158 11 = .ok (.aload_n 0, 1) := by decide +kernel
theorem d_158_12 : decode c_158 12 = .ok (.getfield 79, 3) := by decide +kernel
theorem d_158_15 : decode c_158 15 = .ok (.iload_n 1, 1) := by decide +kernel
theorem d_158_16 : decode c_158 16 = .ok (.iaload, 1) := by decide +kernel
theorem d_158_17 : decode c_158 17 = .ok (.invokevirtual 329, 3) := by decide +kernel
theorem d_158_20 : decode c_158 20 = .ok (.invokevirtual 349, 3) := by decide +kernel
theorem d_158_23 : decode c_158 23 = .ok (.aload_n 0, 1) := by decide +kernel
theorem d_158_24 : decode c_158 24 = .ok (.getfield 82, 3) := by decide +kernel
theorem d_158_27 : decode c_158 27 = .ok (.iload_n 1, 1) := by decide +kernel
theorem d_158_28 : decode c_158 28 = .ok (.iaload, 1) := by decide +kernel
theorem d_158_29 : decode c_158 29 = .ok (.invokevirtual 343, 3) := by decide +kernel
theorem d_158_32 : decode c_158 32 = .ok (.ireturn, 1) := by decide +kernel
theorem d_159_0 : decode c_159 0 = .ok (.aload_n 0, 1) := by decide +kernel
theorem d_159_1 : decode c_159 1 = .ok (.aload_n 0, 1) := by decide +kernel
theorem d_159_2 : decode c_159 2 = .ok (.aload_n 0, 1) := by decide +kernel
theorem d_159_3 : decode c_159 3 = .ok (.bipush 7, 2) := by decide +kernel
theorem d_159_5 : decode c_159 5 = .ok (.aload_n 0, 1) := by decide +kernel
theorem d_159_6 : decode c_159 6 = .ok (.getfield 73, 3) := by decide +kernel
theorem d_159_9 : decode c_159 9 = .ok (.iload_n 1, 1) := by decide +kernel
theorem d_159_10 : decode c_159 10 = .ok (.iaload, 1) := by decide +kernel
theorem d_159_11 : decode c_159 11 = .ok (.aload_n 0, 1) := by decide +kernel
theorem d_159_12 : decode c_159 12 = .ok (.getfield 85, 3) := by decide +kernel
theorem d_159_15 : decode c_159 15 = .ok (.iload_n 1, 1) := by decide +kernel
theorem d_159_16 : decode c_159 16 = .ok (.iaload, 1) := by decide +kernel
theorem d_159_17 : decode c_159 17 = .ok (.invokevirtual 329, 3) := by decide +kernel
theorem d_159_20 : decode c_159 20 = .ok (.invokevirtual 349, 3) := by decide +kernel
theorem d_159_23 : decode c_159 23 = .ok (.aload_n 0, 1) := by decide +kernel
theorem d_159_24 : decode c_159 24 = .ok (.getfield 88, 3) := by decide +kernel
theorem d_159_27 : decode c_159 27 = .ok (.iload_n 1, 1) := by decide +kernel
theorem d_159_28 : decode c_159 28 = .ok (.iaload, 1) := by decide +kernel
theorem d_159_29 : decode c_159 29 = .ok (.invokevirtual 343, 3) := by decide +kernel
theorem d_159_32 : decode c_159 32 = .ok (.ireturn, 1) := by decide +kernel
theorem d_160_0 : decode c_160 0 = .ok (.iconst 0, 1) := by decide +kernel
theorem d_160_1 : decode c_160 1 = .ok (.istore_n 2, 1) := by decide +kernel
theorem d_160_2 : decode c_160 2 = .ok (.aload_n 0, 1) := by decide +kernel
theorem d_160_3 : decode c_160 3 = .ok (.getfield 100, 3) := by decide +kernel
theorem d_160_6 : decode c_160 6 = .ok (.iload_n 1, 1) := by decide +kernel
theorem d_160_7 : decode c_160 7 = .ok (.iaload, 1) := by decide +kernel
theorem d_160_8 : decode c_160 8 = .ok (.istore_n 3, 1) := by decide +kernel
theorem d_160_9 : decode c_160 9 = .ok (.iload_n 3, 1) := by decide +kernel
theorem d_160_10 : decode c_160 10 = .ok (.aload_n 0, 1) := by decide +kernel
theorem d_160_11 : decode c_160 11 = .ok (.getfield 100, 3) := by decide +kernel
theorem d_160_14 : decode c_160 14 = .ok (.iload_n 1, 1) := by decide +kernel
theorem d_160_15 : decode c_160 15 = .ok (.iaload, 1) := by decide +kernel
theorem d_160_16 : decode c_160 16 = .ok (.aload_n 0, 1) := by decide +kernel
theorem d_160_17 : decode c_160 17 = .ok (.getfield 103, 3) := by decide +kernel
theorem d_160_20 : decode c_160 20 = .ok (.iload_n 1, 1) := by decide +kernel
theorem d_160_21 : decode c_160 21 = .ok (.iaload, 1) := by decide +kernel
theorem d_160_22 : decode c_160 22 = .ok (.iadd, 1) := by decide +kernel
theorem d_160_23 : decode c_160 23 = .ok (.if_icmp .ge 80, 3) := by decide +kernel
theorem d_160_26 : decode c_160 26 = .ok (.aload_n 0, 1) := by decide +kernel
theorem d_160_27 : decode c_160 27 = .ok (.getfield 70, 3) := by decide +kernel
theorem d_160_30 : decode c_160 30 = .ok (.iload_n 1, 1) := by decide +kernel
theorem d_160_31 : decode c_160 31 = .ok (.iaload, 1) := by decide +kernel
theorem d_160_32 : decode c_160 32 = .ok (.bipush 10, 2) := by decide +kernel
theorem d_160_34 : decode c_160 34 = .ok (.if_icmp .ne 69, 3) := by decide +kernel
theorem d_160_37 : decode c_160 37 = .ok (.aload_n 0, 1) := by decide +kernel
theorem d_160_38 : decode c_160 38 = .ok (.aload_n 0, 1) := by decide +kernel
theorem d_160_39 : decode c_160 39 = .ok (.getfield 73, 3) := by decide +kernel
theorem d_160_42 : decode c_160 42 = .ok (.iload_n 1, 1) := by decide +kernel
theorem d_160_43 : decode c_160 43 = .ok (.iaload, 1) := by decide +kernel
theorem d_160_44 : decode c_160 44 = .ok (.aload_n 0, 1) := by decide +kernel
theorem d_160_45 : decode c_160 45 = .ok (.getfield 109, 3) := by decide +kernel
theorem d_160_48 : decode c_160 48 = .ok (.iload_n 3, 1) := by decide +kernel
theorem d_160_49 : decode c_160 49 = .ok (.iaload, 1) := by decide +kernel
theorem d_160_50 : decode c_160 50 = .ok (.invokevirtual 343, 3) := by decide +kernel
theorem d_160_53 : decode c_160 53 = .ok (.istore 4, 2) := by decide +kernel
theorem d_160_55 : decode c_160 55 = .ok (.iload_n 2, 1) := by decide +kernel
theorem d_160_56 : decode c_160 56 = .ok (.ifCond .ne 35, 3) := by decide +kernel
theorem d_160_59 : decode c_160 59 = .ok (.iload 4, 2) := by decide +kernel
theorem d_160_61 : decode c_160 61 = .ok (.ifCond .lt 34, 3) := by decide +kernel
theorem d_160_64 : decode c_160 64 = .ok (.aload_n 0, 1) := by decide +kernel
theorem d_160_65 : decode c_160 65 = .ok (.getfield 70, 3) := by decide +kernel
theorem d_160_68 : decode c_160 68 = .ok (.iload 4, 2) := by decide +kernel
theorem d_160_70 : decode c_160 70 = .ok (.iaload, 1) := by decide +kernel
theorem d_160_71 : decode c_160 71 = .ok (.aload_n 0, 1) := by decide +kernel
theorem d_160_72 : decode c_160 72 = .ok (.getfield 106, 3) := by decide +kernel
theorem d_160_75 : decode c_160 75 = .ok (.iload_n 3, 1) := by decide +kernel
theorem d_160_76 : decode c_160 76 = .ok (.iaload, 1) := by decide +kernel
theorem d_160_77 : decode c_160 77 = .ok (.iconst 2, 1) := by decide +kernel
theorem d_160_78 : decode c_160 78 = .ok (.if_icmp .ne 8, 3) := by decide +kernel
theorem d_160_81 : decode c_160 81 = .ok (.bipush 8, 2) := by decide +kernel
theorem d_160_83 : decode c_160 83 = .ok (.goto 5, 3) := by decide +kernel
theorem d_160_86 : decode c_160 86 = .ok (.bipush 7, 2) := by decide +kernel
theorem d_160_88 : decode c_160 88 = .ok (.if_icmp .ne 7, 3) := by decide +kernel
theorem d_160_91 : decode c_160 91 = .ok (.iconst 1, 1) := by decide +kernel
theorem d_160_92 : decode c_160 92 = .ok (.goto 4, 3) := by decide +kernel
theorem d_160_95 : decode c_160 95 = .ok (.iconst 0, 1) := by decide +kernel
theorem d_160_96 : decode c_160 96 = .ok (.istore_n 2, 1) := by decide +kernel
theorem d_160_97 : decode c_160 97 = .ok (.iinc 3 1, 3) := by decide +kernel
theorem d_160_100 : decode c_160 100 = .ok (.goto (-91), 3) := by decide +kernel
theorem d_160_103 : decode c_160 103 = .ok (.aload_n 0, 1) := by decide +kernel
theorem d_160_104 : decode c_160 104 = .ok (.getfield 70, 3) := by decide +kernel
theorem d_160_107 : decode c_160 107 = .ok (.iload_n 1, 1) := by decide +kernel
theorem d_160_108 : decode c_160 108 = .ok (.iaload, 1) := by decide +kernel
theorem d_160_109 : decode c_160 109 = .ok (.bipush 12, 2) := by decide +kernel
theorem d_160_111 : decode c_160 111 = .ok (.if_icmp .eq 5, 3) := by decide +kernel
theorem d_160_114 : decode c_160 114 = .ok (.iload_n 2, 1) := by decide +kernel
theorem d_160_115 : decode c_160 115 = .ok (.ireturn, 1) := by decide +kernel
theorem d_160_116 : decode c_160 116 = .ok (.aload_n 0, 1) := by decide +kernel
theorem d_160_117 : decode c_160 117 = .ok (.iload_n 1, 1) := by decide +kernel
theorem d_160_118 : decode c_160 118 = .ok (.invokevirtual 363, 3) := by decide +kernel
theorem d_160_121 : decode c_160 121 = .ok (.istore_n 3, 1) := by decide +kernel
theorem d_160_122 : decode c_160 122 = .ok (.aload_n 0, 1) := by decide +kernel
theorem d_160_123 : decode c_160 123 = .ok (.iload_n 1, 1) := by decide +kernel
theorem d_160_124 : decode c_160 124 = .ok (.invokevirtual 366, 3) := by decide +kernel
theorem d_160_127 : decode c_160 127 = .ok (.istore 4, 2) := by decide +kernel
theorem d_160_129 : decode c_160 129 = .ok (.iload_n 3, 1) := by decide +kernel
theorem d_160_130 : decode c_160 130 = .ok (.ifCond .lt 14, 3) := by decide +kernel
theorem d_160_133 : decode c_160 133 = .ok (.aload_n 0, 1) := by decide +kernel
theorem d_160_134 : decode c_160 134 = .ok (.getfield 70, 3) := by decide +kernel
theorem d_160_137 : decode c_160 137 = .ok (.iload_n 3, 1) := by decide +kernel
theorem d_160_138 : decode c_160 138 = .ok (.iaload, 1) := by decide +kernel
theorem d_160_139 : decode c_160 139 = .ok (.bipush 8, 2) := by decide +kernel
theorem d_160_141 : decode c_160 141 = .ok (.if_icmp .eq 20, 3) := by decide +kernel
theorem d_160_144 : decode c_160 144 = .ok (.iload 4, 2) := by decide +kernel
theorem d_160_146 : decode c_160 146 = .ok (.ifCond .lt 19, 3) := by decide +kernel
theorem d_160_149 : decode c_160 149 = .ok (.aload_n 0, 1) := by decide +kernel
theorem d_160_150 : decode c_160 150 = .ok (.getfield 70, 3) := by decide +kernel
theorem d_160_153 : decode c_160 153 = .ok (.iload 4, 2) := by decide +kernel
theorem d_160_155 : decode c_160 155 = .ok (.iaload, 1) := by decide +kernel
theorem d_160_156 : decode c_160 156 = .ok (.bipush 7, 2) := by decide +kernel
theorem d_160_158 : decode c_160 158 = .ok (.if_icmp .ne 7, 3) := by decide +kernel
theorem d_160_161 : decode c_160 161 = .ok (.iconst 1, 1) := by decide +kernel
theorem d_160_162 : decode c_160 162 = .ok (.goto 4, 3) := by decide +kernel
theorem d_160_165 : decode c_160 165 = .ok (.iconst 0, 1) := by decide +kernel
theorem d_160_166 : decode c_160 166 = .ok (.ireturn, 1) := by decide +kernel
theorem d_161_0 : decode c_161 0 = .ok (.iload_n 1, 1) := by decide +kernel
theorem d_161_1 : decode c_161 1 = .ok (.ifCond .ge 7, 3) := by decide +kernel
theorem d_161_4 : decode c_161 4 = .ok (.iconst (-1), 1) := by decide +kernel
theorem d_161_5 : decode c_161 5 = .ok (.goto 15, 3) := by decide +kernel
theorem d_161_8 : decode c_161 8 = .ok (.aload_n 0, 1) := by decide +kernel
theorem d_161_9 : decode c_161 9 = .ok (.iconst 0, 1) := by decide +kernel
theorem d_161_10 : decode c_161 10 = .ok (.iconst (-1), 1) := by decide +kernel
theorem d_161_11 : decode c_161 11 = .ok (.aload_n 0, 1) := by decide +kernel
theorem d_161_12 : decode c_161 12 = .ok (.getfield 79, 3) := by decide +kernel
theorem d_161_15 : decode c_161 15 = .ok (.iload_n 1, 1) := by decide +kernel
theorem d_161_16 : decode c_161 16 = .ok (.iaload, 1) := by decide +kernel
theorem d_161_17 : decode c_161 17 = .ok (.invokevirtual 329, 3) := by decide +kernel
theorem d_161_20 : decode c_161 20 = .ok (.istore 4, 2) := by decide +kernel
theorem d_161_22 : decode c_161 22 = .ok (.iload_n 2, 1) := by decide +kernel
theorem d_161_23 : decode c_161 23 = .ok (.ifCond .ge 7, 3) := by decide +kernel
theorem d_161_26 : decode c_161 26 = .ok (.iconst (-1), 1) := by decide +kernel
theorem d_161_27 : decode c_161 27 = .ok (.goto 15, 3) := by decide +kernel
theorem d_161_30 : decode c_161 30 = .ok (.aload_n 0, 1) := by decide +kernel
theorem d_161_31 : decode c_161 31 = .ok (.iconst 0, 1) := by decide +kernel
theorem d_161_32 : decode c_161 32 = .ok (.iconst (-1), 1) := by decide +kernel
theorem d_161_33 : decode c_161 33 = .ok (.aload_n 0, 1) := by decide +kernel
theorem d_161_34 : decode c_161 34 = .ok (.getfield 79, 3) := by decide +kernel
theorem d_161_37 : decode c_161 37 = .ok (.iload_n 2, 1) := by decide +kernel
theorem d_161_38 : decode c_161 38 = .ok (.iaload, 1) := by decide +kernel
theorem d_161_39 : decode c_161 39 = .ok (.invokevirtual 329, 3) := by decide +kernel
theorem d_161_42 : decode c_161 42 = .ok (.istore 5, 2) := by decide +kernel
theorem d_161_44 : decode c_161 44 = .ok (.iload 4, 2) := by decide +kernel
theorem d_161_46 : decode c_161 46 = .ok (.ifCond .lt 8, 3) := by decide +kernel
theorem d_161_49 : decode c_161 49 = .ok (.iload 5, 2) := by decide +kernel
theorem d_161_51 : decode c_161 51 = .ok (.ifCond .ge 5, 3) := by decide +kernel
theorem d_161_54 : decode c_161 54 = .ok (.iconst 0, 1) := by decide +kernel
theorem d_161_55 : decode c_161 55 = .ok (.ireturn, 1) := by decide +kernel
theorem d_161_56 : decode c_161 56 = .ok (.iload_n 3, 1) := by decide +kernel
theorem d_161_57 : decode c_161 57 = .ok (.bipush 7, 2) := by decide +kernel
theorem d_161_59 : decode c_161 59 = .ok (.if_icmp .ne 26, 3) := by decide +kernel
theorem d_161_62 : decode c_161 62 = .ok (.aload_n 0, 1) := by decide +kernel
theorem d_161_63 : decode c_161 63 = .ok (.getfield 79, 3) := by decide +kernel
theorem d_161_66 : decode c_161 66 = .ok (.iload 4, 2) := by decide +kernel
theorem d_161_68 : decode c_161 68 = .ok (.iaload, 1) := by decide +kernel
theorem d_161_69 : decode c_161 69 = .ok (.aload_n 0, 1) := by decide +kernel
theorem d_161_70 : decode c_161 70 = .ok (.getfield 79, 3) := by decide +kernel
theorem d_161_73 : decode c_161 73 = .ok (.iload 5, 2) := by decide +kernel
theorem d_161_75 : decode c_161 75 = .ok (.iaload, 1) := by decide +kernel
theorem d_161_76 : decode c_161 76 = .ok (.if_icmp .eq 7, 3) := by decide +kernel
theorem d_161_79 : decode c_161 79 = .ok (.iconst 1, 1) := by decide +kernel
theorem d_161_80 : decode c_161 80 = .ok (.goto 4, 3) := by decide +kernel
theorem d_161_83 : decode c_161 83 = .ok (.iconst 0, 1) := by decide +kernel
theorem d_161_84 : decode c_161 84 = .ok (.ireturn, 1) := by decide +kernel
theorem d_161_85 : decode c_161 85 = .ok (.aload_n 0, 1) := by decide +kernel
theorem d_161_86 : decode c_161 86 = .ok (.getfield 91, 3) := by decide +kernel
theorem d_161_89 : decode c_161 89 = .ok (.iload 4, 2) := by decide +kernel
theorem d_161_91 : decode c_161 91 = .ok (.iaload, 1) := by decide +kernel
theorem d_161_92 : decode c_161 92 = .ok (.i2l, 1) := by decide +kernel
theorem d_161_93 : decode c_161 93 = .ok (.aload_n 0, 1) := by decide +kernel
theorem d_161_94 : decode c_161 94 = .ok (.getfield 94, 3) := by decide +kernel
theorem d_161_97 : decode c_161 97 = .ok (.iload 5, 2) := by decide +kernel
theorem d_161_99 : decode c_161 99 = .ok (.iaload, 1) := by decide +kernel
theorem d_161_100 : decode c_161 100 = .ok (.i2l, 1) := by decide +kernel
theorem d_161_101 : decode c_161 101 = .ok (.lmul, 1) := by decide +kernel
theorem d_161_102 : decode c_161 102 = .ok (.lstore 6, 2) := by decide +kernel
theorem d_161_104 : decode c_161 104 = .ok (.aload_n 0, 1) := by decide +kernel
theorem d_161_105 : decode c_161 105 = .ok (.getfield 91, 3) := by decide +kernel
theorem d_161_108 : decode c_161 108 = .ok (.iload 5, 2) := by decide +kernel
theorem d_161_110 : decode c_161 110 = .ok (.iaload, 1) := by decide +kernel
theorem d_161_111 : decode c_161 111 = .ok (.i2l, 1) := by decide +kernel
theorem d_161_112 : decode c_161 112 = .ok (.aload_n 0, 1) := by decide +kernel
theorem d_161_113 : decode c_161 113 = .ok (.getfield 94, 3) := by decide +kernel
theorem d_161_116 : decode c_161 116 = .ok (.iload 4, 2) := by decide +kernel
theorem d_161_118 : decode c_161 118 = .ok (.iaload, 1) := by decide +kernel
theorem d_161_119 : decode c_161 119 = .ok (.i2l, 1) := by decide +kernel
theorem d_161_120 : decode c_161 120 = .ok (.lmul, 1) := by decide +kernel
theorem d_161_121 : decode c_161 121 = .ok (.lstore 8, 2) := by decide +kernel
theorem d_161_123 : decode c_161 123 = .ok (.aload_n 0, 1) := by decide +kernel
theorem d_161_124 : decode c_161 124 = .ok (.getfield 91, 3) := by decide +kernel
theorem d_161_127 : decode c_161 127 = .ok (.iload_n 1, 1) := by decide +kernel
theorem d_161_128 : decode c_161 128 = .ok (.iaload, 1) := by decide +kernel
theorem d_161_129 : decode c_161 129 = .ok (.i2l, 1) := by decide +kernel
theorem d_161_130 : decode c_161 130 = .ok (.lload 6, 2) := by decide +kernel
theorem d_161_132 : decode c_161 132 = .ok (.lmul, 1) := by decide +kernel
theorem d_161_133 : decode c_161 133 = .ok (.aload_n 0, 1) := by decide +kernel
theorem d_161_134 : decode c_161 134 = .ok (.getfield 91, 3) := by decide +kernel
theorem d_161_137 : decode c_161 137 = .ok (.iload_n 2, 1) := by decide +kernel
theorem d_161_138 : decode c_161 138 = .ok (.iaload, 1) := by decide +kernel
theorem d_161_139 : decode c_161 139 = .ok (.i2l, 1) := by decide +kernel
theorem d_161_140 : decode c_161 140 = .ok (.lload 8, 2) := by decide +kernel
theorem d_161_142 : decode c_161 142 = .ok (.lmul, 1) := by decide +kernel
theorem d_161_143 : decode c_161 143 = .ok (.lcmp, 1) := by decide +kernel
theorem d_161_144 : decode c_161 144 = .ok (.ifCond .lt 27, 3) := by decide +kernel
theorem d_161_147 : decode c_161 147 = .ok (.aload_n 0, 1) := by decide +kernel
theorem d_161_148 : decode c_161 148 = .ok (.getfield 94, 3) := by decide +kernel
theorem d_161_151 : decode c_161 151 = .ok (.iload_n 1, 1) := by decide +kernel
theorem d_161_152 : decode c_161 152 = .ok (.iaload, 1) := by decide +kernel
theorem d_161_153 : decode c_161 153 = .ok (.i2l, 1) := by decide +kernel
theorem d_161_154 : decode c_161 154 = .ok (.lload 6, 2) := by decide +kernel
theorem d_161_156 : decode c_161 156 = .ok (.lmul, 1) := by decide +kernel
theorem d_161_157 : decode c_161 157 = .ok (.aload_n 0, 1) := by decide +kernel
theorem d_161_158 : decode c_161 158 = .ok (.getfield 94, 3) := by decide +kernel
theorem d_161_161 : decode c_161 161 = .ok (.iload_n 2, 1) := by decide +kernel
theorem d_161_162 : decode c_161 162 = .ok (.iaload, 1) := by decide +kernel
theorem d_161_163 : decode c_161 163 = .ok (.i2l, 1) := by decide +kernel
theorem d_161_164 : decode c_161 164 = .ok (.lload 8, 2) := by decide +kernel
theorem d_161_166 : decode c_161 166 = .ok (.lmul, 1) := by decide +kernel
theorem d_161_167 : decode c_161 167 = .ok (.lcmp, 1) := by decide +kernel
theorem d_161_168 : decode c_161 168 = .ok (.ifCond .le 7, 3) := by decide +kernel
theorem d_161_171 : decode c_161 171 = .ok (.iconst 1, 1) := by decide +kernel
theorem d_161_172 : decode c_161 172 = .ok (.goto 4, 3) := by decide +kernel
theorem d_161_175 : decode c_161 175 = .ok (.iconst 0, 1) := by decide +kernel
theorem d_161_176 : decode c_161 176 = .ok (.ireturn, 1) := by decide +kernel
theorem d_162_0 : decode c_162 0 = .ok (.aload_n 0, 1) := by decide +kernel
theorem d_162_1 : decode c_162 1 = .ok (.aload_n 0, 1) := by decide +kernel
theorem d_162_2 : decode c_162 2 = .ok (.iload_n 1, 1) := by decide +kernel
theorem d_162_3 : decode c_162 3 = .ok (.invokevirtual 363, 3) := by decide +kernel
theorem d_162_6 : decode c_162 6 = .ok (.invokevirtual 336, 3) := by decide +kernel
theorem d_162_9 : decode c_162 9 = .ok (.istore_n 3, 1) := by decide +kernel
theorem d_162_10 : decode c_162 10 = .ok (.aload_n 0, 1) := by decide +kernel
theorem d_162_11 : decode c_162 11 = .ok (.aload_n 0, 1) := by decide +kernel
theorem d_162_12 : decode c_162 12 = .ok (.iload_n 1, 1) := by decide +kernel
theorem d_162_13 : decode c_162 13 = .ok (.invokevirtual 366, 3) := by decide +kernel
theorem d_162_16 : decode c_162 16 = .ok (.invokevirtual 336, 3) := by decide +kernel
theorem d_162_19 : decode c_162 19 = .ok (.istore 4, 2) := by decide +kernel
theorem d_162_21 : decode c_162 21 = .ok (.iconst 0, 1) := by decide +kernel
theorem d_162_22 : decode c_162 22 = .ok (.istore 5, 2) := by decide +kernel
theorem d_162_24 : decode c_162 24 = .ok (.iconst 0, 1) := by decide +kernel
theorem d_162_25 : decode c_162 25 = .ok (.istore 6, 2) := by decide +kernel
theorem d_162_27 : decode c_162 27 = .ok (.iload 6, 2) := by decide +kernel
theorem d_162_29 : decode c_162 29 = .ok (.aload_n 0, 1) := by decide +kernel
theorem d_162_30 : decode c_162 30 = .ok (.getfield 313, 3) := by decide +kernel
theorem d_162_33 : decode c_162 33 = .ok (.if_icmp .ge 126, 3) := by decide +kernel
theorem d_162_36 : decode c_162 36 = .ok (.iload_n 3, 1) := by decide +kernel
theorem d_162_37 : decode c_162 37 = .ok (.ifCond .lt 122, 3) := by decide +kernel
theorem d_162_40 : decode c_162 40 = .ok (.iload 4, 2) := by decide +kernel
theorem d_162_42 : decode c_162 42 = .ok (.ifCond .lt 117, 3) := by decide +kernel
theorem d_162_45 : decode c_162 45 = .ok (.aload_n 0, 1) := by decide +kernel
theorem d_162_46 : decode c_162 46 = .ok (.getfield 70, 3) := by decide +kernel
theorem d_162_49 : decode c_162 49 = .ok (.iload 6, 2) := by decide +kernel
theorem d_162_51 : decode c_162 51 = .ok (.iaload, 1) := by decide +kernel
theorem d_162_52 : decode c_162 52 = .ok (.bipush 6, 2) := by decide +kernel
theorem d_162_54 : decode c_162 54 = .ok (.if_icmp .ne 99, 3) := by decide +kernel
theorem d_162_57 : decode c_162 57 = .ok (.aload_n 0, 1) := by decide +kernel
theorem d_162_58 : decode c_162 58 = .ok (.getfield 73, 3) := by decide +kernel
theorem d_162_61 : decode c_162 61 = .ok (.iload 6, 2) := by decide +kernel
theorem d_162_63 : decode c_162 63 = .ok (.iaload, 1) := by decide +kernel
theorem d_162_64 : decode c_162 64 = .ok (.iload 4, 2) := by decide +kernel
theorem d_162_66 : decode c_162 66 = .ok (.if_icmp .eq 6, 3) := by decide +kernel
theorem d_162_69 : decode c_162 69 = .ok (.goto 84, 3) := by decide +kernel
theorem d_162_72 : decode c_162 72 = .ok (.aload_n 0, 1) := by decide +kernel
theorem d_162_73 : decode c_162 73 = .ok (.bipush 9, 2) := by decide +kernel
theorem d_162_75 : decode c_162 75 = .ok (.iload_n 3, 1) := by decide +kernel
theorem d_162_76 : decode c_162 76 = .ok (.aload_n 0, 1) := by decide +kernel
theorem d_162_77 : decode c_162 77 = .ok (.getfield 76, 3) := by decide +kernel
theorem d_162_80 : decode c_162 80 = .ok (.iload 6, 2) := by decide +kernel
theorem d_162_82 : decode c_162 82 = .ok (.iaload, 1) := by decide +kernel
theorem d_162_83 : decode c_162 83 = .ok (.invokevirtual 329, 3) := by decide +kernel
theorem d_162_86 : decode c_162 86 = .ok (.istore 7, 2) := by decide +kernel
theorem d_162_88 : decode c_162 88 = .ok (.iload 5, 2) := by decide +kernel
theorem d_162_90 : decode c_162 90 = .ok (.ifCond .ne 56, 3) := by decide +kernel
theorem d_162_93 : decode c_162 93 = .ok (.iload_n 2, 1) := by decide +kernel
theorem d_162_94 : decode c_162 94 = .ok (.bipush 6, 2) := by decide +kernel
theorem d_162_96 : decode c_162 96 = .ok (.if_icmp .ne 11, 3) := by decide +kernel
theorem d_162_99 : decode c_162 99 = .ok (.iload 7, 2) := by decide +kernel
theorem d_162_101 : decode c_162 101 = .ok (.ifCond .ge 49, 3) := by decide +kernel
theorem d_162_104 : decode c_162 104 = .ok (.goto 42, 3) := by decide +kernel
theorem d_162_107 : decode c_162 107 = .ok (.iload 7, 2) := by decide +kernel
theorem d_162_109 : decode c_162 109 = .ok (.ifCond .lt 41, 3) := by decide +kernel
theorem d_162_112 : decode c_162 112 = .ok (.aload_n 0, 1) := by decide +kernel
theorem d_162_113 : decode c_162 113 = .ok (.aload_n 0, 1) := by decide +kernel
theorem d_162_114 : decode c_162 114 = .ok (.iconst 1, 1) := by decide +kernel
theorem d_162_115 : decode c_162 115 = .ok (.iconst (-1), 1) := by decide +kernel
theorem d_162_116 : decode c_162 116 = .ok (.aload_n 0, 1) := by decide +kernel
theorem d_162_117 : decode c_162 117 = .ok (.getfield 79, 3) := by decide +kernel
theorem d_162_120 : decode c_162 120 = .ok (.iload 7, 2) := by decide +kernel
theorem d_162_122 : decode c_162 122 = .ok (.iaload, 1) := by decide +kernel
theorem d_162_123 : decode c_162 123 = .ok (.invokevirtual 329, 3) := by decide +kernel
theorem d_162_126 : decode c_162 126 = .ok (.aload_n 0, 1) := by decide +kernel
theorem d_162_127 : decode c_162 127 = .ok (.iconst 1, 1) := by decide +kernel
theorem d_162_128 : decode c_162 128 = .ok (.iconst (-1), 1) := by decide +kernel
theorem d_162_129 : decode c_162 129 = .ok (.aload_n 0, 1) := by decide +kernel
theorem d_162_130 : decode c_162 130 = .ok (.getfield 79, 3) := by decide +kernel
theorem d_162_133 : decode c_162 133 = .ok (.iload 6, 2) := by decide +kernel
theorem d_162_135 : decode c_162 135 = .ok (.iaload, 1) := by decide +kernel
theorem d_162_136 : decode c_162 136 = .ok (.invokevirtual 329, 3) := by decide +kernel
theorem d_162_139 : decode c_162 139 = .ok (.iload_n 2, 1) := by decide +kernel
theorem d_162_140 : decode c_162 140 = .ok (.invokevirtual 369, 3) := by decide +kernel
theorem d_162_143 : decode c_162 143 = .ok (.ifCond .eq 7, 3) := by decide +kernel
theorem d_162_146 : decode c_162 146 = .ok (.iconst 1, 1) := by decide +kernel
theorem d_162_147 : decode c_162 147 = .ok (.goto 4, 3) := by decide +kernel
theorem d_162_150 : decode c_162 150 = .ok (.iconst 0, 1) := by decide +kernel
theorem d_162_151 : decode c_162 151 = .ok (.istore 5, 2) := by decide +kernel
theorem d_162_153 : decode c_162 153 = .ok (.iinc 6 1, 3) := by decide +kernel
theorem d_162_156 : decode c_162 156 = .ok (.goto (-129), 3) := by decide +kernel
theorem d_162_159 : decode c_162 159 = .ok (.iload 5, 2) := by decide +kernel
theorem d_162_161 : decode c_162 161 = .ok (.ireturn, 1) := by decide +kernel
theorem d_163_0 : decode c_163 0 = .ok (.aload_n 0, 1) := by decide +kernel
theorem d_163_1 : decode c_163 1 = .ok (.bipush 7, 2) := by decide +kernel
theorem d_163_3 : decode c_163 3 = .ok (.aload_n 0, 1) := by decide +kernel
theorem d_163_4 : decode c_163 4 = .ok (.getfield 73, 3) := by decide +kernel
theorem d_163_7 : decode c_163 7 = .ok (.iload_n 1, 1) := by decide +kernel
theorem d_163_8 : decode c_163 8 = .ok (.iaload, 1) := by decide +kernel
theorem d_163_9 : decode c_163 9 = .ok (.aload_n 0, 1) := by decide +kernel
theorem d_163_10 : decode c_163 10 = .ok (.getfield 85, 3) := by decide +kernel
theorem d_163_13 : decode c_163 13 = .ok (.iload_n 1, 1) := by decide +kernel
theorem d_163_14 : decode c_163 14 = .ok (.iaload, 1) := by decide +kernel
theorem d_163_15 : decode c_163 15 = .ok (.invokevirtual 329, 3) := by decide +kernel
theorem d_163_18 : decode c_163 18 = .ok (.istore_n 2, 1) := by decide +kernel
theorem d_163_19 : decode c_163 19 = .ok (.aload_n 0, 1) := by decide +kernel
theorem d_163_20 : decode c_163 20 = .ok (.iload_n 1, 1) := by decide +kernel
theorem d_163_21 : decode c_163 21 = .ok (.invokevirtual 366, 3) := by decide +kernel
theorem d_163_24 : decode c_163 24 = .ok (.istore_n 3, 1) := by decide +kernel
theorem d_163_25 : decode c_163 25 = .ok (.iconst 0, 1) := by decide +kernel
theorem d_163_26 : decode c_163 26 = .ok (.istore 4, 2) := by decide +kernel
theorem d_163_28 : decode c_163 28 = .ok (.iload 4, 2) := by decide +kernel
theorem d_163_30 : decode c_163 30 = .ok (.iload_n 1, 1) := by decide +kernel
theorem d_163_31 : decode c_163 31 = .ok (.if_icmp .ge 77, 3) := by decide +kernel
theorem d_163_34 : decode c_163 34 = .ok (.iload_n 3, 1) := by decide +kernel
theorem d_163_35 : decode c_163 35 = .ok (.ifCond .lt 73, 3) := by decide +kernel
theorem d_163_38 : decode c_163 38 = .ok (.aload_n 0, 1) := by decide +kernel
theorem d_163_39 : decode c_163 39 = .ok (.getfield 70, 3) := by decide +kernel
theorem d_163_42 : decode c_163 42 = .ok (.iload 4, 2) := by decide +kernel
theorem d_163_44 : decode c_163 44 = .ok (.iaload, 1) := by decide +kernel
theorem d_163_45 : decode c_163 45 = .ok (.bipush 12, 2) := by decide +kernel
theorem d_163_47 : decode c_163 47 = .ok (.if_icmp .ne 55, 3) := by decide +kernel
theorem d_163_50 : decode c_163 50 = .ok (.aload_n 0, 1) := by decide +kernel
theorem d_163_51 : decode c_163 51 = .ok (.getfield 73, 3) := by decide +kernel
theorem d_163_54 : decode c_163 54 = .ok (.iload 4, 2) := by decide +kernel
theorem d_163_56 : decode c_163 56 = .ok (.iaload, 1) := by decide +kernel
theorem d_163_57 : decode c_163 57 = .ok (.aload_n 0, 1) := by decide +kernel
theorem d_163_58 : decode c_163 58 = .ok (.getfield 73, 3) := by decide +kernel
theorem d_163_61 : decode c_163 61 = .ok (.iload_n 1, 1) := by decide +kernel
theorem d_163_62 : decode c_163 62 = .ok (.iaload, 1) := by decide +kernel
theorem d_163_63 : decode c_163 63 = .ok (.if_icmp .ne 39, 3) := by decide +kernel
theorem d_163_66 : decode c_163 66 = .ok (.aload_n 0, 1) := by decide +kernel
theorem d_163_67 : decode c_163 67 = .ok (.bipush 7, 2) := by decide +kernel
theorem d_163_69 : decode c_163 69 = .ok (.aload_n 0, 1) := by decide +kernel
theorem d_163_70 : decode c_163 70 = .ok (.getfield 73, 3) := by decide +kernel
theorem d_163_73 : decode c_163 73 = .ok (.iload 4, 2) := by decide +kernel
theorem d_163_75 : decode c_163 75 = .ok (.iaload, 1) := by decide +kernel
theorem d_163_76 : decode c_163 76 = .ok (.aload_n 0, 1) := by decide +kernel
theorem d_163_77 : decode c_163 77 = .ok (.getfield 85, 3) := by decide +kernel
theorem d_163_80 : decode c_163 80 = .ok (.iload 4, 2) := by decide +kernel
theorem d_163_82 : decode c_163 82 = .ok (.iaload, 1) := by decide +kernel
theorem d_163_83 : decode c_163 83 = .ok (.invokevirtual 329, 3) := by decide +kernel
theorem d_163_86 : decode c_163 86 = .ok (.iload_n 2, 1) := by decide +kernel
theorem d_163_87 : decode c_163 87 = .ok (.if_icmp .ne 15, 3) := by decide +kernel
theorem d_163_90 : decode c_163 90 = .ok (.aload_n 0, 1) := by decide +kernel
theorem d_163_91 : decode c_163 91 = .ok (.iload 4, 2) := by decide +kernel
theorem d_163_93 : decode c_163 93 = .ok (.invokevirtual 366, 3) := by decide +kernel
theorem d_163_96 : decode c_163 96 = .ok (.iload_n 3, 1) := by decide +kernel
theorem d_163_97 : decode c_163 97 = .ok (.if_icmp .ne 5, 3) := by decide +kernel
theorem d_163_100 : decode c_163 100 = .ok (.iconst 1, 1) := by decide +kernel
theorem d_163_101 : decode c_163 101 = .ok (.ireturn, 1) := by decide +kernel
theorem d_163_102 : decode c_163 102 = .ok (.iinc 4 1, 3) := by decide +kernel
theorem d_163_105 : decode c_163 105 = .ok (.goto (-77), 3) := by decide +kernel
theorem d_163_108 : decode c_163 108 = .ok (.iconst 0, 1) := by decide +kernel
theorem d_163_109 : decode c_163 109 = .ok (.ireturn, 1) := by decide +kernel
theorem d_164_0 : decode c_164 0 = .ok (.aload_n 0, 1) := by decide +kernel
theorem d_164_1 : decode c_164 1 = .ok (.iload_n 1, 1) := by decide +kernel
theorem d_164_2 : decode c_164 2 = .ok (.invokevirtual 349, 3) := by decide +kernel
theorem d_164_5 : decode c_164 5 = .ok (.istore_n 2, 1) := by decide +kernel
theorem d_164_6 : decode c_164 6 = .ok (.iconst 0, 1) := by decide +kernel
theorem d_164_7 : decode c_164 7 = .ok (.istore_n 3, 1) := by decide +kernel
theorem d_164_8 : decode c_164 8 = .ok (.iload_n 3, 1) := by decide +kernel
theorem d_164_9 : decode c_164 9 = .ok (.aload_n 0, 1) := by decide +kernel
theorem d_164_10 : decode c_164 10 = .ok (.getfield 313, 3) := by decide +kernel
theorem d_164_13 : decode c_164 13 = .ok (.if_icmp .ge 25, 3) := by decide +kernel
theorem d_164_16 : decode c_164 16 = .ok (.aload_n 0, 1) := by decide +kernel
theorem d_164_17 : decode c_164 17 = .ok (.getfield 134, 3) := by decide +kernel
theorem d_164_20 : decode c_164 20 = .ok (.iload_n 3, 1) := by decide +kernel
theorem d_164_21 : decode c_164 21 = .ok (.iload_n 3, 1) := by decide +kernel
theorem d_164_22 : decode c_164 22 = .ok (.iload_n 2, 1) := by decide +kernel
theorem d_164_23 : decode c_164 23 = .ok (.if_icmp .ne 7, 3) := by decide +kernel
theorem d_164_26 : decode c_164 26 = .ok (.iconst 1, 1) := by decide +kernel
theorem d_164_27 : decode c_164 27 = .ok (.goto 4, 3) := by decide +kernel
theorem d_164_30 : decode c_164 30 = .ok (.iconst 0, 1) := by decide +kernel
theorem d_164_31 : decode c_164 31 = .ok (.bastore, 1) := by decide +kernel
theorem d_164_32 : decode c_164 32 = .ok (.iinc 3 1, 3) := by decide +kernel
theorem d_164_35 : decode c_164 35 = .ok (.goto (-27), 3) := by decide +kernel
theorem d_164_38 : decode c_164 38 = .ok (.iload_n 2, 1) := by decide +kernel
theorem d_164_39 : decode c_164 39 = .ok (.ifCond .lt 7, 3) := by decide +kernel
theorem d_164_42 : decode c_164 42 = .ok (.iconst 1, 1) := by decide +kernel
theorem d_164_43 : decode c_164 43 = .ok (.goto 4, 3) := by decide +kernel
theorem d_164_46 : decode c_164 46 = .ok (.iconst 0, 1) := by decide +kernel
theorem d_164_47 : decode c_164 47 = .ok (.istore_n 3, 1) := by decide +kernel
theorem d_164_48 : decode c_164 48 = .ok (.iload_n 3, 1) := by decide +kernel
theorem d_164_49 : decode c_164 49 = .ok (.ifCond .eq 92, 3) := by decide +kernel
theorem d_164_52 : decode c_164 52 = .ok (.iconst 0, 1) := by decide +kernel
theorem d_164_53 : decode c_164 53 = .ok (.istore_n 3, 1) := by decide +kernel
theorem d_164_54 : decode c_164 54 = .ok (.iconst 0, 1) := by decide +kernel
theorem d_164_55 : decode c_164 55 = .ok (.istore 4, 2) := by decide +kernel
theorem d_164_57 : decode c_164 57 = .ok (.iload 4, 2) := by decide +kernel
theorem d_164_59 : decode c_164 59 = .ok (.aload_n 0, 1) := by decide +kernel
theorem d_164_60 : decode c_164 60 = .ok (.getfield 313, 3) := by decide +kernel
theorem d_164_63 : decode c_164 63 = .ok (.if_icmp .ge 75, 3) := by decide +kernel
theorem d_164_66 : decode c_164 66 = .ok (.aload_n 0, 1) := by decide +kernel
theorem d_164_67 : decode c_164 67 = .ok (.getfield 70, 3) := by decide +kernel
theorem d_164_70 : decode c_164 70 = .ok (.iload 4, 2) := by decide +kernel
theorem d_164_72 : decode c_164 72 = .ok (.iaload, 1) := by decide +kernel
theorem d_164_73 : decode c_164 73 = .ok (.bipush 11, 2) := by decide +kernel
theorem d_164_75 : decode c_164 75 = .ok (.if_icmp .ne 57, 3) := by decide +kernel
theorem d_164_78 : decode c_164 78 = .ok (.aload_n 0, 1) := by decide +kernel
theorem d_164_79 : decode c_164 79 = .ok (.getfield 134, 3) := by decide +kernel
theorem d_164_82 : decode c_164 82 = .ok (.aload_n 0, 1) := by decide +kernel
theorem d_164_83 : decode c_164 83 = .ok (.getfield 73, 3) := by decide +kernel
theorem d_164_86 : decode c_164 86 = .ok (.iload 4, 2) := by decide +kernel
theorem d_164_88 : decode c_164 88 = .ok (.iaload, 1) := by decide +kernel
theorem d_164_89 : decode c_164 89 = .ok (.baload, 1) := by decide +kernel
theorem d_164_90 : decode c_164 90 = .ok (.ifCond .ne 6, 3) := by decide +kernel
theorem d_164_93 : decode c_164 93 = .ok (.goto 39, 3) := by decide +kernel
theorem d_164_96 : decode c_164 96 = .ok (.aload_n 0, 1) := by decide +kernel
theorem d_164_97 : decode c_164 97 = .ok (.iload 4, 2) := by decide +kernel
theorem d_164_99 : decode c_164 99 = .ok (.invokevirtual 349, 3) := by decide +kernel
theorem d_164_102 : decode c_164 102 = .ok (.istore 5, 2) := by decide +kernel
theorem d_164_104 : decode c_164 104 = .ok (.iload 5, 2) := by decide +kernel
theorem d_164_106 : decode c_164 106 = .ok (.ifCond .lt 26, 3) := by decide +kernel
theorem d_164_109 : decode c_164 109 = .ok (.aload_n 0, 1) := by decide +kernel
theorem d_164_110 : decode c_164 110 = .ok (.getfield 134, 3) := by decide +kernel
theorem d_164_113 : decode c_164 113 = .ok (.iload 5, 2) := by decide +kernel
theorem d_164_115 : decode c_164 115 = .ok (.baload, 1) := by decide +kernel
theorem d_164_116 : decode c_164 116 = .ok (.ifCond .eq 6, 3) := by decide +kernel
theorem d_164_119 : decode c_164 119 = .ok (.goto 13, 3) := by decide +kernel
theorem d_164_122 : decode c_164 122 = .ok (.aload_n 0, 1) := by decide +kernel
theorem d_164_123 : decode c_164 123 = .ok (.getfield 134, 3) := by decide +kernel
theorem d_164_126 : decode c_164 126 = .ok (.iload 5, 2) := by decide +kernel
theorem d_164_128 : decode c_164 128 = .ok (.iconst 1, 1) := by decide +kernel
theorem d_164_129 : decode c_164 129 = .ok (.bastore, 1) := by decide +kernel
theorem d_164_130 : decode c_164 130 = .ok (.iconst 1, 1) := by decide +kernel
theorem d_164_131 : decode c_164 131 = .ok (.istore_n 3, 1) := by decide +kernel
theorem d_164_132 : decode c_164 132 = .ok (.iinc 4 1, 3) := by decide +kernel
theorem d_164_135 : decode c_164 135 = .ok (.goto (-78), 3) := by decide +kernel
theorem d_164_138 : decode c_164 138 = .ok (.goto (-90), 3) := by decide +kernel
theorem d_164_141 : decode c_164 141 = .ok (.iload_n 2, 1) := by decide +kernel
theorem d_164_142 : decode c_164 142 = .ok (.ifCond .lt 21, 3) := by decide +kernel
theorem d_164_145 : decode c_164 145 = .ok (.aload_n 0, 1) := by decide +kernel
theorem d_164_146 : decode c_164 146 = .ok (.getfield 134, 3) := by decide +kernel
theorem d_164_149 : decode c_164 149 = .ok (.aload_n 0, 1) := by decide +kernel
theorem d_164_150 : decode c_164 150 = .ok (.getfield 73, 3) := by decide +kernel
theorem d_164_153 : decode c_164 153 = .ok (.iload_n 1, 1) := by decide +kernel
theorem d_164_154 : decode c_164 154 = .ok (.iaload, 1) := by decide +kernel
theorem d_164_155 : decode c_164 155 = .ok (.baload, 1) := by decide +kernel
theorem d_164_156 : decode c_164 156 = .ok (.ifCond .eq 7, 3) := by decide +kernel
theorem d_164_159 : decode c_164 159 = .ok (.iconst 1, 1) := by decide +kernel
theorem d_164_160 : decode c_164 160 = .ok (.goto 4, 3) := by decide +kernel
theorem d_164_163 : decode c_164 163 = .ok (.iconst 0, 1) := by decide +kernel
theorem d_164_164 : decode c_164 164 = .ok (.ireturn, 1) := by decide +kernel
theorem d_165_0 : decode c_165 0 = .ok (.aload_n 0, 1) := by decide +kernel
theorem d_165_1 : decode c_165 1 = .ok (.getfield 70, 3) := by decide +kernel
theorem d_165_4 : decode c_165 4 = .ok (.iload_n 1, 1) := by decide +kernel
theorem d_165_5 : decode c_165 5 = .ok (.iaload, 1) := by decide +kernel
theorem d_165_6 : decode c_165 6 = .ok (.istore_n 3, 1) := by decide +kernel
theorem d_165_7 : decode c_165 7 = .ok (.iload_n 2, 1) := by decide +kernel
theorem d_165_8 : decode c_165 8 = .ok (.tableswitch 158 1 9 #[52, 58, 64, 90, 111, 117, 117, 117, 138], 52) := by decide +kernel
theorem d_165_60 : decode c_165 60 = .ok (.aload_n 0, 1) := by decide +kernel
theorem d_165_61 : decode c_165 61 = .ok (.iload_n 1, 1) := by decide +kernel
theorem d_165_62 : decode c_165 62 = .ok (.invokevirtual 372, 3) := by decide +kernel
theorem d_165_65 : decode c_165 65 = .ok (.ireturn, 1) := by decide +kernel
theorem d_165_66 : decode c_165 66 = .ok (.aload_n 0, 1) := by decide +kernel
theorem d_165_67 : decode c_165 67 = .ok (.iload_n 1, 1) := by decide +kernel
theorem d_165_68 : decode c_165 68 = .ok (.invokevirtual 375, 3) := by decide +kernel
theorem d_165_71 : decode c_165 71 = .ok (.ireturn, 1) := by decide +kernel
theorem d_165_72 : decode c_165 72 = .ok (.iload_n 3, 1) := by decide +kernel
theorem d_165_73 : decode c_165 73 = .ok (.iconst 2, 1) := by decide +kernel
theorem d_165_74 : decode c_165 74 = .ok (.if_icmp .ne 22, 3) := by decide +kernel
theorem d_165_77 : decode c_165 77 = .ok (.aload_n 0, 1) := by decide +kernel
theorem d_165_78 : decode c_165 78 = .ok (.getfield 91, 3) := by decide +kernel
theorem d_165_81 : decode c_165 81 = .ok (.iload_n 1, 1) := by decide +kernel
theorem d_165_82 : decode c_165 82 = .ok (.iaload, 1) := by decide +kernel
theorem d_165_83 : decode c_165 83 = .ok (.aload_n 0, 1) := by decide +kernel
theorem d_165_84 : decode c_165 84 = .ok (.getfield 94, 3) := by decide +kernel
theorem d_165_87 : decode c_165 87 = .ok (.iload_n 1, 1) := by decide +kernel
theorem d_165_88 : decode c_165 88 = .ok (.iaload, 1) := by decide +kernel
theorem d_165_89 : decode c_165 89 = .ok (.if_icmp .le 7, 3) := by decide +kernel
theorem d_165_92 : decode c_165 92 = .ok (.iconst 1, 1) := by decide +kernel
theorem d_165_93 : decode c_165 93 = .ok (.goto 4, 3) := by decide +kernel
theorem d_165_96 : decode c_165 96 = .ok (.iconst 0, 1) := by decide +kernel
theorem d_165_97 : decode c_165 97 = .ok (.ireturn, 1) := by decide +kernel
theorem d_165_98 : decode c_165 98 = .ok (.iload_n 3, 1) := by decide +kernel
theorem d_165_99 : decode c_165 99 = .ok (.bipush 10, 2) := by decide +kernel
theorem d_165_101 : decode c_165 101 = .ok (.if_icmp .ne 16, 3) := by decide +kernel
theorem d_165_104 : decode c_165 104 = .ok (.aload_n 0, 1) := by decide +kernel
theorem d_165_105 : decode c_165 105 = .ok (.getfield 97, 3) := by decide +kernel
theorem d_165_108 : decode c_165 108 = .ok (.iload_n 1, 1) := by decide +kernel
theorem d_165_109 : decode c_165 109 = .ok (.iaload, 1) := by decide +kernel
theorem d_165_110 : decode c_165 110 = .ok (.ifCond .ne 7, 3) := by decide +kernel
theorem d_165_113 : decode c_165 113 = .ok (.iconst 1, 1) := by decide +kernel
theorem d_165_114 : decode c_165 114 = .ok (.goto 4, 3) := by decide +kernel
theorem d_165_117 : decode c_165 117 = .ok (.iconst 0, 1) := by decide +kernel
theorem d_165_118 : decode c_165 118 = .ok (.ireturn, 1) := by decide +kernel
theorem d_165_119 : decode c_165 119 = .ok (.aload_n 0, 1) := by decide +kernel
theorem d_165_120 : decode c_165 120 = .ok (.iload_n 1, 1) := by decide +kernel
theorem d_165_121 : decode c_165 121 = .ok (.invokevirtual 378, 3) := by decide +kernel
theorem d_165_124 : decode c_165 124 = .ok (.ireturn, 1) := by decide +kernel
theorem d_165_125 : decode c_165 125 = .ok (.iload_n 3, 1) := by decide +kernel
theorem d_165_126 : decode c_165 126 = .ok (.bipush 12, 2) := by decide +kernel
theorem d_165_128 : decode c_165 128 = .ok (.if_icmp .ne 16, 3) := by decide +kernel
theorem d_165_131 : decode c_165 131 = .ok (.aload_n 0, 1) := by decide +kernel
theorem d_165_132 : decode c_165 132 = .ok (.iload_n 1, 1) := by decide +kernel
theorem d_165_133 : decode c_165 133 = .ok (.iload_n 2, 1) := by decide +kernel
theorem d_165_134 : decode c_165 134 = .ok (.invokevirtual 381, 3) := by decide +kernel
theorem d_165_137 : decode c_165 137 = .ok (.ifCond .eq 7, 3) := by decide +kernel
theorem d_165_140 : decode c_165 140 = .ok (.iconst 1, 1) := by decide +kernel
theorem d_165_141 : decode c_165 141 = .ok (.goto 4, 3) := by decide +kernel
theorem d_165_144 : decode c_165 144 = .ok (.iconst 0, 1) := by decide +kernel
theorem d_165_145 : decode c_165 145 = .ok (.ireturn, 1) := by decide +kernel
theorem d_165_146 : decode c_165 146 = .ok (.iload_n 3, 1) := by decide +kernel
theorem d_165_147 : decode c_165 147 = .ok (.bipush 12, 2) := by decide +kernel
theorem d_165_149 : decode c_165 149 = .ok (.if_icmp .ne 15, 3) := by decide +kernel
theorem d_165_152 : decode c_165 152 = .ok (.aload_n 0, 1) := by decide +kernel
theorem d_165_153 : decode c_165 153 = .ok (.iload_n 1, 1) := by decide +kernel
theorem d_165_154 : decode c_165 154 = .ok (.invokevirtual 384, 3) := by decide +kernel
theorem d_165_157 : decode c_165 157 = .ok (.ifCond .eq 7, 3) := by decide +kernel
theorem d_165_160 : decode c_165 160 = .ok (.iconst 1, 1) := by decide +kernel
theorem d_165_161 : decode c_165 161 = .ok (.goto 4, 3) := by decide +kernel
theorem d_165_164 : decode c_165 164 = .ok (.iconst 0, 1) := by decide +kernel
theorem d_165_165 : decode c_165 165 = .ok (.ireturn, 1) := by decide +kernel
theorem d_165_166 : decode c_165 166 = .ok (.iload_n 3, 1) := by decide +kernel
theorem d_165_167 : decode c_165 167 = .ok (.bipush 11, 2) := by decide +kernel
theorem d_165_169 : decode c_165 169 = .ok (.if_icmp .ne 15, 3) := by decide +kernel
theorem d_165_172 : decode c_165 172 = .ok (.aload_n 0, 1) := by decide +kernel
theorem d_165_173 : decode c_165 173 = .ok (.iload_n 1, 1) := by decide +kernel
theorem d_165_174 : decode c_165 174 = .ok (.invokevirtual 387, 3) := by decide +kernel
theorem d_165_177 : decode c_165 177 = .ok (.ifCond .eq 7, 3) := by decide +kernel
theorem d_165_180 : decode c_165 180 = .ok (.iconst 1, 1) := by decide +kernel
theorem d_165_181 : decode c_165 181 = .ok (.goto 4, 3) := by decide +kernel
theorem d_165_184 : decode c_165 184 = .ok (.iconst 0, 1) := by decide +kernel
theorem d_165_185 : decode c_165 185 = .ok (.ireturn, 1) := by decide +kernel
theorem d_166_0 : decode c_166 0 = .ok (.aload_n 0, 1) := by decide +kernel
theorem d_166_1 : decode c_166 1 = .ok (.getfield 310, 3) := by decide +kernel
theorem d_166_4 : decode c_166 4 = .ok (.ifCond .ne 6, 3) := by decide +kernel
theorem d_166_7 : decode c_166 7 = .ok (.bipush (-3), 2) := by decide +kernel
theorem d_166_9 : decode c_166 9 = .ok (.ireturn, 1) := by decide +kernel
theorem d_166_10 : decode c_166 10 = .ok (.iconst 0, 1) := by decide +kernel
theorem d_166_11 : decode c_166 11 = .ok (.istore_n 1, 1) := by decide +kernel
theorem d_166_12 : decode c_166 12 = .ok (.iload_n 1, 1) := by decide +kernel
theorem d_166_13 : decode c_166 13 = .ok (.aload_n 0, 1) := by decide +kernel
theorem d_166_14 : decode c_166 14 = .ok (.getfield 313, 3) := by decide +kernel
theorem d_166_17 : decode c_166 17 = .ok (.if_icmp .ge 41, 3) := by decide +kernel
theorem d_166_20 : decode c_166 20 = .ok (.iconst 1, 1) := by decide +kernel
theorem d_166_21 : decode c_166 21 = .ok (.istore_n 2, 1) := by decide +kernel
theorem d_166_22 : decode c_166 22 = .ok (.iload_n 2, 1) := by decide +kernel
theorem d_166_23 : decode c_166 23 = .ok (.bipush 11, 2) := by decide +kernel
theorem d_166_25 : decode c_166 25 = .ok (.if_icmp .ge 27, 3) := by decide +kernel
theorem d_166_28 : decode c_166 28 = .ok (.aload_n 0, 1) := by decide +kernel
theorem d_166_29 : decode c_166 29 = .ok (.iload_n 1, 1) := by decide +kernel
theorem d_166_30 : decode c_166 30 = .ok (.iload_n 2, 1) := by decide +kernel
theorem d_166_31 : decode c_166 31 = .ok (.invokevirtual 390, 3) := by decide +kernel
theorem d_166_34 : decode c_166 34 = .ok (.ifCond .eq 12, 3) := by decide +kernel
theorem d_166_37 : decode c_166 37 = .ok (.bipush 100, 2) := by decide +kernel
theorem d_166_39 : decode c_166 39 = .ok (.iload_n 1, 1) := by decide +kernel
theorem d_166_40 : decode c_166 40 = .ok (.iconst 1, 1) := by decide +kernel
theorem d_166_41 : decode c_166 41 = .ok (.iadd, 1) := by decide +kernel
theorem d_166_42 : decode c_166 42 = .ok (.imul, 1) := by decide +kernel
theorem d_166_43 : decode c_166 43 = .ok (.iload_n 2, 1) := by decide +kernel
theorem d_166_44 : decode c_166 44 = .ok (.iadd, 1) := by decide +kernel
theorem d_166_45 : decode c_166 45 = .ok (.ireturn, 1) := by decide +kernel
theorem d_166_46 : decode c_166 46 = .ok (.iinc 2 1, 3) := by decide +kernel
theorem d_166_49 : decode c_166 49 = .ok (.goto (-27), 3) := by decide +kernel
theorem d_166_52 : decode c_166 52 = .ok (.iinc 1 1, 3) := by decide +kernel
theorem d_166_55 : decode c_166 55 = .ok (.goto (-43), 3) := by decide +kernel
theorem d_166_58 : decode c_166 58 = .ok (.iconst 0, 1) := by decide +kernel
theorem d_166_59 : decode c_166 59 = .ok (.ireturn, 1) := by decide +kernel
theorem d_167_0 : decode c_167 0 = .ok (.iload_n 0, 1) := by decide +kernel
theorem d_167_1 : decode c_167 1 = .ok (.istore_n 2, 1) := by decide +kernel
theorem d_167_2 : decode c_167 2 = .ok (.iload_n 1, 1) := by decide +kernel
theorem d_167_3 : decode c_167 3 = .ok (.istore_n 3, 1) := by decide +kernel
theorem d_167_4 : decode c_167 4 = .ok (.iconst 0, 1) := by decide +kernel
theorem d_167_5 : decode c_167 5 = .ok (.istore 4, 2) := by decide +kernel
theorem d_167_7 : decode c_167 7 = .ok (.iload 4, 2) := by decide +kernel
theorem d_167_9 : decode c_167 9 = .ok (.bipush 64, 2) := by decide +kernel
theorem d_167_11 : decode c_167 11 = .ok (.if_icmp .ge 23, 3) := by decide +kernel
theorem d_167_14 : decode c_167 14 = .ok (.iload_n 3, 1) := by decide +kernel
theorem d_167_15 : decode c_167 15 = .ok (.ifCond .le 19, 3) := by decide +kernel
theorem d_167_18 : decode c_167 18 = .ok (.iload_n 2, 1) := by decide +kernel
theorem d_167_19 : decode c_167 19 = .ok (.iload_n 3, 1) := by decide +kernel
theorem d_167_20 : decode c_167 20 = .ok (.irem, 1) := by decide +kernel
theorem d_167_21 : decode c_167 21 = .ok (.istore 5, 2) := by decide +kernel
theorem d_167_23 : decode c_167 23 = .ok (.iload_n 3, 1) := by decide +kernel
theorem d_167_24 : decode c_167 24 = .ok (.istore_n 2, 1) := by decide +kernel
theorem d_167_25 : decode c_167 25 = .ok (.iload 5, 2) := by decide +kernel
theorem d_167_27 : decode c_167 27 = .ok (.istore_n 3, 1) := by decide +kernel
theorem d_167_28 : decode c_167 28 = .ok (.iinc 4 1, 3) := by decide +kernel
theorem d_167_31 : decode c_167 31 = .ok (.goto (-24), 3) := by decide +kernel
theorem d_167_34 : decode c_167 34 = .ok (.iload_n 2, 1) := by decide +kernel
theorem d_167_35 : decode c_167 35 = .ok (.ireturn, 1) := by decide +kernel
theorem d_168_0 : decode c_168 0 = .ok (.aload_n 0, 1) := by decide +kernel
theorem d_168_1 : decode c_168 1 = .ok (.invokevirtual 89, 3) := by decide +kernel
theorem d_168_4 : decode c_168 4 = .ok (.astore 4, 2) := by decide +kernel
theorem d_168_6 : decode c_168 6 = .ok (.aload 4, 2) := by decide +kernel
theorem d_168_8 : decode c_168 8 = .ok (.ifnonnull 5, 3) := by decide +kernel
theorem d_168_11 : decode c_168 11 = .ok (.iconst (-1), 1) := by decide +kernel
theorem d_168_12 : decode c_168 12 = .ok (.ireturn, 1) := by decide +kernel
theorem d_168_13 : decode c_168 13 = .ok (.aload 4, 2) := by decide +kernel
theorem d_168_15 : decode c_168 15 = .ok (.iconst 1, 1) := by decide +kernel
theorem d_168_16 : decode c_168 16 = .ok (.iconst 0, 1) := by decide +kernel
theorem d_168_17 : decode c_168 17 = .ok (.iload_n 1, 1) := by decide +kernel
theorem d_168_18 : decode c_168 18 = .ok (.invokevirtual 125, 3) := by decide +kernel
theorem d_168_21 : decode c_168 21 = .ok (.istore 5, 2) := by decide +kernel
theorem d_168_23 : decode c_168 23 = .ok (.aload 4, 2) := by decide +kernel
theorem d_168_25 : decode c_168 25 = .ok (.iconst 1, 1) := by decide +kernel
theorem d_168_26 : decode c_168 26 = .ok (.iconst 0, 1) := by decide +kernel
theorem d_168_27 : decode c_168 27 = .ok (.iload_n 2, 1) := by decide +kernel
theorem d_168_28 : decode c_168 28 = .ok (.invokevirtual 125, 3) := by decide +kernel
theorem d_168_31 : decode c_168 31 = .ok (.istore 6, 2) := by decide +kernel
theorem d_168_33 : decode c_168 33 = .ok (.iload 5, 2) := by decide +kernel
theorem d_168_35 : decode c_168 35 = .ok (.ifCond .eq 8, 3) := by decide +kernel
theorem d_168_38 : decode c_168 38 = .ok (.iload 6, 2) := by decide +kernel
theorem d_168_40 : decode c_168 40 = .ok (.ifCond .ne 5, 3) := by decide +kernel
theorem d_168_43 : decode c_168 43 = .ok (.iconst (-1), 1) := by decide +kernel
theorem d_168_44 : decode c_168 44 = .ok (.ireturn, 1) := by decide +kernel
theorem d_168_45 : decode c_168 45 = .ok (.aload 4, 2) := by decide +kernel
theorem d_168_47 : decode c_168 47 = .ok (.iload 5, 2) := by decide +kernel
theorem d_168_49 : decode c_168 49 = .ok (.bipush 6, 2) := by decide +kernel
theorem d_168_51 : decode c_168 51 = .ok (.invokevirtual 97, 3) := by decide +kernel
theorem d_168_54 : decode c_168 54 = .ok (.aload 4, 2) := by decide +kernel
theorem d_168_56 : decode c_168 56 = .ok (.iload 6, 2) := by decide +kernel
theorem d_168_58 : decode c_168 58 = .ok (.bipush 6, 2) := by decide +kernel
theorem d_168_60 : decode c_168 60 = .ok (.invokevirtual 97, 3) := by decide +kernel
theorem d_168_63 : decode c_168 63 = .ok (.if_icmp .eq 6, 3) := by decide +kernel
theorem d_168_66 : decode c_168 66 = .ok (.bipush (-3), 2) := by decide +kernel
theorem d_168_68 : decode c_168 68 = .ok (.ireturn, 1) := by decide +kernel
theorem d_168_69 : decode c_168 69 = .ok (.aload 4, 2) := by decide +kernel
theorem d_168_71 : decode c_168 71 = .ok (.iload 5, 2) := by decide +kernel
theorem d_168_73 : decode c_168 73 = .ok (.iconst 3, 1) := by decide +kernel
theorem d_168_74 : decode c_168 74 = .ok (.invokevirtual 97, 3) := by decide +kernel
theorem d_168_77 : decode c_168 77 = .ok (.aload 4, 2) := by decide +kernel
theorem d_168_79 : decode c_168 79 = .ok (.iload 6, 2) := by decide +kernel
theorem d_168_81 : decode c_168 81 = .ok (.iconst 5, 1) := by decide +kernel
theorem d_168_82 : decode c_168 82 = .ok (.invokevirtual 97, 3) := by decide +kernel
theorem d_168_85 : decode c_168 85 = .ok (.imul, 1) := by decide +kernel
theorem d_168_86 : decode c_168 86 = .ok (.istore 7, 2) := by decide +kernel
theorem d_168_88 : decode c_168 88 = .ok (.aload 4, 2) := by decide +kernel
theorem d_168_90 : decode c_168 90 = .ok (.iload 5, 2) := by decide +kernel
theorem d_168_92 : decode c_168 92 = .ok (.iconst 5, 1) := by decide +kernel
theorem d_168_93 : decode c_168 93 = .ok (.invokevirtual 97, 3) := by decide +kernel
theorem d_168_96 : decode c_168 96 = .ok (.aload 4, 2) := by decide +kernel
theorem d_168_98 : decode c_168 98 = .ok (.iload 6, 2) := by decide +kernel
theorem d_168_100 : decode c_168 100 = .ok (.iconst 3, 1) := by decide +kernel
theorem d_168_101 : decode c_168 101 = .ok (.invokevirtual 97, 3) := by decide +kernel
theorem d_168_104 : decode c_168 104 = .ok (.imul, 1) := by decide +kernel
theorem d_168_105 : decode c_168 105 = .ok (.istore 8, 2) := by decide +kernel
theorem d_168_107 : decode c_168 107 = .ok (.iload 7, 2) := by decide +kernel
theorem d_168_109 : decode c_168 109 = .ok (.iload 8, 2) := by decide +kernel
theorem d_168_111 : decode c_168 111 = .ok (.invokestatic 142, 3) := by decide +kernel
theorem d_168_114 : decode c_168 114 = .ok (.istore 9, 2) := by decide +kernel
theorem d_168_116 : decode c_168 116 = .ok (.iload 9, 2) := by decide +kernel
theorem d_168_118 : decode c_168 118 = .ok (.ifCond .ne 8, 3) := by decide +kernel
theorem d_168_121 : decode c_168 121 = .ok (.bipush (-3), 2) := by decide +kernel
theorem d_168_123 : decode c_168 123 = .ok (.goto 17, 3) := by decide +kernel
theorem d_168_126 : decode c_168 126 = .ok (.iload_n 3, 1) := by decide +kernel
theorem d_168_127 : decode c_168 127 = .ok (.ifCond .ne 8, 3) := by decide +kernel
theorem d_168_130 : decode c_168 130 = .ok (.iload 7, 2) := by decide +kernel
theorem d_168_132 : decode c_168 132 = .ok (.goto 5, 3) := by decide +kernel
theorem d_168_135 : decode c_168 135 = .ok (.iload 8, 2) := by decide +kernel
theorem d_168_137 : decode c_168 137 = .ok (.iload 9, 2) := by decide +kernel
theorem d_168_139 : decode c_168 139 = .ok (.idiv, 1) := by decide +kernel
theorem d_168_140 : decode c_168 140 = .ok (.ireturn, 1) := by decide +kernel
theorem d_169_0 : decode c_169 0 = .ok (.lload_n 0, 1) := by decide +kernel
theorem d_169_1 : decode c_169 1 = .ok (.lstore 4, 2) := by decide +kernel
theorem d_169_3 : decode c_169 3 = .ok (.lload_n 2, 1) := by decide +kernel
theorem d_169_4 : decode c_169 4 = .ok (.lstore 6, 2) := by decide +kernel
theorem d_169_6 : decode c_169 6 = .ok (.lload 6, 2) := by decide +kernel
theorem d_169_8 : decode c_169 8 = .ok (.lconst 0, 1) := by decide +kernel
theorem d_169_9 : decode c_169 9 = .ok (.lcmp, 1) := by decide +kernel
theorem d_169_10 : decode c_169 10 = .ok (.ifCond .le 21, 3) := by decide +kernel
theorem d_169_13 : decode c_169 13 = .ok (.lload 4, 2) := by decide +kernel
theorem d_169_15 : decode c_169 15 = .ok (.lload 6, 2) := by decide +kernel
theorem d_169_17 : decode c_169 17 = .ok (.lrem, 1) := by decide +kernel
theorem d_169_18 : decode c_169 18 = .ok (.lstore 8, 2) := by decide +kernel
theorem d_169_20 : decode c_169 20 = .ok (.lload 6, 2) := by decide +kernel
theorem d_169_22 : decode c_169 22 = .ok (.lstore 4, 2) := by decide +kernel
theorem d_169_24 : decode c_169 24 = .ok (.lload 8, 2) := by decide +kernel
theorem d_169_26 : decode c_169 26 = .ok (.lstore 6, 2) := by decide +kernel
theorem d_169_28 : decode c_169 28 = .ok (.goto (-22), 3) := by decide +kernel
theorem d_169_31 : decode c_169 31 = .ok (.lload 4, 2) := by decide +kernel
theorem d_169_33 : decode c_169 33 = .ok (.lreturn, 1) := by decide +kernel
