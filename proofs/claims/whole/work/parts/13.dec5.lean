theorem d_170_0 : decode c_170 0 = .ok (.aload_n 0, 1) := by decide +kernel
theorem d_170_1 : decode c_170 1 = .ok (.iconst 0, 1) := by decide +kernel
theorem d_170_2 : decode c_170 2 = .ok (.iconst (-1), 1) := by decide +kernel
theorem d_170_3 : decode c_170 3 = .ok (.iload_n 1, 1) := by decide +kernel
theorem d_170_4 : decode c_170 4 = .ok (.invokevirtual 333, 3) := by decide +kernel
theorem d_170_7 : decode c_170 7 = .ok (.istore 4, 2) := by decide +kernel
theorem d_170_9 : decode c_170 9 = .ok (.aload_n 0, 1) := by decide +kernel
theorem d_170_10 : decode c_170 10 = .ok (.iconst 0, 1) := by decide +kernel
theorem d_170_11 : decode c_170 11 = .ok (.iconst (-1), 1) := by decide +kernel
theorem d_170_12 : decode c_170 12 = .ok (.iload_n 2, 1) := by decide +kernel
theorem d_170_13 : decode c_170 13 = .ok (.invokevirtual 333, 3) := by decide +kernel
theorem d_170_16 : decode c_170 16 = .ok (.istore 5, 2) := by decide +kernel
theorem d_170_18 : decode c_170 18 = .ok (.iload 4, 2) := by decide +kernel
theorem d_170_20 : decode c_170 20 = .ok (.ifCond .lt 8, 3) := by decide +kernel
theorem d_170_23 : decode c_170 23 = .ok (.iload 5, 2) := by decide +kernel
theorem d_170_25 : decode c_170 25 = .ok (.ifCond .ge 5, 3) := by decide +kernel
theorem d_170_28 : decode c_170 28 = .ok (.iconst (-1), 1) := by decide +kernel
theorem d_170_29 : decode c_170 29 = .ok (.ireturn, 1) := by decide +kernel
theorem d_170_30 : decode c_170 30 = .ok (.aload_n 0, 1) := by decide +kernel
theorem d_170_31 : decode c_170 31 = .ok (.getfield 79, 3) := by decide +kernel
theorem d_170_34 : decode c_170 34 = .ok (.iload 4, 2) := by decide +kernel
theorem d_170_36 : decode c_170 36 = .ok (.iaload, 1) := by decide +kernel
theorem d_170_37 : decode c_170 37 = .ok (.aload_n 0, 1) := by decide +kernel
theorem d_170_38 : decode c_170 38 = .ok (.getfield 79, 3) := by decide +kernel
theorem d_170_41 : decode c_170 41 = .ok (.iload 5, 2) := by decide +kernel
theorem d_170_43 : decode c_170 43 = .ok (.iaload, 1) := by decide +kernel
theorem d_170_44 : decode c_170 44 = .ok (.if_icmp .eq 6, 3) := by decide +kernel
theorem d_170_47 : decode c_170 47 = .ok (.bipush (-3), 2) := by decide +kernel
theorem d_170_49 : decode c_170 49 = .ok (.ireturn, 1) := by decide +kernel
theorem d_170_50 : decode c_170 50 = .ok (.aload_n 0, 1) := by decide +kernel
theorem d_170_51 : decode c_170 51 = .ok (.getfield 91, 3) := by decide +kernel
theorem d_170_54 : decode c_170 54 = .ok (.iload 4, 2) := by decide +kernel
theorem d_170_56 : decode c_170 56 = .ok (.iaload, 1) := by decide +kernel
theorem d_170_57 : decode c_170 57 = .ok (.i2l, 1) := by decide +kernel
theorem d_170_58 : decode c_170 58 = .ok (.aload_n 0, 1) := by decide +kernel
theorem d_170_59 : decode c_170 59 = .ok (.getfield 94, 3) := by decide +kernel
theorem d_170_62 : decode c_170 62 = .ok (.iload 5, 2) := by decide +kernel
theorem d_170_64 : decode c_170 64 = .ok (.iaload, 1) := by decide +kernel
theorem d_170_65 : decode c_170 65 = .ok (.i2l, 1) := by decide +kernel
theorem d_170_66 : decode c_170 66 = .ok (.lmul, 1) := by decide +kernel
theorem d_170_67 : decode c_170 67 = .ok (.lstore 6, 2) := by decide +kernel
theorem d_170_69 : decode c_170 69 = .ok (.aload_n 0, 1) := by decide +kernel
theorem d_170_70 : decode c_170 70 = .ok (.getfield 94, 3) := by decide +kernel
theorem d_170_73 : decode c_170 73 = .ok (.iload 4, 2) := by decide +kernel
theorem d_170_75 : decode c_170 75 = .ok (.iaload, 1) := by decide +kernel
theorem d_170_76 : decode c_170 76 = .ok (.i2l, 1) := by decide +kernel
theorem d_170_77 : decode c_170 77 = .ok (.aload_n 0, 1) := by decide +kernel
theorem d_170_78 : decode c_170 78 = .ok (.getfield 91, 3) := by decide +kernel
theorem d_170_81 : decode c_170 81 = .ok (.iload 5, 2) := by decide +kernel
theorem d_170_83 : decode c_170 83 = .ok (.iaload, 1) := by decide +kernel
theorem d_170_84 : decode c_170 84 = .ok (.i2l, 1) := by decide +kernel
theorem d_170_85 : decode c_170 85 = .ok (.lmul, 1) := by decide +kernel
theorem d_170_86 : decode c_170 86 = .ok (.lstore 8, 2) := by decide +kernel
theorem d_170_88 : decode c_170 88 = .ok (.lload 6, 2) := by decide +kernel
theorem d_170_90 : decode c_170 90 = .ok (.lload 8, 2) := by decide +kernel
theorem d_170_92 : decode c_170 92 = .ok (.invokestatic 352, 3) := by decide +kernel
theorem d_170_95 : decode c_170 95 = .ok (.lstore 10, 2) := by decide +kernel
theorem d_170_97 : decode c_170 97 = .ok (.iload_n 3, 1) := by decide +kernel
theorem d_170_98 : decode c_170 98 = .ok (.ifCond .ne 11, 3) := by decide +kernel
theorem d_170_101 : decode c_170 101 = .ok (.lload 6, 2) := by decide +kernel
theorem d_170_103 : decode c_170 103 = .ok (.lload 10, 2) := by decide +kernel
theorem d_170_105 : decode c_170 105 = .ok (.ldiv, 1) := by decide +kernel
theorem d_170_106 : decode c_170 106 = .ok (.goto 8, 3) := by decide +kernel
theorem d_170_109 : decode c_170 109 = .ok (.lload 8, 2) := by decide +kernel
theorem d_170_111 : decode c_170 111 = .ok (.lload 10, 2) := by decide +kernel
theorem d_170_113 : decode c_170 113 = .ok (.ldiv, 1) := by decide +kernel
theorem d_170_114 : decode c_170 114 = .ok (.l2i, 1) := by decide +kernel
theorem d_170_115 : decode c_170 115 = .ok (.ireturn, 1) := by decide +kernel
theorem d_171_0 : decode c_171 0 = .ok (.iconst 0, 1) := by decide +kernel
theorem d_171_1 : decode c_171 1 = .ok (.istore_n 2, 1) := by decide +kernel
theorem d_171_2 : decode c_171 2 = .ok (.iload_n 2, 1) := by decide +kernel
theorem d_171_3 : decode c_171 3 = .ok (.aload_n 0, 1) := by decide +kernel
theorem d_171_4 : decode c_171 4 = .ok (.getfield 9, 3) := by decide +kernel
theorem d_171_7 : decode c_171 7 = .ok (.arraylength, 1) := by decide +kernel
theorem d_171_8 : decode c_171 8 = .ok (.if_icmp .ge 23, 3) := by decide +kernel
theorem d_171_11 : decode c_171 11 = .ok (.iconst 1, 1) := by decide +kernel
theorem d_171_12 : decode c_171 12 = .ok (.iload_n 2, 1) := by decide +kernel
theorem d_171_13 : decode c_171 13 = .ok (.ishl, 1) := by decide +kernel
theorem d_171_14 : decode c_171 14 = .ok (.iload_n 1, 1) := by decide +kernel
theorem d_171_15 : decode c_171 15 = .ok (.if_icmp .ne 10, 3) := by decide +kernel
theorem d_171_18 : decode c_171 18 = .ok (.aload_n 0, 1) := by decide +kernel
theorem d_171_19 : decode c_171 19 = .ok (.getfield 9, 3) := by decide +kernel
theorem d_171_22 : decode c_171 22 = .ok (.iload_n 2, 1) := by decide +kernel
theorem d_171_23 : decode c_171 23 = .ok (.laload, 1) := by decide +kernel
theorem d_171_24 : decode c_171 24 = .ok (.lreturn, 1) := by decide +kernel
theorem d_171_25 : decode c_171 25 = .ok (.iinc 2 1, 3) := by decide +kernel
theorem d_171_28 : decode c_171 28 = .ok (.goto (-26), 3) := by decide +kernel
theorem d_171_31 : decode c_171 31 = .ok (.lconst 0, 1) := by decide +kernel
theorem d_171_32 : decode c_171 32 = .ok (.lreturn, 1) := by decide +kernel
theorem d_172_0 : decode c_172 0 = .ok (.iload_n 0, 1) := by decide +kernel
theorem d_172_1 : decode c_172 1 = .ok (.bipush 10, 2) := by decide +kernel
theorem d_172_3 : decode c_172 3 = .ok (.if_icmp .gt 12, 3) := by decide +kernel
theorem d_172_6 : decode c_172 6 = .ok (.iload_n 0, 1) := by decide +kernel
theorem d_172_7 : decode c_172 7 = .ok (.iconst 1, 1) := by decide +kernel
theorem d_172_8 : decode c_172 8 = .ok (.isub, 1) := by decide +kernel
theorem d_172_9 : decode c_172 9 = .ok (.bipush 48, 2) := by decide +kernel
theorem d_172_11 : decode c_172 11 = .ok (.iadd, 1) := by decide +kernel
theorem d_172_12 : decode c_172 12 = .ok (.goto 10, 3) := by decide +kernel
theorem d_172_15 : decode c_172 15 = .ok (.iload_n 0, 1) := by decide +kernel
theorem d_172_16 : decode c_172 16 = .ok (.bipush 11, 2) := by decide +kernel
theorem d_172_18 : decode c_172 18 = .ok (.isub, 1) := by decide +kernel
theorem d_172_19 : decode c_172 19 = .ok (.bipush 97, 2) := by decide +kernel
theorem d_172_21 : decode c_172 21 = .ok (.iadd, 1) := by decide +kernel
theorem d_172_22 : decode c_172 22 = .ok (.ireturn, 1) := by decide +kernel
theorem d_173_0 : decode c_173 0 = .ok (.lload_n 1, 1) := by decide +kernel
theorem d_173_1 : decode c_173 1 = .ok (.lstore_n 3, 1) := by decide +kernel
theorem d_173_2 : decode c_173 2 = .ok (.iconst 0, 1) := by decide +kernel
theorem d_173_3 : decode c_173 3 = .ok (.istore 5, 2) := by decide +kernel
theorem d_173_5 : decode c_173 5 = .ok (.iload 5, 2) := by decide +kernel
theorem d_173_7 : decode c_173 7 = .ok (.bipush 12, 2) := by decide +kernel
theorem d_173_9 : decode c_173 9 = .ok (.if_icmp .ge 37, 3) := by decide +kernel
theorem d_173_12 : decode c_173 12 = .ok (.lload_n 3, 1) := by decide +kernel
theorem d_173_13 : decode c_173 13 = .ok (.lconst 0, 1) := by decide +kernel
theorem d_173_14 : decode c_173 14 = .ok (.lcmp, 1) := by decide +kernel
theorem d_173_15 : decode c_173 15 = .ok (.ifCond .le 31, 3) := by decide +kernel
theorem d_173_18 : decode c_173 18 = .ok (.aload_n 0, 1) := by decide +kernel
theorem d_173_19 : decode c_173 19 = .ok (.getfield 9, 3) := by decide +kernel
theorem d_173_22 : decode c_173 22 = .ok (.lload_n 3, 1) := by decide +kernel
theorem d_173_23 : decode c_173 23 = .ok (.ldc2_w 67, 3) := by decide +kernel
theorem d_173_26 : decode c_173 26 = .ok (.lrem, 1) := by decide +kernel
theorem d_173_27 : decode c_173 27 = .ok (.l2i, 1) := by decide +kernel
theorem d_173_28 : decode c_173 28 = .ok (.invokestatic 69, 3) := by decide +kernel
theorem d_173_31 : decode c_173 31 = .ok (.invokevirtual 38, 3) := by decide +kernel
theorem d_173_34 : decode c_173 34 = .ok (.lload_n 3, 1) := by decide +kernel
theorem d_173_35 : decode c_173 35 = .ok (.ldc2_w 67, 3) := by decide +kernel
theorem d_173_38 : decode c_173 38 = .ok (.ldiv, 1) := by decide +kernel
theorem d_173_39 : decode c_173 39 = .ok (.lstore_n 3, 1) := by decide +kernel
theorem d_173_40 : decode c_173 40 = .ok (.iinc 5 1, 3) := by decide +kernel
theorem d_173_43 : decode c_173 43 = .ok (.goto (-38), 3) := by decide +kernel
theorem d_173_46 : decode c_173 46 = .ok (.return_, 1) := by decide +kernel
theorem d_174_0 : decode c_174 0 = .ok (.iload_n 1, 1) := by decide +kernel
theorem d_174_1 : decode c_174 1 = .ok (.iconst 1, 1) := by decide +kernel
theorem d_174_2 : decode c_174 2 = .ok (.if_icmp .lt 11, 3) := by decide +kernel
theorem d_174_5 : decode c_174 5 = .ok (.iload_n 1, 1) := by decide +kernel
theorem d_174_6 : decode c_174 6 = .ok (.aload_n 0, 1) := by decide +kernel
theorem d_174_7 : decode c_174 7 = .ok (.getfield 27, 3) := by decide +kernel
theorem d_174_10 : decode c_174 10 = .ok (.if_icmp .le 7, 3) := by decide +kernel
theorem d_174_13 : decode c_174 13 = .ok (.lconst 0, 1) := by decide +kernel
theorem d_174_14 : decode c_174 14 = .ok (.goto 11, 3) := by decide +kernel
theorem d_174_17 : decode c_174 17 = .ok (.aload_n 0, 1) := by decide +kernel
theorem d_174_18 : decode c_174 18 = .ok (.getfield 23, 3) := by decide +kernel
theorem d_174_21 : decode c_174 21 = .ok (.iload_n 1, 1) := by decide +kernel
theorem d_174_22 : decode c_174 22 = .ok (.iconst 1, 1) := by decide +kernel
theorem d_174_23 : decode c_174 23 = .ok (.isub, 1) := by decide +kernel
theorem d_174_24 : decode c_174 24 = .ok (.laload, 1) := by decide +kernel
theorem d_174_25 : decode c_174 25 = .ok (.lreturn, 1) := by decide +kernel
theorem d_175_0 : decode c_175 0 = .ok (.iload_n 1, 1) := by decide +kernel
theorem d_175_1 : decode c_175 1 = .ok (.ifCond .ge 21, 3) := by decide +kernel
theorem d_175_4 : decode c_175 4 = .ok (.aload_n 0, 1) := by decide +kernel
theorem d_175_5 : decode c_175 5 = .ok (.getfield 9, 3) := by decide +kernel
theorem d_175_8 : decode c_175 8 = .ok (.bipush 45, 2) := by decide +kernel
theorem d_175_10 : decode c_175 10 = .ok (.invokevirtual 38, 3) := by decide +kernel
theorem d_175_13 : decode c_175 13 = .ok (.aload_n 0, 1) := by decide +kernel
theorem d_175_14 : decode c_175 14 = .ok (.getfield 9, 3) := by decide +kernel
theorem d_175_17 : decode c_175 17 = .ok (.bipush 32, 2) := by decide +kernel
theorem d_175_19 : decode c_175 19 = .ok (.invokevirtual 38, 3) := by decide +kernel
theorem d_175_22 : decode c_175 22 = .ok (.iload_n 1, 1) := by decide +kernel
theorem d_175_23 : decode c_175 23 = .ok (.invokestatic 72, 3) := by decide +kernel
theorem d_175_26 : decode c_175 26 = .ok (.istore_n 2, 1) := by decide +kernel
theorem d_175_27 : decode c_175 27 = .ok (.ldc 77, 2) := by decide +kernel
theorem d_175_29 : decode c_175 29 = .ok (.istore_n 3, 1) := by decide +kernel
theorem d_175_30 : decode c_175 30 = .ok (.iload_n 3, 1) := by decide +kernel
theorem d_175_31 : decode c_175 31 = .ok (.ifCond .le 37, 3) := by decide +kernel
theorem d_175_34 : decode c_175 34 = .ok (.iload_n 2, 1) := by decide +kernel
theorem d_175_35 : decode c_175 35 = .ok (.iload_n 3, 1) := by decide +kernel
theorem d_175_36 : decode c_175 36 = .ok (.if_icmp .ge 8, 3) := by decide +kernel
theorem d_175_39 : decode c_175 39 = .ok (.iload_n 3, 1) := by decide +kernel
theorem d_175_40 : decode c_175 40 = .ok (.iconst 1, 1) := by decide +kernel
theorem d_175_41 : decode c_175 41 = .ok (.if_icmp .ne 19, 3) := by decide +kernel
theorem d_175_44 : decode c_175 44 = .ok (.aload_n 0, 1) := by decide +kernel
theorem d_175_45 : decode c_175 45 = .ok (.getfield 9, 3) := by decide +kernel
theorem d_175_48 : decode c_175 48 = .ok (.bipush 48, 2) := by decide +kernel
theorem d_175_50 : decode c_175 50 = .ok (.iload_n 2, 1) := by decide +kernel
theorem d_175_51 : decode c_175 51 = .ok (.iload_n 3, 1) := by decide +kernel
theorem d_175_52 : decode c_175 52 = .ok (.idiv, 1) := by decide +kernel
theorem d_175_53 : decode c_175 53 = .ok (.bipush 10, 2) := by decide +kernel
theorem d_175_55 : decode c_175 55 = .ok (.irem, 1) := by decide +kernel
theorem d_175_56 : decode c_175 56 = .ok (.iadd, 1) := by decide +kernel
theorem d_175_57 : decode c_175 57 = .ok (.invokevirtual 38, 3) := by decide +kernel
theorem d_175_60 : decode c_175 60 = .ok (.iload_n 3, 1) := by decide +kernel
theorem d_175_61 : decode c_175 61 = .ok (.bipush 10, 2) := by decide +kernel
theorem d_175_63 : decode c_175 63 = .ok (.idiv, 1) := by decide +kernel
theorem d_175_64 : decode c_175 64 = .ok (.istore_n 3, 1) := by decide +kernel
theorem d_175_65 : decode c_175 65 = .ok (.goto (-35), 3) := by decide +kernel
theorem d_175_68 : decode c_175 68 = .ok (.return_, 1) := by decide +kernel
theorem d_176_0 : decode c_176 0 = .ok (.aload_n 1, 1) := by decide +kernel
theorem d_176_1 : decode c_176 1 = .ok (.iload_n 2, 1) := by decide +kernel
theorem d_176_2 : decode c_176 2 = .ok (.iload_n 3, 1) := by decide +kernel
theorem d_176_3 : decode c_176 3 = .ok (.invokevirtual 46, 3) := by decide +kernel
theorem d_176_6 : decode c_176 6 = .ok (.istore 4, 2) := by decide +kernel
theorem d_176_8 : decode c_176 8 = .ok (.aload_n 1, 1) := by decide +kernel
theorem d_176_9 : decode c_176 9 = .ok (.iload_n 2, 1) := by decide +kernel
theorem d_176_10 : decode c_176 10 = .ok (.iload_n 3, 1) := by decide +kernel
theorem d_176_11 : decode c_176 11 = .ok (.invokevirtual 50, 3) := by decide +kernel
theorem d_176_14 : decode c_176 14 = .ok (.tableswitch 64 1 3 #[26, 42, 55], 26) := by decide +kernel
theorem d_176_40 : decode c_176 40 = .ok (.aload_n 0, 1) := by decide +kernel
theorem d_176_41 : decode c_176 41 = .ok (.aload_n 0, 1) := by decide +kernel
theorem d_176_42 : decode c_176 42 = .ok (.getfield 15, 3) := by decide +kernel
theorem d_176_45 : decode c_176 45 = .ok (.iload 4, 2) := by decide +kernel
theorem d_176_47 : decode c_176 47 = .ok (.invokevirtual 53, 3) := by decide +kernel
theorem d_176_50 : decode c_176 50 = .ok (.invokevirtual 59, 3) := by decide +kernel
theorem d_176_53 : decode c_176 53 = .ok (.goto 34, 3) := by decide +kernel
theorem d_176_56 : decode c_176 56 = .ok (.aload_n 0, 1) := by decide +kernel
theorem d_176_57 : decode c_176 57 = .ok (.aload_n 1, 1) := by decide +kernel
theorem d_176_58 : decode c_176 58 = .ok (.iload 4, 2) := by decide +kernel
theorem d_176_60 : decode c_176 60 = .ok (.invokevirtual 63, 3) := by decide +kernel
theorem d_176_63 : decode c_176 63 = .ok (.invokevirtual 59, 3) := by decide +kernel
theorem d_176_66 : decode c_176 66 = .ok (.goto 21, 3) := by decide +kernel
theorem d_176_69 : decode c_176 69 = .ok (.aload_n 0, 1) := by decide +kernel
theorem d_176_70 : decode c_176 70 = .ok (.iload 4, 2) := by decide +kernel
theorem d_176_72 : decode c_176 72 = .ok (.invokevirtual 64, 3) := by decide +kernel
theorem d_176_75 : decode c_176 75 = .ok (.goto 12, 3) := by decide +kernel
theorem d_176_78 : decode c_176 78 = .ok (.aload_n 0, 1) := by decide +kernel
theorem d_176_79 : decode c_176 79 = .ok (.getfield 9, 3) := by decide +kernel
theorem d_176_82 : decode c_176 82 = .ok (.iload 4, 2) := by decide +kernel
theorem d_176_84 : decode c_176 84 = .ok (.invokevirtual 38, 3) := by decide +kernel
theorem d_176_87 : decode c_176 87 = .ok (.return_, 1) := by decide +kernel
theorem d_177_0 : decode c_177 0 = .ok (.iconst 0, 1) := by decide +kernel
theorem d_177_1 : decode c_177 1 = .ok (.istore_n 3, 1) := by decide +kernel
theorem d_177_2 : decode c_177 2 = .ok (.iload_n 3, 1) := by decide +kernel
theorem d_177_3 : decode c_177 3 = .ok (.aload_n 1, 1) := by decide +kernel
theorem d_177_4 : decode c_177 4 = .ok (.iload_n 2, 1) := by decide +kernel
theorem d_177_5 : decode c_177 5 = .ok (.invokevirtual 34, 3) := by decide +kernel
theorem d_177_8 : decode c_177 8 = .ok (.if_icmp .ge 29, 3) := by decide +kernel
theorem d_177_11 : decode c_177 11 = .ok (.iload_n 3, 1) := by decide +kernel
theorem d_177_12 : decode c_177 12 = .ok (.ifCond .le 12, 3) := by decide +kernel
theorem d_177_15 : decode c_177 15 = .ok (.aload_n 0, 1) := by decide +kernel
theorem d_177_16 : decode c_177 16 = .ok (.getfield 9, 3) := by decide +kernel
theorem d_177_19 : decode c_177 19 = .ok (.bipush 32, 2) := by decide +kernel
theorem d_177_21 : decode c_177 21 = .ok (.invokevirtual 38, 3) := by decide +kernel
theorem d_177_24 : decode c_177 24 = .ok (.aload_n 0, 1) := by decide +kernel
theorem d_177_25 : decode c_177 25 = .ok (.aload_n 1, 1) := by decide +kernel
theorem d_177_26 : decode c_177 26 = .ok (.iload_n 2, 1) := by decide +kernel
theorem d_177_27 : decode c_177 27 = .ok (.iload_n 3, 1) := by decide +kernel
theorem d_177_28 : decode c_177 28 = .ok (.invokevirtual 42, 3) := by decide +kernel
theorem d_177_31 : decode c_177 31 = .ok (.iinc 3 1, 3) := by decide +kernel
theorem d_177_34 : decode c_177 34 = .ok (.goto (-32), 3) := by decide +kernel
theorem d_177_37 : decode c_177 37 = .ok (.aload_n 0, 1) := by decide +kernel
theorem d_177_38 : decode c_177 38 = .ok (.getfield 9, 3) := by decide +kernel
theorem d_177_41 : decode c_177 41 = .ok (.bipush 10, 2) := by decide +kernel
theorem d_177_43 : decode c_177 43 = .ok (.invokevirtual 38, 3) := by decide +kernel
theorem d_177_46 : decode c_177 46 = .ok (.return_, 1) := by decide +kernel
theorem d_178_0 : decode c_178 0 = .ok (.aload_n 0, 1) := by decide +kernel
theorem d_178_1 : decode c_178 1 = .ok (.getfield 9, 3) := by decide +kernel
theorem d_178_4 : decode c_178 4 = .ok (.invokevirtual 19, 3) := by decide +kernel
theorem d_178_7 : decode c_178 7 = .ok (.iconst 1, 1) := by decide +kernel
theorem d_178_8 : decode c_178 8 = .ok (.istore_n 2, 1) := by decide +kernel
theorem d_178_9 : decode c_178 9 = .ok (.iload_n 2, 1) := by decide +kernel
theorem d_178_10 : decode c_178 10 = .ok (.aload_n 1, 1) := by decide +kernel
theorem d_178_11 : decode c_178 11 = .ok (.invokevirtual 24, 3) := by decide +kernel
theorem d_178_14 : decode c_178 14 = .ok (.if_icmp .gt 15, 3) := by decide +kernel
theorem d_178_17 : decode c_178 17 = .ok (.aload_n 0, 1) := by decide +kernel
theorem d_178_18 : decode c_178 18 = .ok (.aload_n 1, 1) := by decide +kernel
theorem d_178_19 : decode c_178 19 = .ok (.iload_n 2, 1) := by decide +kernel
theorem d_178_20 : decode c_178 20 = .ok (.invokevirtual 30, 3) := by decide +kernel
theorem d_178_23 : decode c_178 23 = .ok (.iinc 2 1, 3) := by decide +kernel
theorem d_178_26 : decode c_178 26 = .ok (.goto (-17), 3) := by decide +kernel
theorem d_178_29 : decode c_178 29 = .ok (.return_, 1) := by decide +kernel
theorem d_179_0 : decode c_179 0 = .ok (.aload_n 0, 1) := by decide +kernel
theorem d_179_1 : decode c_179 1 = .ok (.getfield 19, 3) := by decide +kernel
theorem d_179_4 : decode c_179 4 = .ok (.ireturn, 1) := by decide +kernel
theorem d_180_0 : decode c_180 0 = .ok (.aload_n 0, 1) := by decide +kernel
theorem d_180_1 : decode c_180 1 = .ok (.invokevirtual 89, 3) := by decide +kernel
theorem d_180_4 : decode c_180 4 = .ok (.astore_n 1, 1) := by decide +kernel
theorem d_180_5 : decode c_180 5 = .ok (.aload_n 1, 1) := by decide +kernel
theorem d_180_6 : decode c_180 6 = .ok (.ifnonnull 6, 3) := by decide +kernel
theorem d_180_9 : decode c_180 9 = .ok (.bipush (-3), 2) := by decide +kernel
theorem d_180_11 : decode c_180 11 = .ok (.ireturn, 1) := by decide +kernel
theorem d_180_12 : decode c_180 12 = .ok (.aload_n 0, 1) := by decide +kernel
theorem d_180_13 : decode c_180 13 = .ok (.getfield 36, 3) := by decide +kernel
theorem d_180_16 : decode c_180 16 = .ok (.aload_n 1, 1) := by decide +kernel
theorem d_180_17 : decode c_180 17 = .ok (.invokevirtual 145, 3) := by decide +kernel
theorem d_180_20 : decode c_180 20 = .ok (.aload_n 0, 1) := by decide +kernel
theorem d_180_21 : decode c_180 21 = .ok (.getfield 15, 3) := by decide +kernel
theorem d_180_24 : decode c_180 24 = .ok (.invokevirtual 149, 3) := by decide +kernel
theorem d_180_27 : decode c_180 27 = .ok (.ifCond .eq 13, 3) := by decide +kernel
theorem d_180_30 : decode c_180 30 = .ok (.aload_n 0, 1) := by decide +kernel
theorem d_180_31 : decode c_180 31 = .ok (.getfield 15, 3) := by decide +kernel
theorem d_180_34 : decode c_180 34 = .ok (.invokevirtual 76, 3) := by decide +kernel
theorem d_180_37 : decode c_180 37 = .ok (.bipush (-4), 2) := by decide +kernel
theorem d_180_39 : decode c_180 39 = .ok (.ireturn, 1) := by decide +kernel
theorem d_180_40 : decode c_180 40 = .ok (.aload_n 0, 1) := by decide +kernel
theorem d_180_41 : decode c_180 41 = .ok (.getfield 15, 3) := by decide +kernel
theorem d_180_44 : decode c_180 44 = .ok (.invokevirtual 153, 3) := by decide +kernel
theorem d_180_47 : decode c_180 47 = .ok (.ireturn, 1) := by decide +kernel
theorem d_181_0 : decode c_181 0 = .ok (.aload_n 0, 1) := by decide +kernel
theorem d_181_1 : decode c_181 1 = .ok (.getfield 310, 3) := by decide +kernel
theorem d_181_4 : decode c_181 4 = .ok (.ifCond .ne 6, 3) := by decide +kernel
theorem d_181_7 : decode c_181 7 = .ok (.bipush (-3), 2) := by decide +kernel
theorem d_181_9 : decode c_181 9 = .ok (.ireturn, 1) := by decide +kernel
theorem d_181_10 : decode c_181 10 = .ok (.aload_n 0, 1) := by decide +kernel
theorem d_181_11 : decode c_181 11 = .ok (.iconst 0, 1) := by decide +kernel
theorem d_181_12 : decode c_181 12 = .ok (.putfield 138, 3) := by decide +kernel
theorem d_181_15 : decode c_181 15 = .ok (.aload_n 0, 1) := by decide +kernel
theorem d_181_16 : decode c_181 16 = .ok (.getfield 118, 3) := by decide +kernel
theorem d_181_19 : decode c_181 19 = .ok (.aload_n 0, 1) := by decide +kernel
theorem d_181_20 : decode c_181 20 = .ok (.getfield 313, 3) := by decide +kernel
theorem d_181_23 : decode c_181 23 = .ok (.iaload, 1) := by decide +kernel
theorem d_181_24 : decode c_181 24 = .ok (.aload_n 0, 1) := by decide +kernel
theorem d_181_25 : decode c_181 25 = .ok (.getfield 313, 3) := by decide +kernel
theorem d_181_28 : decode c_181 28 = .ok (.iadd, 1) := by decide +kernel
theorem d_181_29 : decode c_181 29 = .ok (.sipush 2000, 3) := by decide +kernel
theorem d_181_32 : decode c_181 32 = .ok (.if_icmp .le 6, 3) := by decide +kernel
theorem d_181_35 : decode c_181 35 = .ok (.bipush (-4), 2) := by decide +kernel
theorem d_181_37 : decode c_181 37 = .ok (.ireturn, 1) := by decide +kernel
theorem d_181_38 : decode c_181 38 = .ok (.iconst 0, 1) := by decide +kernel
theorem d_181_39 : decode c_181 39 = .ok (.istore_n 1, 1) := by decide +kernel
theorem d_181_40 : decode c_181 40 = .ok (.iload_n 1, 1) := by decide +kernel
theorem d_181_41 : decode c_181 41 = .ok (.aload_n 0, 1) := by decide +kernel
theorem d_181_42 : decode c_181 42 = .ok (.getfield 313, 3) := by decide +kernel
theorem d_181_45 : decode c_181 45 = .ok (.if_icmp .ge 80, 3) := by decide +kernel
theorem d_181_48 : decode c_181 48 = .ok (.aload_n 0, 1) := by decide +kernel
theorem d_181_49 : decode c_181 49 = .ok (.getfield 118, 3) := by decide +kernel
theorem d_181_52 : decode c_181 52 = .ok (.iload_n 1, 1) := by decide +kernel
theorem d_181_53 : decode c_181 53 = .ok (.iaload, 1) := by decide +kernel
theorem d_181_54 : decode c_181 54 = .ok (.istore_n 2, 1) := by decide +kernel
theorem d_181_55 : decode c_181 55 = .ok (.iload_n 2, 1) := by decide +kernel
theorem d_181_56 : decode c_181 56 = .ok (.aload_n 0, 1) := by decide +kernel
theorem d_181_57 : decode c_181 57 = .ok (.getfield 118, 3) := by decide +kernel
theorem d_181_60 : decode c_181 60 = .ok (.iload_n 1, 1) := by decide +kernel
theorem d_181_61 : decode c_181 61 = .ok (.iconst 1, 1) := by decide +kernel
theorem d_181_62 : decode c_181 62 = .ok (.iadd, 1) := by decide +kernel
theorem d_181_63 : decode c_181 63 = .ok (.iaload, 1) := by decide +kernel
theorem d_181_64 : decode c_181 64 = .ok (.if_icmp .ge 34, 3) := by decide +kernel
theorem d_181_67 : decode c_181 67 = .ok (.aload_n 0, 1) := by decide +kernel
theorem d_181_68 : decode c_181 68 = .ok (.getfield 7, 3) := by decide +kernel
theorem d_181_71 : decode c_181 71 = .ok (.aload_n 0, 1) := by decide +kernel
theorem d_181_72 : decode c_181 72 = .ok (.getfield 138, 3) := by decide +kernel
theorem d_181_75 : decode c_181 75 = .ok (.aload_n 0, 1) := by decide +kernel
theorem d_181_76 : decode c_181 76 = .ok (.getfield 115, 3) := by decide +kernel
theorem d_181_79 : decode c_181 79 = .ok (.iload_n 2, 1) := by decide +kernel
theorem d_181_80 : decode c_181 80 = .ok (.iaload, 1) := by decide +kernel
theorem d_181_81 : decode c_181 81 = .ok (.iastore, 1) := by decide +kernel
theorem d_181_82 : decode c_181 82 = .ok (.aload_n 0, 1) := by decide +kernel
theorem d_181_83 : decode c_181 83 = .ok (.dup, 1) := by decide +kernel
theorem d_181_84 : decode c_181 84 = .ok (.getfield 138, 3) := by decide +kernel
theorem d_181_87 : decode c_181 87 = .ok (.iconst 1, 1) := by decide +kernel
theorem d_181_88 : decode c_181 88 = .ok (.iadd, 1) := by decide +kernel
theorem d_181_89 : decode c_181 89 = .ok (.putfield 138, 3) := by decide +kernel
theorem d_181_92 : decode c_181 92 = .ok (.iinc 2 1, 3) := by decide +kernel
theorem d_181_95 : decode c_181 95 = .ok (.goto (-40), 3) := by decide +kernel
theorem d_181_98 : decode c_181 98 = .ok (.aload_n 0, 1) := by decide +kernel
theorem d_181_99 : decode c_181 99 = .ok (.getfield 7, 3) := by decide +kernel
theorem d_181_102 : decode c_181 102 = .ok (.aload_n 0, 1) := by decide +kernel
theorem d_181_103 : decode c_181 103 = .ok (.getfield 138, 3) := by decide +kernel
theorem d_181_106 : decode c_181 106 = .ok (.bipush 10, 2) := by decide +kernel
theorem d_181_108 : decode c_181 108 = .ok (.iastore, 1) := by decide +kernel
theorem d_181_109 : decode c_181 109 = .ok (.aload_n 0, 1) := by decide +kernel
theorem d_181_110 : decode c_181 110 = .ok (.dup, 1) := by decide +kernel
theorem d_181_111 : decode c_181 111 = .ok (.getfield 138, 3) := by decide +kernel
theorem d_181_114 : decode c_181 114 = .ok (.iconst 1, 1) := by decide +kernel
theorem d_181_115 : decode c_181 115 = .ok (.iadd, 1) := by decide +kernel
theorem d_181_116 : decode c_181 116 = .ok (.putfield 138, 3) := by decide +kernel
theorem d_181_119 : decode c_181 119 = .ok (.iinc 1 1, 3) := by decide +kernel
theorem d_181_122 : decode c_181 122 = .ok (.goto (-82), 3) := by decide +kernel
theorem d_181_125 : decode c_181 125 = .ok (.aload_n 0, 1) := by decide +kernel
theorem d_181_126 : decode c_181 126 = .ok (.getfield 138, 3) := by decide +kernel
theorem d_181_129 : decode c_181 129 = .ok (.ireturn, 1) := by decide +kernel
theorem d_182_0 : decode c_182 0 = .ok (.aload_n 0, 1) := by decide +kernel
theorem d_182_1 : decode c_182 1 = .ok (.getfield 15, 3) := by decide +kernel
theorem d_182_4 : decode c_182 4 = .ok (.iload_n 1, 1) := by decide +kernel
theorem d_182_5 : decode c_182 5 = .ok (.invokevirtual 156, 3) := by decide +kernel
theorem d_182_8 : decode c_182 8 = .ok (.ireturn, 1) := by decide +kernel
theorem d_183_0 : decode c_183 0 = .ok (.iload_n 1, 1) := by decide +kernel
theorem d_183_1 : decode c_183 1 = .ok (.ifCond .lt 11, 3) := by decide +kernel
theorem d_183_4 : decode c_183 4 = .ok (.iload_n 1, 1) := by decide +kernel
theorem d_183_5 : decode c_183 5 = .ok (.aload_n 0, 1) := by decide +kernel
theorem d_183_6 : decode c_183 6 = .ok (.getfield 138, 3) := by decide +kernel
theorem d_183_9 : decode c_183 9 = .ok (.if_icmp .lt 7, 3) := by decide +kernel
theorem d_183_12 : decode c_183 12 = .ok (.iconst (-1), 1) := by decide +kernel
theorem d_183_13 : decode c_183 13 = .ok (.goto 9, 3) := by decide +kernel
theorem d_183_16 : decode c_183 16 = .ok (.aload_n 0, 1) := by decide +kernel
theorem d_183_17 : decode c_183 17 = .ok (.getfield 7, 3) := by decide +kernel
theorem d_183_20 : decode c_183 20 = .ok (.iload_n 1, 1) := by decide +kernel
theorem d_183_21 : decode c_183 21 = .ok (.iaload, 1) := by decide +kernel
theorem d_183_22 : decode c_183 22 = .ok (.ireturn, 1) := by decide +kernel
theorem d_184_0 : decode c_184 0 = .ok (.aload_n 0, 1) := by decide +kernel
theorem d_184_1 : decode c_184 1 = .ok (.iload_n 1, 1) := by decide +kernel
theorem d_184_2 : decode c_184 2 = .ok (.iload_n 2, 1) := by decide +kernel
theorem d_184_3 : decode c_184 3 = .ok (.invokevirtual 57, 3) := by decide +kernel
theorem d_184_6 : decode c_184 6 = .ok (.istore 5, 2) := by decide +kernel
theorem d_184_8 : decode c_184 8 = .ok (.iload 5, 2) := by decide +kernel
theorem d_184_10 : decode c_184 10 = .ok (.aload_n 3, 1) := by decide +kernel
theorem d_184_11 : decode c_184 11 = .ok (.iload 4, 2) := by decide +kernel
theorem d_184_13 : decode c_184 13 = .ok (.iload_n 2, 1) := by decide +kernel
theorem d_184_14 : decode c_184 14 = .ok (.invokevirtual 57, 3) := by decide +kernel
theorem d_184_17 : decode c_184 17 = .ok (.if_icmp .eq 5, 3) := by decide +kernel
theorem d_184_20 : decode c_184 20 = .ok (.iconst 0, 1) := by decide +kernel
theorem d_184_21 : decode c_184 21 = .ok (.ireturn, 1) := by decide +kernel
theorem d_184_22 : decode c_184 22 = .ok (.aload_n 0, 1) := by decide +kernel
theorem d_184_23 : decode c_184 23 = .ok (.iload_n 1, 1) := by decide +kernel
theorem d_184_24 : decode c_184 24 = .ok (.iload_n 2, 1) := by decide +kernel
theorem d_184_25 : decode c_184 25 = .ok (.invokevirtual 48, 3) := by decide +kernel
theorem d_184_28 : decode c_184 28 = .ok (.istore 6, 2) := by decide +kernel
theorem d_184_30 : decode c_184 30 = .ok (.aload_n 3, 1) := by decide +kernel
theorem d_184_31 : decode c_184 31 = .ok (.iload 4, 2) := by decide +kernel
theorem d_184_33 : decode c_184 33 = .ok (.iload_n 2, 1) := by decide +kernel
theorem d_184_34 : decode c_184 34 = .ok (.invokevirtual 48, 3) := by decide +kernel
theorem d_184_37 : decode c_184 37 = .ok (.istore 7, 2) := by decide +kernel
theorem d_184_39 : decode c_184 39 = .ok (.iload 5, 2) := by decide +kernel
theorem d_184_41 : decode c_184 41 = .ok (.iconst 2, 1) := by decide +kernel
theorem d_184_42 : decode c_184 42 = .ok (.if_icmp .ne 27, 3) := by decide +kernel
theorem d_184_45 : decode c_184 45 = .ok (.aload_n 0, 1) := by decide +kernel
theorem d_184_46 : decode c_184 46 = .ok (.iload 6, 2) := by decide +kernel
theorem d_184_48 : decode c_184 48 = .ok (.invokevirtual 95, 3) := by decide +kernel
theorem d_184_51 : decode c_184 51 = .ok (.aload_n 3, 1) := by decide +kernel
theorem d_184_52 : decode c_184 52 = .ok (.iload 7, 2) := by decide +kernel
theorem d_184_54 : decode c_184 54 = .ok (.invokevirtual 95, 3) := by decide +kernel
theorem d_184_57 : decode c_184 57 = .ok (.lcmp, 1) := by decide +kernel
theorem d_184_58 : decode c_184 58 = .ok (.ifCond .ne 7, 3) := by decide +kernel
theorem d_184_61 : decode c_184 61 = .ok (.iconst 1, 1) := by decide +kernel
theorem d_184_62 : decode c_184 62 = .ok (.goto 19, 3) := by decide +kernel
theorem d_184_65 : decode c_184 65 = .ok (.iconst 0, 1) := by decide +kernel
theorem d_184_66 : decode c_184 66 = .ok (.goto 15, 3) := by decide +kernel
theorem d_184_69 : decode c_184 69 = .ok (.iload 6, 2) := by decide +kernel
theorem d_184_71 : decode c_184 71 = .ok (.iload 7, 2) := by decide +kernel
theorem d_184_73 : decode c_184 73 = .ok (.if_icmp .ne 7, 3) := by decide +kernel
theorem d_184_76 : decode c_184 76 = .ok (.iconst 1, 1) := by decide +kernel
theorem d_184_77 : decode c_184 77 = .ok (.goto 4, 3) := by decide +kernel
theorem d_184_80 : decode c_184 80 = .ok (.iconst 0, 1) := by decide +kernel
theorem d_184_81 : decode c_184 81 = .ok (.ireturn, 1) := by decide +kernel
theorem d_185_0 : decode c_185 0 = .ok (.aload_n 0, 1) := by decide +kernel
theorem d_185_1 : decode c_185 1 = .ok (.iload_n 1, 1) := by decide +kernel
theorem d_185_2 : decode c_185 2 = .ok (.invokevirtual 88, 3) := by decide +kernel
theorem d_185_5 : decode c_185 5 = .ok (.aload_n 2, 1) := by decide +kernel
theorem d_185_6 : decode c_185 6 = .ok (.iload_n 3, 1) := by decide +kernel
theorem d_185_7 : decode c_185 7 = .ok (.invokevirtual 88, 3) := by decide +kernel
theorem d_185_10 : decode c_185 10 = .ok (.if_icmp .ne 16, 3) := by decide +kernel
theorem d_185_13 : decode c_185 13 = .ok (.aload_n 0, 1) := by decide +kernel
theorem d_185_14 : decode c_185 14 = .ok (.iload_n 1, 1) := by decide +kernel
theorem d_185_15 : decode c_185 15 = .ok (.invokevirtual 60, 3) := by decide +kernel
theorem d_185_18 : decode c_185 18 = .ok (.aload_n 2, 1) := by decide +kernel
theorem d_185_19 : decode c_185 19 = .ok (.iload_n 3, 1) := by decide +kernel
theorem d_185_20 : decode c_185 20 = .ok (.invokevirtual 60, 3) := by decide +kernel
theorem d_185_23 : decode c_185 23 = .ok (.if_icmp .eq 5, 3) := by decide +kernel
theorem d_185_26 : decode c_185 26 = .ok (.iconst 0, 1) := by decide +kernel
theorem d_185_27 : decode c_185 27 = .ok (.ireturn, 1) := by decide +kernel
theorem d_185_28 : decode c_185 28 = .ok (.iconst 0, 1) := by decide +kernel
theorem d_185_29 : decode c_185 29 = .ok (.istore 4, 2) := by decide +kernel
theorem d_185_31 : decode c_185 31 = .ok (.iload 4, 2) := by decide +kernel
theorem d_185_33 : decode c_185 33 = .ok (.aload_n 0, 1) := by decide +kernel
theorem d_185_34 : decode c_185 34 = .ok (.iload_n 1, 1) := by decide +kernel
theorem d_185_35 : decode c_185 35 = .ok (.invokevirtual 60, 3) := by decide +kernel
theorem d_185_38 : decode c_185 38 = .ok (.if_icmp .ge 23, 3) := by decide +kernel
theorem d_185_41 : decode c_185 41 = .ok (.aload_n 0, 1) := by decide +kernel
theorem d_185_42 : decode c_185 42 = .ok (.iload_n 1, 1) := by decide +kernel
theorem d_185_43 : decode c_185 43 = .ok (.iload 4, 2) := by decide +kernel
theorem d_185_45 : decode c_185 45 = .ok (.aload_n 2, 1) := by decide +kernel
theorem d_185_46 : decode c_185 46 = .ok (.iload_n 3, 1) := by decide +kernel
theorem d_185_47 : decode c_185 47 = .ok (.invokevirtual 91, 3) := by decide +kernel
theorem d_185_50 : decode c_185 50 = .ok (.ifCond .ne 5, 3) := by decide +kernel
theorem d_185_53 : decode c_185 53 = .ok (.iconst 0, 1) := by decide +kernel
theorem d_185_54 : decode c_185 54 = .ok (.ireturn, 1) := by decide +kernel
theorem d_185_55 : decode c_185 55 = .ok (.iinc 4 1, 3) := by decide +kernel
theorem d_185_58 : decode c_185 58 = .ok (.goto (-27), 3) := by decide +kernel
theorem d_185_61 : decode c_185 61 = .ok (.iconst 1, 1) := by decide +kernel
theorem d_185_62 : decode c_185 62 = .ok (.ireturn, 1) := by decide +kernel
theorem d_186_0 : decode c_186 0 = .ok (.iconst 1, 1) := by decide +kernel
theorem d_186_1 : decode c_186 1 = .ok (.istore_n 3, 1) := by decide +kernel
theorem d_186_2 : decode c_186 2 = .ok (.iload_n 3, 1) := by decide +kernel
theorem d_186_3 : decode c_186 3 = .ok (.aload_n 1, 1) := by decide +kernel
theorem d_186_4 : decode c_186 4 = .ok (.getfield 45, 3) := by decide +kernel
theorem d_186_7 : decode c_186 7 = .ok (.if_icmp .gt 41, 3) := by decide +kernel
theorem d_186_10 : decode c_186 10 = .ok (.aload_n 0, 1) := by decide +kernel
theorem d_186_11 : decode c_186 11 = .ok (.iload_n 2, 1) := by decide +kernel
theorem d_186_12 : decode c_186 12 = .ok (.aload_n 1, 1) := by decide +kernel
theorem d_186_13 : decode c_186 13 = .ok (.iload_n 3, 1) := by decide +kernel
theorem d_186_14 : decode c_186 14 = .ok (.invokevirtual 84, 3) := by decide +kernel
theorem d_186_17 : decode c_186 17 = .ok (.ifCond .eq 25, 3) := by decide +kernel
theorem d_186_20 : decode c_186 20 = .ok (.aload_n 0, 1) := by decide +kernel
theorem d_186_21 : decode c_186 21 = .ok (.aload_n 0, 1) := by decide +kernel
theorem d_186_22 : decode c_186 22 = .ok (.getfield 33, 3) := by decide +kernel
theorem d_186_25 : decode c_186 25 = .ok (.iload_n 2, 1) := by decide +kernel
theorem d_186_26 : decode c_186 26 = .ok (.iaload, 1) := by decide +kernel
theorem d_186_27 : decode c_186 27 = .ok (.aload_n 1, 1) := by decide +kernel
theorem d_186_28 : decode c_186 28 = .ok (.aload_n 1, 1) := by decide +kernel
theorem d_186_29 : decode c_186 29 = .ok (.getfield 33, 3) := by decide +kernel
theorem d_186_32 : decode c_186 32 = .ok (.iload_n 3, 1) := by decide +kernel
theorem d_186_33 : decode c_186 33 = .ok (.iaload, 1) := by decide +kernel
theorem d_186_34 : decode c_186 34 = .ok (.invokevirtual 84, 3) := by decide +kernel
theorem d_186_37 : decode c_186 37 = .ok (.ifCond .eq 5, 3) := by decide +kernel
theorem d_186_40 : decode c_186 40 = .ok (.iconst 1, 1) := by decide +kernel
theorem d_186_41 : decode c_186 41 = .ok (.ireturn, 1) := by decide +kernel
theorem d_186_42 : decode c_186 42 = .ok (.iinc 3 1, 3) := by decide +kernel
theorem d_186_45 : decode c_186 45 = .ok (.goto (-43), 3) := by decide +kernel
theorem d_186_48 : decode c_186 48 = .ok (.iconst 0, 1) := by decide +kernel
theorem d_186_49 : decode c_186 49 = .ok (.ireturn, 1) := by decide +kernel
theorem d_187_0 : decode c_187 0 = .ok (.iconst 0, 1) := by decide +kernel
theorem d_187_1 : decode c_187 1 = .ok (.istore_n 2, 1) := by decide +kernel
theorem d_187_2 : decode c_187 2 = .ok (.iconst 1, 1) := by decide +kernel
theorem d_187_3 : decode c_187 3 = .ok (.istore_n 3, 1) := by decide +kernel
theorem d_187_4 : decode c_187 4 = .ok (.iload_n 3, 1) := by decide +kernel
theorem d_187_5 : decode c_187 5 = .ok (.aload_n 0, 1) := by decide +kernel
theorem d_187_6 : decode c_187 6 = .ok (.getfield 45, 3) := by decide +kernel
theorem d_187_9 : decode c_187 9 = .ok (.if_icmp .gt 21, 3) := by decide +kernel
theorem d_187_12 : decode c_187 12 = .ok (.aload_n 0, 1) := by decide +kernel
theorem d_187_13 : decode c_187 13 = .ok (.aload_n 1, 1) := by decide +kernel
theorem d_187_14 : decode c_187 14 = .ok (.iload_n 3, 1) := by decide +kernel
theorem d_187_15 : decode c_187 15 = .ok (.invokevirtual 80, 3) := by decide +kernel
theorem d_187_18 : decode c_187 18 = .ok (.ifCond .ne 6, 3) := by decide +kernel
theorem d_187_21 : decode c_187 21 = .ok (.iinc 2 1, 3) := by decide +kernel
theorem d_187_24 : decode c_187 24 = .ok (.iinc 3 1, 3) := by decide +kernel
theorem d_187_27 : decode c_187 27 = .ok (.goto (-23), 3) := by decide +kernel
theorem d_187_30 : decode c_187 30 = .ok (.iload_n 2, 1) := by decide +kernel
theorem d_187_31 : decode c_187 31 = .ok (.ireturn, 1) := by decide +kernel
theorem d_188_0 : decode c_188 0 = .ok (.aload_n 0, 1) := by decide +kernel
theorem d_188_1 : decode c_188 1 = .ok (.invokevirtual 89, 3) := by decide +kernel
theorem d_188_4 : decode c_188 4 = .ok (.astore_n 2, 1) := by decide +kernel
theorem d_188_5 : decode c_188 5 = .ok (.aload_n 2, 1) := by decide +kernel
theorem d_188_6 : decode c_188 6 = .ok (.ifnull 25, 3) := by decide +kernel
theorem d_188_9 : decode c_188 9 = .ok (.iload_n 1, 1) := by decide +kernel
theorem d_188_10 : decode c_188 10 = .ok (.iconst 1, 1) := by decide +kernel
theorem d_188_11 : decode c_188 11 = .ok (.if_icmp .lt 20, 3) := by decide +kernel
theorem d_188_14 : decode c_188 14 = .ok (.iload_n 1, 1) := by decide +kernel
theorem d_188_15 : decode c_188 15 = .ok (.aload_n 0, 1) := by decide +kernel
theorem d_188_16 : decode c_188 16 = .ok (.getfield 53, 3) := by decide +kernel
theorem d_188_19 : decode c_188 19 = .ok (.if_icmp .gt 12, 3) := by decide +kernel
theorem d_188_22 : decode c_188 22 = .ok (.iload_n 1, 1) := by decide +kernel
theorem d_188_23 : decode c_188 23 = .ok (.aload_n 0, 1) := by decide +kernel
theorem d_188_24 : decode c_188 24 = .ok (.getfield 49, 3) := by decide +kernel
theorem d_188_27 : decode c_188 27 = .ok (.arraylength, 1) := by decide +kernel
theorem d_188_28 : decode c_188 28 = .ok (.if_icmp .le 5, 3) := by decide +kernel
theorem d_188_31 : decode c_188 31 = .ok (.iconst (-1), 1) := by decide +kernel
theorem d_188_32 : decode c_188 32 = .ok (.ireturn, 1) := by decide +kernel
theorem d_188_33 : decode c_188 33 = .ok (.aload_n 0, 1) := by decide +kernel
theorem d_188_34 : decode c_188 34 = .ok (.getfield 49, 3) := by decide +kernel
theorem d_188_37 : decode c_188 37 = .ok (.iload_n 1, 1) := by decide +kernel
theorem d_188_38 : decode c_188 38 = .ok (.iconst 1, 1) := by decide +kernel
theorem d_188_39 : decode c_188 39 = .ok (.isub, 1) := by decide +kernel
theorem d_188_40 : decode c_188 40 = .ok (.aaload, 1) := by decide +kernel
theorem d_188_41 : decode c_188 41 = .ok (.astore_n 3, 1) := by decide +kernel
theorem d_188_42 : decode c_188 42 = .ok (.aload_n 3, 1) := by decide +kernel
theorem d_188_43 : decode c_188 43 = .ok (.ifnonnull 7, 3) := by decide +kernel
theorem d_188_46 : decode c_188 46 = .ok (.iconst (-1), 1) := by decide +kernel
theorem d_188_47 : decode c_188 47 = .ok (.goto 8, 3) := by decide +kernel
theorem d_188_50 : decode c_188 50 = .ok (.aload_n 2, 1) := by decide +kernel
theorem d_188_51 : decode c_188 51 = .ok (.aload_n 3, 1) := by decide +kernel
theorem d_188_52 : decode c_188 52 = .ok (.invokevirtual 159, 3) := by decide +kernel
theorem d_188_55 : decode c_188 55 = .ok (.ireturn, 1) := by decide +kernel
theorem d_189_0 : decode c_189 0 = .ok (.aload_n 0, 1) := by decide +kernel
theorem d_189_1 : decode c_189 1 = .ok (.getfield 118, 3) := by decide +kernel
theorem d_189_4 : decode c_189 4 = .ok (.iload_n 1, 1) := by decide +kernel
theorem d_189_5 : decode c_189 5 = .ok (.iconst 1, 1) := by decide +kernel
theorem d_189_6 : decode c_189 6 = .ok (.iadd, 1) := by decide +kernel
theorem d_189_7 : decode c_189 7 = .ok (.iaload, 1) := by decide +kernel
theorem d_189_8 : decode c_189 8 = .ok (.aload_n 0, 1) := by decide +kernel
theorem d_189_9 : decode c_189 9 = .ok (.getfield 118, 3) := by decide +kernel
theorem d_189_12 : decode c_189 12 = .ok (.iload_n 1, 1) := by decide +kernel
theorem d_189_13 : decode c_189 13 = .ok (.iaload, 1) := by decide +kernel
theorem d_189_14 : decode c_189 14 = .ok (.isub, 1) := by decide +kernel
theorem d_189_15 : decode c_189 15 = .ok (.istore 4, 2) := by decide +kernel
theorem d_189_17 : decode c_189 17 = .ok (.aload_n 0, 1) := by decide +kernel
theorem d_189_18 : decode c_189 18 = .ok (.getfield 127, 3) := by decide +kernel
theorem d_189_21 : decode c_189 21 = .ok (.bipush 121, 2) := by decide +kernel
theorem d_189_23 : decode c_189 23 = .ok (.iload_n 2, 1) := by decide +kernel
theorem d_189_24 : decode c_189 24 = .ok (.imul, 1) := by decide +kernel
theorem d_189_25 : decode c_189 25 = .ok (.iload_n 3, 1) := by decide +kernel
theorem d_189_26 : decode c_189 26 = .ok (.iadd, 1) := by decide +kernel
theorem d_189_27 : decode c_189 27 = .ok (.iconst 1, 1) := by decide +kernel
theorem d_189_28 : decode c_189 28 = .ok (.iadd, 1) := by decide +kernel
theorem d_189_29 : decode c_189 29 = .ok (.iaload, 1) := by decide +kernel
theorem d_189_30 : decode c_189 30 = .ok (.aload_n 0, 1) := by decide +kernel
theorem d_189_31 : decode c_189 31 = .ok (.getfield 127, 3) := by decide +kernel
theorem d_189_34 : decode c_189 34 = .ok (.bipush 121, 2) := by decide +kernel
theorem d_189_36 : decode c_189 36 = .ok (.iload_n 2, 1) := by decide +kernel
theorem d_189_37 : decode c_189 37 = .ok (.imul, 1) := by decide +kernel
theorem d_189_38 : decode c_189 38 = .ok (.iload_n 3, 1) := by decide +kernel
theorem d_189_39 : decode c_189 39 = .ok (.iadd, 1) := by decide +kernel
theorem d_189_40 : decode c_189 40 = .ok (.iaload, 1) := by decide +kernel
theorem d_189_41 : decode c_189 41 = .ok (.isub, 1) := by decide +kernel
theorem d_189_42 : decode c_189 42 = .ok (.iload 4, 2) := by decide +kernel
theorem d_189_44 : decode c_189 44 = .ok (.if_icmp .ne 7, 3) := by decide +kernel
theorem d_189_47 : decode c_189 47 = .ok (.iconst 1, 1) := by decide +kernel
theorem d_189_48 : decode c_189 48 = .ok (.goto 4, 3) := by decide +kernel
theorem d_189_51 : decode c_189 51 = .ok (.iconst 0, 1) := by decide +kernel
theorem d_189_52 : decode c_189 52 = .ok (.istore 5, 2) := by decide +kernel
theorem d_189_54 : decode c_189 54 = .ok (.iconst 0, 1) := by decide +kernel
theorem d_189_55 : decode c_189 55 = .ok (.istore 6, 2) := by decide +kernel
theorem d_189_57 : decode c_189 57 = .ok (.iload 6, 2) := by decide +kernel
theorem d_189_59 : decode c_189 59 = .ok (.iload 4, 2) := by decide +kernel
theorem d_189_61 : decode c_189 61 = .ok (.if_icmp .ge 63, 3) := by decide +kernel
theorem d_189_64 : decode c_189 64 = .ok (.iload 5, 2) := by decide +kernel
theorem d_189_66 : decode c_189 66 = .ok (.ifCond .eq 58, 3) := by decide +kernel
theorem d_189_69 : decode c_189 69 = .ok (.aload_n 0, 1) := by decide +kernel
theorem d_189_70 : decode c_189 70 = .ok (.getfield 115, 3) := by decide +kernel
theorem d_189_73 : decode c_189 73 = .ok (.aload_n 0, 1) := by decide +kernel
theorem d_189_74 : decode c_189 74 = .ok (.getfield 118, 3) := by decide +kernel
theorem d_189_77 : decode c_189 77 = .ok (.iload_n 1, 1) := by decide +kernel
theorem d_189_78 : decode c_189 78 = .ok (.iaload, 1) := by decide +kernel
theorem d_189_79 : decode c_189 79 = .ok (.iload 6, 2) := by decide +kernel
theorem d_189_81 : decode c_189 81 = .ok (.iadd, 1) := by decide +kernel
theorem d_189_82 : decode c_189 82 = .ok (.iaload, 1) := by decide +kernel
theorem d_189_83 : decode c_189 83 = .ok (.aload_n 0, 1) := by decide +kernel
theorem d_189_84 : decode c_189 84 = .ok (.getfield 131, 3) := by decide +kernel
theorem d_189_87 : decode c_189 87 = .ok (.sipush 6000, 3) := by decide +kernel
theorem d_189_90 : decode c_189 90 = .ok (.iload_n 2, 1) := by decide +kernel
theorem d_189_91 : decode c_189 91 = .ok (.imul, 1) := by decide +kernel
theorem d_189_92 : decode c_189 92 = .ok (.aload_n 0, 1) := by decide +kernel
theorem d_189_93 : decode c_189 93 = .ok (.getfield 127, 3) := by decide +kernel
theorem d_189_96 : decode c_189 96 = .ok (.bipush 121, 2) := by decide +kernel
theorem d_189_98 : decode c_189 98 = .ok (.iload_n 2, 1) := by decide +kernel
theorem d_189_99 : decode c_189 99 = .ok (.imul, 1) := by decide +kernel
theorem d_189_100 : decode c_189 100 = .ok (.iload_n 3, 1) := by decide +kernel
theorem d_189_101 : decode c_189 101 = .ok (.iadd, 1) := by decide +kernel
theorem d_189_102 : decode c_189 102 = .ok (.iaload, 1) := by decide +kernel
theorem d_189_103 : decode c_189 103 = .ok (.iadd, 1) := by decide +kernel
theorem d_189_104 : decode c_189 104 = .ok (.iload 6, 2) := by decide +kernel
theorem d_189_106 : decode c_189 106 = .ok (.iadd, 1) := by decide +kernel
theorem d_189_107 : decode c_189 107 = .ok (.iaload, 1) := by decide +kernel
theorem d_189_108 : decode c_189 108 = .ok (.if_icmp .ne 7, 3) := by decide +kernel
theorem d_189_111 : decode c_189 111 = .ok (.iconst 1, 1) := by decide +kernel
theorem d_189_112 : decode c_189 112 = .ok (.goto 4, 3) := by decide +kernel
theorem d_189_115 : decode c_189 115 = .ok (.iconst 0, 1) := by decide +kernel
theorem d_189_116 : decode c_189 116 = .ok (.istore 5, 2) := by decide +kernel
theorem d_189_118 : decode c_189 118 = .ok (.iinc 6 1, 3) := by decide +kernel
theorem d_189_121 : decode c_189 121 = .ok (.goto (-64), 3) := by decide +kernel
theorem d_189_124 : decode c_189 124 = .ok (.iload 5, 2) := by decide +kernel
theorem d_189_126 : decode c_189 126 = .ok (.ireturn, 1) := by decide +kernel
theorem d_190_0 : decode c_190 0 = .ok (.iload_n 1, 1) := by decide +kernel
theorem d_190_1 : decode c_190 1 = .ok (.iconst 1, 1) := by decide +kernel
theorem d_190_2 : decode c_190 2 = .ok (.isub, 1) := by decide +kernel
theorem d_190_3 : decode c_190 3 = .ok (.istore_n 2, 1) := by decide +kernel
theorem d_190_4 : decode c_190 4 = .ok (.iload_n 1, 1) := by decide +kernel
theorem d_190_5 : decode c_190 5 = .ok (.iconst 1, 1) := by decide +kernel
theorem d_190_6 : decode c_190 6 = .ok (.if_icmp .lt 17, 3) := by decide +kernel
theorem d_190_9 : decode c_190 9 = .ok (.iload_n 1, 1) := by decide +kernel
theorem d_190_10 : decode c_190 10 = .ok (.bipush 8, 2) := by decide +kernel
theorem d_190_12 : decode c_190 12 = .ok (.if_icmp .gt 11, 3) := by decide +kernel
theorem d_190_15 : decode c_190 15 = .ok (.iload_n 1, 1) := by decide +kernel
theorem d_190_16 : decode c_190 16 = .ok (.aload_n 0, 1) := by decide +kernel
theorem d_190_17 : decode c_190 17 = .ok (.getfield 301, 3) := by decide +kernel
theorem d_190_20 : decode c_190 20 = .ok (.if_icmp .le 5, 3) := by decide +kernel
theorem d_190_23 : decode c_190 23 = .ok (.iconst (-1), 1) := by decide +kernel
theorem d_190_24 : decode c_190 24 = .ok (.ireturn, 1) := by decide +kernel
theorem d_190_25 : decode c_190 25 = .ok (.iconst 0, 1) := by decide +kernel
theorem d_190_26 : decode c_190 26 = .ok (.istore_n 3, 1) := by decide +kernel
theorem d_190_27 : decode c_190 27 = .ok (.iconst 0, 1) := by decide +kernel
theorem d_190_28 : decode c_190 28 = .ok (.istore 4, 2) := by decide +kernel
theorem d_190_30 : decode c_190 30 = .ok (.iload 4, 2) := by decide +kernel
theorem d_190_32 : decode c_190 32 = .ok (.aload_n 0, 1) := by decide +kernel
theorem d_190_33 : decode c_190 33 = .ok (.getfield 313, 3) := by decide +kernel
theorem d_190_36 : decode c_190 36 = .ok (.if_icmp .ge 123, 3) := by decide +kernel
theorem d_190_39 : decode c_190 39 = .ok (.iconst 0, 1) := by decide +kernel
theorem d_190_40 : decode c_190 40 = .ok (.istore 5, 2) := by decide +kernel
theorem d_190_42 : decode c_190 42 = .ok (.iconst 0, 1) := by decide +kernel
theorem d_190_43 : decode c_190 43 = .ok (.istore 6, 2) := by decide +kernel
theorem d_190_45 : decode c_190 45 = .ok (.iload 6, 2) := by decide +kernel
theorem d_190_47 : decode c_190 47 = .ok (.aload_n 0, 1) := by decide +kernel
theorem d_190_48 : decode c_190 48 = .ok (.getfield 121, 3) := by decide +kernel
theorem d_190_51 : decode c_190 51 = .ok (.iload_n 2, 1) := by decide +kernel
theorem d_190_52 : decode c_190 52 = .ok (.iaload, 1) := by decide +kernel
theorem d_190_53 : decode c_190 53 = .ok (.if_icmp .ge 87, 3) := by decide +kernel
theorem d_190_56 : decode c_190 56 = .ok (.iload 5, 2) := by decide +kernel
theorem d_190_58 : decode c_190 58 = .ok (.ifCond .ne 82, 3) := by decide +kernel
theorem d_190_61 : decode c_190 61 = .ok (.aload_n 0, 1) := by decide +kernel
theorem d_190_62 : decode c_190 62 = .ok (.getfield 124, 3) := by decide +kernel
theorem d_190_65 : decode c_190 65 = .ok (.bipush 120, 2) := by decide +kernel
theorem d_190_67 : decode c_190 67 = .ok (.iload_n 2, 1) := by decide +kernel
theorem d_190_68 : decode c_190 68 = .ok (.imul, 1) := by decide +kernel
theorem d_190_69 : decode c_190 69 = .ok (.iload 6, 2) := by decide +kernel
theorem d_190_71 : decode c_190 71 = .ok (.iadd, 1) := by decide +kernel
theorem d_190_72 : decode c_190 72 = .ok (.iaload, 1) := by decide +kernel
theorem d_190_73 : decode c_190 73 = .ok (.istore 7, 2) := by decide +kernel
theorem d_190_75 : decode c_190 75 = .ok (.aload_n 0, 1) := by decide +kernel
theorem d_190_76 : decode c_190 76 = .ok (.iload 4, 2) := by decide +kernel
theorem d_190_78 : decode c_190 78 = .ok (.iload_n 2, 1) := by decide +kernel
theorem d_190_79 : decode c_190 79 = .ok (.iload 6, 2) := by decide +kernel
theorem d_190_81 : decode c_190 81 = .ok (.invokevirtual 393, 3) := by decide +kernel
theorem d_190_84 : decode c_190 84 = .ok (.ifCond .eq 47, 3) := by decide +kernel
theorem d_190_87 : decode c_190 87 = .ok (.aload_n 0, 1) := by decide +kernel
theorem d_190_88 : decode c_190 88 = .ok (.getfield 73, 3) := by decide +kernel
theorem d_190_91 : decode c_190 91 = .ok (.iload 4, 2) := by decide +kernel
theorem d_190_93 : decode c_190 93 = .ok (.iaload, 1) := by decide +kernel
theorem d_190_94 : decode c_190 94 = .ok (.ifCond .ge 11, 3) := by decide +kernel
theorem d_190_97 : decode c_190 97 = .ok (.iload 7, 2) := by decide +kernel
theorem d_190_99 : decode c_190 99 = .ok (.ifCond .ge 32, 3) := by decide +kernel
theorem d_190_102 : decode c_190 102 = .ok (.goto 25, 3) := by decide +kernel
theorem d_190_105 : decode c_190 105 = .ok (.iload 7, 2) := by decide +kernel
theorem d_190_107 : decode c_190 107 = .ok (.ifCond .lt 24, 3) := by decide +kernel
theorem d_190_110 : decode c_190 110 = .ok (.aload_n 0, 1) := by decide +kernel
theorem d_190_111 : decode c_190 111 = .ok (.aload_n 0, 1) := by decide +kernel
theorem d_190_112 : decode c_190 112 = .ok (.getfield 73, 3) := by decide +kernel
theorem d_190_115 : decode c_190 115 = .ok (.iload 4, 2) := by decide +kernel
theorem d_190_117 : decode c_190 117 = .ok (.iaload, 1) := by decide +kernel
theorem d_190_118 : decode c_190 118 = .ok (.iload_n 2, 1) := by decide +kernel
theorem d_190_119 : decode c_190 119 = .ok (.iload 7, 2) := by decide +kernel
theorem d_190_121 : decode c_190 121 = .ok (.invokevirtual 393, 3) := by decide +kernel
theorem d_190_124 : decode c_190 124 = .ok (.ifCond .eq 7, 3) := by decide +kernel
theorem d_190_127 : decode c_190 127 = .ok (.iconst 1, 1) := by decide +kernel
theorem d_190_128 : decode c_190 128 = .ok (.goto 4, 3) := by decide +kernel
theorem d_190_131 : decode c_190 131 = .ok (.iconst 0, 1) := by decide +kernel
theorem d_190_132 : decode c_190 132 = .ok (.istore 5, 2) := by decide +kernel
theorem d_190_134 : decode c_190 134 = .ok (.iinc 6 1, 3) := by decide +kernel
theorem d_190_137 : decode c_190 137 = .ok (.goto (-92), 3) := by decide +kernel
theorem d_190_140 : decode c_190 140 = .ok (.iload_n 3, 1) := by decide +kernel
theorem d_190_141 : decode c_190 141 = .ok (.iload 5, 2) := by decide +kernel
theorem d_190_143 : decode c_190 143 = .ok (.ifCond .eq 7, 3) := by decide +kernel
theorem d_190_146 : decode c_190 146 = .ok (.iconst 0, 1) := by decide +kernel
theorem d_190_147 : decode c_190 147 = .ok (.goto 4, 3) := by decide +kernel
theorem d_190_150 : decode c_190 150 = .ok (.iconst 1, 1) := by decide +kernel
theorem d_190_151 : decode c_190 151 = .ok (.iadd, 1) := by decide +kernel
theorem d_190_152 : decode c_190 152 = .ok (.istore_n 3, 1) := by decide +kernel
theorem d_190_153 : decode c_190 153 = .ok (.iinc 4 1, 3) := by decide +kernel
theorem d_190_156 : decode c_190 156 = .ok (.goto (-126), 3) := by decide +kernel
theorem d_190_159 : decode c_190 159 = .ok (.iload_n 3, 1) := by decide +kernel
theorem d_190_160 : decode c_190 160 = .ok (.ireturn, 1) := by decide +kernel
theorem d_191_0 : decode c_191 0 = .ok (.new 7, 3) := by decide +kernel
theorem d_191_3 : decode c_191 3 = .ok (.dup, 1) := by decide +kernel
theorem d_191_4 : decode c_191 4 = .ok (.invokespecial 9, 3) := by decide +kernel
theorem d_191_7 : decode c_191 7 = .ok (.astore_n 1, 1) := by decide +kernel
theorem d_191_8 : decode c_191 8 = .ok (.new 10, 3) := by decide +kernel
theorem d_191_11 : decode c_191 11 = .ok (.dup, 1) := by decide +kernel
theorem d_191_12 : decode c_191 12 = .ok (.invokespecial 12, 3) := by decide +kernel
theorem d_191_15 : decode c_191 15 = .ok (.astore_n 2, 1) := by decide +kernel
theorem d_191_16 : decode c_191 16 = .ok (.iconst 0, 1) := by decide +kernel
theorem d_191_17 : decode c_191 17 = .ok (.istore_n 3, 1) := by decide +kernel
theorem d_191_18 : decode c_191 18 = .ok (.iload_n 3, 1) := by decide +kernel
theorem d_191_19 : decode c_191 19 = .ok (.aload_n 0, 1) := by decide +kernel
theorem d_191_20 : decode c_191 20 = .ok (.arraylength, 1) := by decide +kernel
theorem d_191_21 : decode c_191 21 = .ok (.iconst 4, 1) := by decide +kernel
theorem d_191_22 : decode c_191 22 = .ok (.isub, 1) := by decide +kernel
theorem d_191_23 : decode c_191 23 = .ok (.if_icmp .gt 376, 3) := by decide +kernel
theorem d_191_26 : decode c_191 26 = .ok (.aload_n 0, 1) := by decide +kernel
theorem d_191_27 : decode c_191 27 = .ok (.iload_n 3, 1) := by decide +kernel
theorem d_191_28 : decode c_191 28 = .ok (.iaload, 1) := by decide +kernel
theorem d_191_29 : decode c_191 29 = .ok (.bipush 15, 2) := by decide +kernel
theorem d_191_31 : decode c_191 31 = .ok (.iand, 1) := by decide +kernel
theorem d_191_32 : decode c_191 32 = .ok (.tableswitch 361 0 10 #[60, 81, 94, 127, 170, 213, 246, 259, 302, 315, 338], 60) := by decide +kernel
theorem d_191_92 : decode c_191 92 = .ok (.aload_n 1, 1) := by decide +kernel
theorem d_191_93 : decode c_191 93 = .ok (.aload_n 0, 1) := by decide +kernel
theorem d_191_94 : decode c_191 94 = .ok (.iload_n 3, 1) := by decide +kernel
theorem d_191_95 : decode c_191 95 = .ok (.iconst 1, 1) := by decide +kernel
theorem d_191_96 : decode c_191 96 = .ok (.iadd, 1) := by decide +kernel
theorem d_191_97 : decode c_191 97 = .ok (.iaload, 1) := by decide +kernel
theorem d_191_98 : decode c_191 98 = .ok (.invokevirtual 13, 3) := by decide +kernel
theorem d_191_101 : decode c_191 101 = .ok (.aload_n 2, 1) := by decide +kernel
theorem d_191_102 : decode c_191 102 = .ok (.aload_n 0, 1) := by decide +kernel
theorem d_191_103 : decode c_191 103 = .ok (.iload_n 3, 1) := by decide +kernel
theorem d_191_104 : decode c_191 104 = .ok (.iconst 1, 1) := by decide +kernel
theorem d_191_105 : decode c_191 105 = .ok (.iadd, 1) := by decide +kernel
theorem d_191_106 : decode c_191 106 = .ok (.iaload, 1) := by decide +kernel
theorem d_191_107 : decode c_191 107 = .ok (.invokevirtual 17, 3) := by decide +kernel
theorem d_191_110 : decode c_191 110 = .ok (.goto 283, 3) := by decide +kernel
theorem d_191_113 : decode c_191 113 = .ok (.aload_n 1, 1) := by decide +kernel
theorem d_191_114 : decode c_191 114 = .ok (.invokevirtual 18, 3) := by decide +kernel
theorem d_191_117 : decode c_191 117 = .ok (.aload_n 2, 1) := by decide +kernel
theorem d_191_118 : decode c_191 118 = .ok (.invokevirtual 22, 3) := by decide +kernel
theorem d_191_121 : decode c_191 121 = .ok (.if_icmp .eq 272, 3) := by decide +kernel
theorem d_191_124 : decode c_191 124 = .ok (.iconst 0, 1) := by decide +kernel
theorem d_191_125 : decode c_191 125 = .ok (.ireturn, 1) := by decide +kernel
theorem d_191_126 : decode c_191 126 = .ok (.aload_n 1, 1) := by decide +kernel
theorem d_191_127 : decode c_191 127 = .ok (.aload_n 0, 1) := by decide +kernel
theorem d_191_128 : decode c_191 128 = .ok (.iload_n 3, 1) := by decide +kernel
theorem d_191_129 : decode c_191 129 = .ok (.iconst 1, 1) := by decide +kernel
theorem d_191_130 : decode c_191 130 = .ok (.iadd, 1) := by decide +kernel
theorem d_191_131 : decode c_191 131 = .ok (.iaload, 1) := by decide +kernel
theorem d_191_132 : decode c_191 132 = .ok (.aload_n 0, 1) := by decide +kernel
theorem d_191_133 : decode c_191 133 = .ok (.iload_n 3, 1) := by decide +kernel
theorem d_191_134 : decode c_191 134 = .ok (.iconst 2, 1) := by decide +kernel
theorem d_191_135 : decode c_191 135 = .ok (.iadd, 1) := by decide +kernel
theorem d_191_136 : decode c_191 136 = .ok (.iaload, 1) := by decide +kernel
theorem d_191_137 : decode c_191 137 = .ok (.invokevirtual 23, 3) := by decide +kernel
theorem d_191_140 : decode c_191 140 = .ok (.aload_n 2, 1) := by decide +kernel
theorem d_191_141 : decode c_191 141 = .ok (.aload_n 0, 1) := by decide +kernel
theorem d_191_142 : decode c_191 142 = .ok (.iload_n 3, 1) := by decide +kernel
theorem d_191_143 : decode c_191 143 = .ok (.iconst 1, 1) := by decide +kernel
theorem d_191_144 : decode c_191 144 = .ok (.iadd, 1) := by decide +kernel
theorem d_191_145 : decode c_191 145 = .ok (.iaload, 1) := by decide +kernel
theorem d_191_146 : decode c_191 146 = .ok (.aload_n 0, 1) := by decide +kernel
theorem d_191_147 : decode c_191 147 = .ok (.iload_n 3, 1) := by decide +kernel
theorem d_191_148 : decode c_191 148 = .ok (.iconst 2, 1) := by decide +kernel
theorem d_191_149 : decode c_191 149 = .ok (.iadd, 1) := by decide +kernel
theorem d_191_150 : decode c_191 150 = .ok (.iaload, 1) := by decide +kernel
theorem d_191_151 : decode c_191 151 = .ok (.invokevirtual 27, 3) := by decide +kernel
theorem d_191_154 : decode c_191 154 = .ok (.if_icmp .eq 239, 3) := by decide +kernel
theorem d_191_157 : decode c_191 157 = .ok (.iconst 0, 1) := by decide +kernel
theorem d_191_158 : decode c_191 158 = .ok (.ireturn, 1) := by decide +kernel
theorem d_191_159 : decode c_191 159 = .ok (.aload_n 1, 1) := by decide +kernel
theorem d_191_160 : decode c_191 160 = .ok (.aload_n 0, 1) := by decide +kernel
theorem d_191_161 : decode c_191 161 = .ok (.iload_n 3, 1) := by decide +kernel
theorem d_191_162 : decode c_191 162 = .ok (.iconst 1, 1) := by decide +kernel
theorem d_191_163 : decode c_191 163 = .ok (.iadd, 1) := by decide +kernel
theorem d_191_164 : decode c_191 164 = .ok (.iaload, 1) := by decide +kernel
theorem d_191_165 : decode c_191 165 = .ok (.aload_n 0, 1) := by decide +kernel
theorem d_191_166 : decode c_191 166 = .ok (.iload_n 3, 1) := by decide +kernel
theorem d_191_167 : decode c_191 167 = .ok (.iconst 2, 1) := by decide +kernel
theorem d_191_168 : decode c_191 168 = .ok (.iadd, 1) := by decide +kernel
theorem d_191_169 : decode c_191 169 = .ok (.iaload, 1) := by decide +kernel
theorem d_191_170 : decode c_191 170 = .ok (.aload_n 0, 1) := by decide +kernel
theorem d_191_171 : decode c_191 171 = .ok (.iload_n 3, 1) := by decide +kernel
theorem d_191_172 : decode c_191 172 = .ok (.iconst 3, 1) := by decide +kernel
theorem d_191_173 : decode c_191 173 = .ok (.iadd, 1) := by decide +kernel
theorem d_191_174 : decode c_191 174 = .ok (.iaload, 1) := by decide +kernel
theorem d_191_175 : decode c_191 175 = .ok (.invokevirtual 28, 3) := by decide +kernel
theorem d_191_178 : decode c_191 178 = .ok (.aload_n 2, 1) := by decide +kernel
theorem d_191_179 : decode c_191 179 = .ok (.aload_n 0, 1) := by decide +kernel
theorem d_191_180 : decode c_191 180 = .ok (.iload_n 3, 1) := by decide +kernel
theorem d_191_181 : decode c_191 181 = .ok (.iconst 1, 1) := by decide +kernel
theorem d_191_182 : decode c_191 182 = .ok (.iadd, 1) := by decide +kernel
theorem d_191_183 : decode c_191 183 = .ok (.iaload, 1) := by decide +kernel
theorem d_191_184 : decode c_191 184 = .ok (.aload_n 0, 1) := by decide +kernel
theorem d_191_185 : decode c_191 185 = .ok (.iload_n 3, 1) := by decide +kernel
theorem d_191_186 : decode c_191 186 = .ok (.iconst 2, 1) := by decide +kernel
theorem d_191_187 : decode c_191 187 = .ok (.iadd, 1) := by decide +kernel
theorem d_191_188 : decode c_191 188 = .ok (.iaload, 1) := by decide +kernel
theorem d_191_189 : decode c_191 189 = .ok (.aload_n 0, 1) := by decide +kernel
theorem d_191_190 : decode c_191 190 = .ok (.iload_n 3, 1) := by decide +kernel
theorem d_191_191 : decode c_191 191 = .ok (.iconst 3, 1) := by decide +kernel
theorem d_191_192 : decode c_191 192 = .ok (.iadd, 1) := by decide +kernel
theorem d_191_193 : decode c_191 193 = .ok (.iaload, 1) := by decide +kernel
theorem d_191_194 : decode c_191 194 = .ok (.invokevirtual 32, 3) := by decide +kernel
theorem d_191_197 : decode c_191 197 = .ok (.if_icmp .eq 196, 3) := by decide +kernel
theorem d_191_200 : decode c_191 200 = .ok (.iconst 0, 1) := by decide +kernel
theorem d_191_201 : decode c_191 201 = .ok (.ireturn, 1) := by decide +kernel
theorem d_191_202 : decode c_191 202 = .ok (.aload_n 1, 1) := by decide +kernel
theorem d_191_203 : decode c_191 203 = .ok (.aload_n 0, 1) := by decide +kernel
theorem d_191_204 : decode c_191 204 = .ok (.iload_n 3, 1) := by decide +kernel
theorem d_191_205 : decode c_191 205 = .ok (.iconst 1, 1) := by decide +kernel
theorem d_191_206 : decode c_191 206 = .ok (.iadd, 1) := by decide +kernel
theorem d_191_207 : decode c_191 207 = .ok (.iaload, 1) := by decide +kernel
theorem d_191_208 : decode c_191 208 = .ok (.aload_n 0, 1) := by decide +kernel
theorem d_191_209 : decode c_191 209 = .ok (.iload_n 3, 1) := by decide +kernel
theorem d_191_210 : decode c_191 210 = .ok (.iconst 2, 1) := by decide +kernel
theorem d_191_211 : decode c_191 211 = .ok (.iadd, 1) := by decide +kernel
theorem d_191_212 : decode c_191 212 = .ok (.iaload, 1) := by decide +kernel
theorem d_191_213 : decode c_191 213 = .ok (.aload_n 0, 1) := by decide +kernel
theorem d_191_214 : decode c_191 214 = .ok (.iload_n 3, 1) := by decide +kernel
theorem d_191_215 : decode c_191 215 = .ok (.iconst 3, 1) := by decide +kernel
theorem d_191_216 : decode c_191 216 = .ok (.iadd, 1) := by decide +kernel
theorem d_191_217 : decode c_191 217 = .ok (.iaload, 1) := by decide +kernel
theorem d_191_218 : decode c_191 218 = .ok (.invokevirtual 33, 3) := by decide +kernel
theorem d_191_221 : decode c_191 221 = .ok (.aload_n 2, 1) := by decide +kernel
theorem d_191_222 : decode c_191 222 = .ok (.aload_n 0, 1) := by decide +kernel
theorem d_191_223 : decode c_191 223 = .ok (.iload_n 3, 1) := by decide +kernel
theorem d_191_224 : decode c_191 224 = .ok (.iconst 1, 1) := by decide +kernel
theorem d_191_225 : decode c_191 225 = .ok (.iadd, 1) := by decide +kernel
theorem d_191_226 : decode c_191 226 = .ok (.iaload, 1) := by decide +kernel
theorem d_191_227 : decode c_191 227 = .ok (.aload_n 0, 1) := by decide +kernel
theorem d_191_228 : decode c_191 228 = .ok (.iload_n 3, 1) := by decide +kernel
theorem d_191_229 : decode c_191 229 = .ok (.iconst 2, 1) := by decide +kernel
theorem d_191_230 : decode c_191 230 = .ok (.iadd, 1) := by decide +kernel
theorem d_191_231 : decode c_191 231 = .ok (.iaload, 1) := by decide +kernel
theorem d_191_232 : decode c_191 232 = .ok (.aload_n 0, 1) := by decide +kernel
theorem d_191_233 : decode c_191 233 = .ok (.iload_n 3, 1) := by decide +kernel
theorem d_191_234 : decode c_191 234 = .ok (.iconst 3, 1) := by decide +kernel
theorem d_191_235 : decode c_191 235 = .ok (.iadd, 1) := by decide +kernel
theorem d_191_236 : decode c_191 236 = .ok (.iaload, 1) := by decide +kernel
theorem d_191_237 : decode c_191 237 = .ok (.invokevirtual 36, 3) := by decide +kernel
theorem d_191_240 : decode c_191 240 = .ok (.if_icmp .eq 153, 3) := by decide +kernel
theorem d_191_243 : decode c_191 243 = .ok (.iconst 0, 1) := by decide +kernel
theorem d_191_244 : decode c_191 244 = .ok (.ireturn, 1) := by decide +kernel
theorem d_191_245 : decode c_191 245 = .ok (.aload_n 1, 1) := by decide +kernel
theorem d_191_246 : decode c_191 246 = .ok (.aload_n 0, 1) := by decide +kernel
theorem d_191_247 : decode c_191 247 = .ok (.iload_n 3, 1) := by decide +kernel
theorem d_191_248 : decode c_191 248 = .ok (.iconst 1, 1) := by decide +kernel
theorem d_191_249 : decode c_191 249 = .ok (.iadd, 1) := by decide +kernel
theorem d_191_250 : decode c_191 250 = .ok (.iaload, 1) := by decide +kernel
theorem d_191_251 : decode c_191 251 = .ok (.aload_n 0, 1) := by decide +kernel
theorem d_191_252 : decode c_191 252 = .ok (.iload_n 3, 1) := by decide +kernel
theorem d_191_253 : decode c_191 253 = .ok (.iconst 2, 1) := by decide +kernel
theorem d_191_254 : decode c_191 254 = .ok (.iadd, 1) := by decide +kernel
theorem d_191_255 : decode c_191 255 = .ok (.iaload, 1) := by decide +kernel
theorem d_191_256 : decode c_191 256 = .ok (.invokevirtual 37, 3) := by decide +kernel
theorem d_191_259 : decode c_191 259 = .ok (.aload_n 2, 1) := by decide +kernel
theorem d_191_260 : decode c_191 260 = .ok (.aload_n 0, 1) := by decide +kernel
theorem d_191_261 : decode c_191 261 = .ok (.iload_n 3, 1) := by decide +kernel
theorem d_191_262 : decode c_191 262 = .ok (.iconst 1, 1) := by decide +kernel
theorem d_191_263 : decode c_191 263 = .ok (.iadd, 1) := by decide +kernel
theorem d_191_264 : decode c_191 264 = .ok (.iaload, 1) := by decide +kernel
theorem d_191_265 : decode c_191 265 = .ok (.aload_n 0, 1) := by decide +kernel
theorem d_191_266 : decode c_191 266 = .ok (.iload_n 3, 1) := by decide +kernel
theorem d_191_267 : decode c_191 267 = .ok (.iconst 2, 1) := by decide +kernel
theorem d_191_268 : decode c_191 268 = .ok (.iadd, 1) := by decide +kernel
theorem d_191_269 : decode c_191 269 = .ok (.iaload, 1) := by decide +kernel
theorem d_191_270 : decode c_191 270 = .ok (.invokevirtual 40, 3) := by decide +kernel
theorem d_191_273 : decode c_191 273 = .ok (.if_icmp .eq 120, 3) := by decide +kernel
theorem d_191_276 : decode c_191 276 = .ok (.iconst 0, 1) := by decide +kernel
theorem d_191_277 : decode c_191 277 = .ok (.ireturn, 1) := by decide +kernel
theorem d_191_278 : decode c_191 278 = .ok (.aload_n 1, 1) := by decide +kernel
theorem d_191_279 : decode c_191 279 = .ok (.invokevirtual 41, 3) := by decide +kernel
theorem d_191_282 : decode c_191 282 = .ok (.aload_n 2, 1) := by decide +kernel
theorem d_191_283 : decode c_191 283 = .ok (.invokevirtual 44, 3) := by decide +kernel
theorem d_191_286 : decode c_191 286 = .ok (.if_icmp .eq 107, 3) := by decide +kernel
theorem d_191_289 : decode c_191 289 = .ok (.iconst 0, 1) := by decide +kernel
theorem d_191_290 : decode c_191 290 = .ok (.ireturn, 1) := by decide +kernel
theorem d_191_291 : decode c_191 291 = .ok (.aload_n 1, 1) := by decide +kernel
theorem d_191_292 : decode c_191 292 = .ok (.aload_n 0, 1) := by decide +kernel
theorem d_191_293 : decode c_191 293 = .ok (.iload_n 3, 1) := by decide +kernel
theorem d_191_294 : decode c_191 294 = .ok (.iconst 1, 1) := by decide +kernel
theorem d_191_295 : decode c_191 295 = .ok (.iadd, 1) := by decide +kernel
theorem d_191_296 : decode c_191 296 = .ok (.iaload, 1) := by decide +kernel
theorem d_191_297 : decode c_191 297 = .ok (.aload_n 0, 1) := by decide +kernel
theorem d_191_298 : decode c_191 298 = .ok (.iload_n 3, 1) := by decide +kernel
theorem d_191_299 : decode c_191 299 = .ok (.iconst 2, 1) := by decide +kernel
theorem d_191_300 : decode c_191 300 = .ok (.iadd, 1) := by decide +kernel
theorem d_191_301 : decode c_191 301 = .ok (.iaload, 1) := by decide +kernel
theorem d_191_302 : decode c_191 302 = .ok (.aload_n 0, 1) := by decide +kernel
theorem d_191_303 : decode c_191 303 = .ok (.iload_n 3, 1) := by decide +kernel
theorem d_191_304 : decode c_191 304 = .ok (.iconst 3, 1) := by decide +kernel
theorem d_191_305 : decode c_191 305 = .ok (.iadd, 1) := by decide +kernel
theorem d_191_306 : decode c_191 306 = .ok (.iaload, 1) := by decide +kernel
theorem d_191_307 : decode c_191 307 = .ok (.invokevirtual 45, 3) := by decide +kernel
theorem d_191_310 : decode c_191 310 = .ok (.aload_n 2, 1) := by decide +kernel
theorem d_191_311 : decode c_191 311 = .ok (.aload_n 0, 1) := by decide +kernel
theorem d_191_312 : decode c_191 312 = .ok (.iload_n 3, 1) := by decide +kernel
theorem d_191_313 : decode c_191 313 = .ok (.iconst 1, 1) := by decide +kernel
theorem d_191_314 : decode c_191 314 = .ok (.iadd, 1) := by decide +kernel
theorem d_191_315 : decode c_191 315 = .ok (.iaload, 1) := by decide +kernel
theorem d_191_316 : decode c_191 316 = .ok (.aload_n 0, 1) := by decide +kernel
theorem d_191_317 : decode c_191 317 = .ok (.iload_n 3, 1) := by decide +kernel
theorem d_191_318 : decode c_191 318 = .ok (.iconst 2, 1) := by decide +kernel
theorem d_191_319 : decode c_191 319 = .ok (.iadd, 1) := by decide +kernel
theorem d_191_320 : decode c_191 320 = .ok (.iaload, 1) := by decide +kernel
theorem d_191_321 : decode c_191 321 = .ok (.aload_n 0, 1) := by decide +kernel
theorem d_191_322 : decode c_191 322 = .ok (.iload_n 3, 1) := by decide +kernel
theorem d_191_323 : decode c_191 323 = .ok (.iconst 3, 1) := by decide +kernel
theorem d_191_324 : decode c_191 324 = .ok (.iadd, 1) := by decide +kernel
theorem d_191_325 : decode c_191 325 = .ok (.iaload, 1) := by decide +kernel
theorem d_191_326 : decode c_191 326 = .ok (.invokevirtual 48, 3) := by decide +kernel
theorem d_191_329 : decode c_191 329 = .ok (.if_icmp .eq 64, 3) := by decide +kernel
theorem d_191_332 : decode c_191 332 = .ok (.iconst 0, 1) := by decide +kernel
theorem d_191_333 : decode c_191 333 = .ok (.ireturn, 1) := by decide +kernel
theorem d_191_334 : decode c_191 334 = .ok (.aload_n 1, 1) := by decide +kernel
theorem d_191_335 : decode c_191 335 = .ok (.invokevirtual 49, 3) := by decide +kernel
theorem d_191_338 : decode c_191 338 = .ok (.aload_n 2, 1) := by decide +kernel
theorem d_191_339 : decode c_191 339 = .ok (.invokevirtual 52, 3) := by decide +kernel
theorem d_191_342 : decode c_191 342 = .ok (.if_icmp .eq 51, 3) := by decide +kernel
theorem d_191_345 : decode c_191 345 = .ok (.iconst 0, 1) := by decide +kernel
theorem d_191_346 : decode c_191 346 = .ok (.ireturn, 1) := by decide +kernel
theorem d_191_347 : decode c_191 347 = .ok (.aload_n 1, 1) := by decide +kernel
theorem d_191_348 : decode c_191 348 = .ok (.aload_n 0, 1) := by decide +kernel
theorem d_191_349 : decode c_191 349 = .ok (.iload_n 3, 1) := by decide +kernel
theorem d_191_350 : decode c_191 350 = .ok (.iconst 1, 1) := by decide +kernel
theorem d_191_351 : decode c_191 351 = .ok (.iadd, 1) := by decide +kernel
theorem d_191_352 : decode c_191 352 = .ok (.iaload, 1) := by decide +kernel
theorem d_191_353 : decode c_191 353 = .ok (.invokevirtual 53, 3) := by decide +kernel
theorem d_191_356 : decode c_191 356 = .ok (.aload_n 2, 1) := by decide +kernel
theorem d_191_357 : decode c_191 357 = .ok (.aload_n 0, 1) := by decide +kernel
theorem d_191_358 : decode c_191 358 = .ok (.iload_n 3, 1) := by decide +kernel
theorem d_191_359 : decode c_191 359 = .ok (.iconst 1, 1) := by decide +kernel
theorem d_191_360 : decode c_191 360 = .ok (.iadd, 1) := by decide +kernel
theorem d_191_361 : decode c_191 361 = .ok (.iaload, 1) := by decide +kernel
theorem d_191_362 : decode c_191 362 = .ok (.invokevirtual 57, 3) := by decide +kernel
theorem d_191_365 : decode c_191 365 = .ok (.if_icmp .eq 28, 3) := by decide +kernel
theorem d_191_368 : decode c_191 368 = .ok (.iconst 0, 1) := by decide +kernel
theorem d_191_369 : decode c_191 369 = .ok (.ireturn, 1) := by decide +kernel
theorem d_191_370 : decode c_191 370 = .ok (.aload_n 1, 1) := by decide +kernel
theorem d_191_371 : decode c_191 371 = .ok (.aload_n 0, 1) := by decide +kernel
theorem d_191_372 : decode c_191 372 = .ok (.iload_n 3, 1) := by decide +kernel
theorem d_191_373 : decode c_191 373 = .ok (.iconst 1, 1) := by decide +kernel
theorem d_191_374 : decode c_191 374 = .ok (.iadd, 1) := by decide +kernel
theorem d_191_375 : decode c_191 375 = .ok (.iaload, 1) := by decide +kernel
theorem d_191_376 : decode c_191 376 = .ok (.invokevirtual 58, 3) := by decide +kernel
theorem d_191_379 : decode c_191 379 = .ok (.aload_n 2, 1) := by decide +kernel
theorem d_191_380 : decode c_191 380 = .ok (.aload_n 0, 1) := by decide +kernel
theorem d_191_381 : decode c_191 381 = .ok (.iload_n 3, 1) := by decide +kernel
theorem d_191_382 : decode c_191 382 = .ok (.iconst 1, 1) := by decide +kernel
theorem d_191_383 : decode c_191 383 = .ok (.iadd, 1) := by decide +kernel
theorem d_191_384 : decode c_191 384 = .ok (.iaload, 1) := by decide +kernel
theorem d_191_385 : decode c_191 385 = .ok (.invokevirtual 61, 3) := by decide +kernel
theorem d_191_388 : decode c_191 388 = .ok (.if_icmp .eq 5, 3) := by decide +kernel
theorem d_191_391 : decode c_191 391 = .ok (.iconst 0, 1) := by decide +kernel
theorem d_191_392 : decode c_191 392 = .ok (.ireturn, 1) := by decide +kernel
theorem d_191_393 : decode c_191 393 = .ok (.iinc 3 4, 3) := by decide +kernel
theorem d_191_396 : decode c_191 396 = .ok (.goto (-378), 3) := by decide +kernel
theorem d_191_399 : decode c_191 399 = .ok (.iconst 1, 1) := by decide +kernel
theorem d_191_400 : decode c_191 400 = .ok (.ireturn, 1) := by decide +kernel
