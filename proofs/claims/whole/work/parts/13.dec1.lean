theorem d_52_142 : decode c_52 142 = .ok (.aload_n 0, 1) := by decide +kernel
theorem d_52_143 : decode c_52 143 = .ok (.aload_n 1, 1) := by decide +kernel
theorem d_52_144 : decode c_52 144 = .ok (.iload_n 2, 1) := by decide +kernel
theorem d_52_145 : decode c_52 145 = .ok (.invokevirtual 87, 3) := by decide +kernel
theorem d_52_148 : decode c_52 148 = .ok (.ireturn, 1) := by decide +kernel
theorem d_53_0 : decode c_53 0 = .ok (.aload_n 0, 1) := by decide +kernel
theorem d_53_1 : decode c_53 1 = .ok (.getfield 32, 3) := by decide +kernel
theorem d_53_4 : decode c_53 4 = .ok (.lreturn, 1) := by decide +kernel
theorem d_54_0 : decode c_54 0 = .ok (.iconst 0, 1) := by decide +kernel
theorem d_54_1 : decode c_54 1 = .ok (.istore_n 3, 1) := by decide +kernel
theorem d_54_2 : decode c_54 2 = .ok (.iload_n 3, 1) := by decide +kernel
theorem d_54_3 : decode c_54 3 = .ok (.aload_n 0, 1) := by decide +kernel
theorem d_54_4 : decode c_54 4 = .ok (.getfield 27, 3) := by decide +kernel
theorem d_54_7 : decode c_54 7 = .ok (.if_icmp .ge 24, 3) := by decide +kernel
theorem d_54_10 : decode c_54 10 = .ok (.aload_n 0, 1) := by decide +kernel
theorem d_54_11 : decode c_54 11 = .ok (.getfield 23, 3) := by decide +kernel
theorem d_54_14 : decode c_54 14 = .ok (.iload_n 3, 1) := by decide +kernel
theorem d_54_15 : decode c_54 15 = .ok (.laload, 1) := by decide +kernel
theorem d_54_16 : decode c_54 16 = .ok (.lload_n 1, 1) := by decide +kernel
theorem d_54_17 : decode c_54 17 = .ok (.lcmp, 1) := by decide +kernel
theorem d_54_18 : decode c_54 18 = .ok (.ifCond .ne 7, 3) := by decide +kernel
theorem d_54_21 : decode c_54 21 = .ok (.iload_n 3, 1) := by decide +kernel
theorem d_54_22 : decode c_54 22 = .ok (.iconst 1, 1) := by decide +kernel
theorem d_54_23 : decode c_54 23 = .ok (.iadd, 1) := by decide +kernel
theorem d_54_24 : decode c_54 24 = .ok (.ireturn, 1) := by decide +kernel
theorem d_54_25 : decode c_54 25 = .ok (.iinc 3 1, 3) := by decide +kernel
theorem d_54_28 : decode c_54 28 = .ok (.goto (-26), 3) := by decide +kernel
theorem d_54_31 : decode c_54 31 = .ok (.aload_n 0, 1) := by decide +kernel
theorem d_54_32 : decode c_54 32 = .ok (.getfield 27, 3) := by decide +kernel
theorem d_54_35 : decode c_54 35 = .ok (.sipush 1000, 3) := by decide +kernel
theorem d_54_38 : decode c_54 38 = .ok (.if_icmp .lt 5, 3) := by decide +kernel
theorem d_54_41 : decode c_54 41 = .ok (.iconst 0, 1) := by decide +kernel
theorem d_54_42 : decode c_54 42 = .ok (.ireturn, 1) := by decide +kernel
theorem d_54_43 : decode c_54 43 = .ok (.aload_n 0, 1) := by decide +kernel
theorem d_54_44 : decode c_54 44 = .ok (.getfield 23, 3) := by decide +kernel
theorem d_54_47 : decode c_54 47 = .ok (.aload_n 0, 1) := by decide +kernel
theorem d_54_48 : decode c_54 48 = .ok (.getfield 27, 3) := by decide +kernel
theorem d_54_51 : decode c_54 51 = .ok (.lload_n 1, 1) := by decide +kernel
theorem d_54_52 : decode c_54 52 = .ok (.lastore, 1) := by decide +kernel
theorem d_54_53 : decode c_54 53 = .ok (.aload_n 0, 1) := by decide +kernel
theorem d_54_54 : decode c_54 54 = .ok (.dup, 1) := by decide +kernel
theorem d_54_55 : decode c_54 55 = .ok (.getfield 27, 3) := by decide +kernel
theorem d_54_58 : decode c_54 58 = .ok (.iconst 1, 1) := by decide +kernel
theorem d_54_59 : decode c_54 59 = .ok (.iadd, 1) := by decide +kernel
theorem d_54_60 : decode c_54 60 = .ok (.putfield 27, 3) := by decide +kernel
theorem d_54_63 : decode c_54 63 = .ok (.aload_n 0, 1) := by decide +kernel
theorem d_54_64 : decode c_54 64 = .ok (.getfield 27, 3) := by decide +kernel
theorem d_54_67 : decode c_54 67 = .ok (.ireturn, 1) := by decide +kernel
theorem d_55_0 : decode c_55 0 = .ok (.aload_n 0, 1) := by decide +kernel
theorem d_55_1 : decode c_55 1 = .ok (.getfield 26, 3) := by decide +kernel
theorem d_55_4 : decode c_55 4 = .ok (.iconst 3, 1) := by decide +kernel
theorem d_55_5 : decode c_55 5 = .ok (.if_icmp .ne 23, 3) := by decide +kernel
theorem d_55_8 : decode c_55 8 = .ok (.aload_n 0, 1) := by decide +kernel
theorem d_55_9 : decode c_55 9 = .ok (.getfield 29, 3) := by decide +kernel
theorem d_55_12 : decode c_55 12 = .ok (.iload_n 1, 1) := by decide +kernel
theorem d_55_13 : decode c_55 13 = .ok (.if_icmp .lt 15, 3) := by decide +kernel
theorem d_55_16 : decode c_55 16 = .ok (.aload_n 0, 1) := by decide +kernel
theorem d_55_17 : decode c_55 17 = .ok (.getfield 29, 3) := by decide +kernel
theorem d_55_20 : decode c_55 20 = .ok (.iload_n 2, 1) := by decide +kernel
theorem d_55_21 : decode c_55 21 = .ok (.if_icmp .gt 7, 3) := by decide +kernel
theorem d_55_24 : decode c_55 24 = .ok (.iconst 1, 1) := by decide +kernel
theorem d_55_25 : decode c_55 25 = .ok (.goto 4, 3) := by decide +kernel
theorem d_55_28 : decode c_55 28 = .ok (.iconst 0, 1) := by decide +kernel
theorem d_55_29 : decode c_55 29 = .ok (.ireturn, 1) := by decide +kernel
theorem d_56_0 : decode c_56 0 = .ok (.aload_n 0, 1) := by decide +kernel
theorem d_56_1 : decode c_56 1 = .ok (.getfield 31, 3) := by decide +kernel
theorem d_56_4 : decode c_56 4 = .ok (.ifCond .ne 32, 3) := by decide +kernel
theorem d_56_7 : decode c_56 7 = .ok (.aload_n 0, 1) := by decide +kernel
theorem d_56_8 : decode c_56 8 = .ok (.getfield 9, 3) := by decide +kernel
theorem d_56_11 : decode c_56 11 = .ok (.bipush 45, 2) := by decide +kernel
theorem d_56_13 : decode c_56 13 = .ok (.invokevirtual 78, 3) := by decide +kernel
theorem d_56_16 : decode c_56 16 = .ok (.ifCond .eq 20, 3) := by decide +kernel
theorem d_56_19 : decode c_56 19 = .ok (.aload_n 0, 1) := by decide +kernel
theorem d_56_20 : decode c_56 20 = .ok (.iconst 1, 1) := by decide +kernel
theorem d_56_21 : decode c_56 21 = .ok (.putfield 31, 3) := by decide +kernel
theorem d_56_24 : decode c_56 24 = .ok (.aload_n 0, 1) := by decide +kernel
theorem d_56_25 : decode c_56 25 = .ok (.dup, 1) := by decide +kernel
theorem d_56_26 : decode c_56 26 = .ok (.getfield 25, 3) := by decide +kernel
theorem d_56_29 : decode c_56 29 = .ok (.iconst 1, 1) := by decide +kernel
theorem d_56_30 : decode c_56 30 = .ok (.isub, 1) := by decide +kernel
theorem d_56_31 : decode c_56 31 = .ok (.putfield 25, 3) := by decide +kernel
theorem d_56_34 : decode c_56 34 = .ok (.iconst 1, 1) := by decide +kernel
theorem d_56_35 : decode c_56 35 = .ok (.ireturn, 1) := by decide +kernel
theorem d_56_36 : decode c_56 36 = .ok (.aload_n 0, 1) := by decide +kernel
theorem d_56_37 : decode c_56 37 = .ok (.getfield 31, 3) := by decide +kernel
theorem d_56_40 : decode c_56 40 = .ok (.ifCond .eq 14, 3) := by decide +kernel
theorem d_56_43 : decode c_56 43 = .ok (.aload_n 0, 1) := by decide +kernel
theorem d_56_44 : decode c_56 44 = .ok (.getfield 9, 3) := by decide +kernel
theorem d_56_47 : decode c_56 47 = .ok (.invokevirtual 101, 3) := by decide +kernel
theorem d_56_50 : decode c_56 50 = .ok (.ineg, 1) := by decide +kernel
theorem d_56_51 : decode c_56 51 = .ok (.goto 10, 3) := by decide +kernel
theorem d_56_54 : decode c_56 54 = .ok (.aload_n 0, 1) := by decide +kernel
theorem d_56_55 : decode c_56 55 = .ok (.getfield 9, 3) := by decide +kernel
theorem d_56_58 : decode c_56 58 = .ok (.invokevirtual 101, 3) := by decide +kernel
theorem d_56_61 : decode c_56 61 = .ok (.istore_n 2, 1) := by decide +kernel
theorem d_56_62 : decode c_56 62 = .ok (.aload_n 0, 1) := by decide +kernel
theorem d_56_63 : decode c_56 63 = .ok (.iconst 0, 1) := by decide +kernel
theorem d_56_64 : decode c_56 64 = .ok (.putfield 31, 3) := by decide +kernel
theorem d_56_67 : decode c_56 67 = .ok (.aload_n 0, 1) := by decide +kernel
theorem d_56_68 : decode c_56 68 = .ok (.getfield 9, 3) := by decide +kernel
theorem d_56_71 : decode c_56 71 = .ok (.invokevirtual 52, 3) := by decide +kernel
theorem d_56_74 : decode c_56 74 = .ok (.iconst 3, 1) := by decide +kernel
theorem d_56_75 : decode c_56 75 = .ok (.if_icmp .ne 16, 3) := by decide +kernel
theorem d_56_78 : decode c_56 78 = .ok (.aload_n 0, 1) := by decide +kernel
theorem d_56_79 : decode c_56 79 = .ok (.aload_n 1, 1) := by decide +kernel
theorem d_56_80 : decode c_56 80 = .ok (.iload_n 2, 1) := by decide +kernel
theorem d_56_81 : decode c_56 81 = .ok (.invokevirtual 87, 3) := by decide +kernel
theorem d_56_84 : decode c_56 84 = .ok (.ifCond .eq 7, 3) := by decide +kernel
theorem d_56_87 : decode c_56 87 = .ok (.iconst 1, 1) := by decide +kernel
theorem d_56_88 : decode c_56 88 = .ok (.goto 4, 3) := by decide +kernel
theorem d_56_91 : decode c_56 91 = .ok (.iconst 0, 1) := by decide +kernel
theorem d_56_92 : decode c_56 92 = .ok (.ireturn, 1) := by decide +kernel
theorem d_57_0 : decode c_57 0 = .ok (.aload_n 0, 1) := by decide +kernel
theorem d_57_1 : decode c_57 1 = .ok (.getfield 28, 3) := by decide +kernel
theorem d_57_4 : decode c_57 4 = .ok (.bipush 8, 2) := by decide +kernel
theorem d_57_6 : decode c_57 6 = .ok (.if_icmp .ge 45, 3) := by decide +kernel
theorem d_57_9 : decode c_57 9 = .ok (.aload_n 0, 1) := by decide +kernel
theorem d_57_10 : decode c_57 10 = .ok (.getfield 9, 3) := by decide +kernel
theorem d_57_13 : decode c_57 13 = .ok (.sipush 6144, 3) := by decide +kernel
theorem d_57_16 : decode c_57 16 = .ok (.invokevirtual 98, 3) := by decide +kernel
theorem d_57_19 : decode c_57 19 = .ok (.ifCond .eq 32, 3) := by decide +kernel
theorem d_57_22 : decode c_57 22 = .ok (.aload_n 0, 1) := by decide +kernel
theorem d_57_23 : decode c_57 23 = .ok (.dup, 1) := by decide +kernel
theorem d_57_24 : decode c_57 24 = .ok (.getfield 28, 3) := by decide +kernel
theorem d_57_27 : decode c_57 27 = .ok (.iconst 1, 1) := by decide +kernel
theorem d_57_28 : decode c_57 28 = .ok (.iadd, 1) := by decide +kernel
theorem d_57_29 : decode c_57 29 = .ok (.putfield 28, 3) := by decide +kernel
theorem d_57_32 : decode c_57 32 = .ok (.aload_n 0, 1) := by decide +kernel
theorem d_57_33 : decode c_57 33 = .ok (.ldc 150, 2) := by decide +kernel
theorem d_57_35 : decode c_57 35 = .ok (.invokevirtual 45, 3) := by decide +kernel
theorem d_57_38 : decode c_57 38 = .ok (.aload_n 0, 1) := by decide +kernel
theorem d_57_39 : decode c_57 39 = .ok (.aload_n 1, 1) := by decide +kernel
theorem d_57_40 : decode c_57 40 = .ok (.aload_n 0, 1) := by decide +kernel
theorem d_57_41 : decode c_57 41 = .ok (.getfield 9, 3) := by decide +kernel
theorem d_57_44 : decode c_57 44 = .ok (.invokevirtual 101, 3) := by decide +kernel
theorem d_57_47 : decode c_57 47 = .ok (.invokevirtual 87, 3) := by decide +kernel
theorem d_57_50 : decode c_57 50 = .ok (.ireturn, 1) := by decide +kernel
theorem d_57_51 : decode c_57 51 = .ok (.aload_n 0, 1) := by decide +kernel
theorem d_57_52 : decode c_57 52 = .ok (.getfield 9, 3) := by decide +kernel
theorem d_57_55 : decode c_57 55 = .ok (.bipush 59, 2) := by decide +kernel
theorem d_57_57 : decode c_57 57 = .ok (.invokevirtual 78, 3) := by decide +kernel
theorem d_57_60 : decode c_57 60 = .ok (.ifCond .eq 17, 3) := by decide +kernel
theorem d_57_63 : decode c_57 63 = .ok (.aload_n 0, 1) := by decide +kernel
theorem d_57_64 : decode c_57 64 = .ok (.aload_n 1, 1) := by decide +kernel
theorem d_57_65 : decode c_57 65 = .ok (.bipush 59, 2) := by decide +kernel
theorem d_57_67 : decode c_57 67 = .ok (.invokevirtual 87, 3) := by decide +kernel
theorem d_57_70 : decode c_57 70 = .ok (.ifCond .eq 7, 3) := by decide +kernel
theorem d_57_73 : decode c_57 73 = .ok (.iconst 1, 1) := by decide +kernel
theorem d_57_74 : decode c_57 74 = .ok (.goto 4, 3) := by decide +kernel
theorem d_57_77 : decode c_57 77 = .ok (.iconst 0, 1) := by decide +kernel
theorem d_57_78 : decode c_57 78 = .ok (.ireturn, 1) := by decide +kernel
theorem d_58_0 : decode c_58 0 = .ok (.aload_n 0, 1) := by decide +kernel
theorem d_58_1 : decode c_58 1 = .ok (.getfield 9, 3) := by decide +kernel
theorem d_58_4 : decode c_58 4 = .ok (.sipush 512, 3) := by decide +kernel
theorem d_58_7 : decode c_58 7 = .ok (.invokevirtual 98, 3) := by decide +kernel
theorem d_58_10 : decode c_58 10 = .ok (.ifCond .eq 18, 3) := by decide +kernel
theorem d_58_13 : decode c_58 13 = .ok (.aload_n 0, 1) := by decide +kernel
theorem d_58_14 : decode c_58 14 = .ok (.ldc 148, 2) := by decide +kernel
theorem d_58_16 : decode c_58 16 = .ok (.invokevirtual 45, 3) := by decide +kernel
theorem d_58_19 : decode c_58 19 = .ok (.aload_n 0, 1) := by decide +kernel
theorem d_58_20 : decode c_58 20 = .ok (.aload_n 1, 1) := by decide +kernel
theorem d_58_21 : decode c_58 21 = .ok (.sipush 512, 3) := by decide +kernel
theorem d_58_24 : decode c_58 24 = .ok (.invokevirtual 87, 3) := by decide +kernel
theorem d_58_27 : decode c_58 27 = .ok (.ireturn, 1) := by decide +kernel
theorem d_58_28 : decode c_58 28 = .ok (.aload_n 0, 1) := by decide +kernel
theorem d_58_29 : decode c_58 29 = .ok (.getfield 9, 3) := by decide +kernel
theorem d_58_32 : decode c_58 32 = .ok (.sipush 1024, 3) := by decide +kernel
theorem d_58_35 : decode c_58 35 = .ok (.invokevirtual 98, 3) := by decide +kernel
theorem d_58_38 : decode c_58 38 = .ok (.ifCond .eq 18, 3) := by decide +kernel
theorem d_58_41 : decode c_58 41 = .ok (.aload_n 0, 1) := by decide +kernel
theorem d_58_42 : decode c_58 42 = .ok (.ldc 150, 2) := by decide +kernel
theorem d_58_44 : decode c_58 44 = .ok (.invokevirtual 45, 3) := by decide +kernel
theorem d_58_47 : decode c_58 47 = .ok (.aload_n 0, 1) := by decide +kernel
theorem d_58_48 : decode c_58 48 = .ok (.aload_n 1, 1) := by decide +kernel
theorem d_58_49 : decode c_58 49 = .ok (.sipush 1024, 3) := by decide +kernel
theorem d_58_52 : decode c_58 52 = .ok (.invokevirtual 87, 3) := by decide +kernel
theorem d_58_55 : decode c_58 55 = .ok (.ireturn, 1) := by decide +kernel
theorem d_58_56 : decode c_58 56 = .ok (.aload_n 0, 1) := by decide +kernel
theorem d_58_57 : decode c_58 57 = .ok (.aload_n 1, 1) := by decide +kernel
theorem d_58_58 : decode c_58 58 = .ok (.invokevirtual 145, 3) := by decide +kernel
theorem d_58_61 : decode c_58 61 = .ok (.ireturn, 1) := by decide +kernel
theorem d_59_0 : decode c_59 0 = .ok (.aload_n 0, 1) := by decide +kernel
theorem d_59_1 : decode c_59 1 = .ok (.getfield 25, 3) := by decide +kernel
theorem d_59_4 : decode c_59 4 = .ok (.aload_n 0, 1) := by decide +kernel
theorem d_59_5 : decode c_59 5 = .ok (.getfield 21, 3) := by decide +kernel
theorem d_59_8 : decode c_59 8 = .ok (.invokevirtual 70, 3) := by decide +kernel
theorem d_59_11 : decode c_59 11 = .ok (.if_icmp .ge 17, 3) := by decide +kernel
theorem d_59_14 : decode c_59 14 = .ok (.aload_n 0, 1) := by decide +kernel
theorem d_59_15 : decode c_59 15 = .ok (.getfield 21, 3) := by decide +kernel
theorem d_59_18 : decode c_59 18 = .ok (.aload_n 0, 1) := by decide +kernel
theorem d_59_19 : decode c_59 19 = .ok (.getfield 25, 3) := by decide +kernel
theorem d_59_22 : decode c_59 22 = .ok (.invokevirtual 121, 3) := by decide +kernel
theorem d_59_25 : decode c_59 25 = .ok (.goto 5, 3) := by decide +kernel
theorem d_59_28 : decode c_59 28 = .ok (.bipush 59, 2) := by decide +kernel
theorem d_59_30 : decode c_59 30 = .ok (.istore_n 2, 1) := by decide +kernel
theorem d_59_31 : decode c_59 31 = .ok (.aload_n 0, 1) := by decide +kernel
theorem d_59_32 : decode c_59 32 = .ok (.dup, 1) := by decide +kernel
theorem d_59_33 : decode c_59 33 = .ok (.getfield 25, 3) := by decide +kernel
theorem d_59_36 : decode c_59 36 = .ok (.iconst 1, 1) := by decide +kernel
theorem d_59_37 : decode c_59 37 = .ok (.iadd, 1) := by decide +kernel
theorem d_59_38 : decode c_59 38 = .ok (.putfield 25, 3) := by decide +kernel
theorem d_59_41 : decode c_59 41 = .ok (.iload_n 2, 1) := by decide +kernel
theorem d_59_42 : decode c_59 42 = .ok (.lookupswitch 217 #[(65, 211), (78, 66), (81, 102), (82, 205), (84, 177), (86, 171), (90, 137)], 66) := by decide +kernel
theorem d_59_108 : decode c_59 108 = .ok (.aload_n 0, 1) := by decide +kernel
theorem d_59_109 : decode c_59 109 = .ok (.getfield 9, 3) := by decide +kernel
theorem d_59_112 : decode c_59 112 = .ok (.invokevirtual 52, 3) := by decide +kernel
theorem d_59_115 : decode c_59 115 = .ok (.iconst 2, 1) := by decide +kernel
theorem d_59_116 : decode c_59 116 = .ok (.if_icmp .ne 26, 3) := by decide +kernel
theorem d_59_119 : decode c_59 119 = .ok (.aload_n 0, 1) := by decide +kernel
theorem d_59_120 : decode c_59 120 = .ok (.aload_n 1, 1) := by decide +kernel
theorem d_59_121 : decode c_59 121 = .ok (.aload_n 1, 1) := by decide +kernel
theorem d_59_122 : decode c_59 122 = .ok (.aload_n 0, 1) := by decide +kernel
theorem d_59_123 : decode c_59 123 = .ok (.getfield 9, 3) := by decide +kernel
theorem d_59_126 : decode c_59 126 = .ok (.invokevirtual 125, 3) := by decide +kernel
theorem d_59_129 : decode c_59 129 = .ok (.invokevirtual 129, 3) := by decide +kernel
theorem d_59_132 : decode c_59 132 = .ok (.invokevirtual 87, 3) := by decide +kernel
theorem d_59_135 : decode c_59 135 = .ok (.ifCond .eq 7, 3) := by decide +kernel
theorem d_59_138 : decode c_59 138 = .ok (.iconst 1, 1) := by decide +kernel
theorem d_59_139 : decode c_59 139 = .ok (.goto 4, 3) := by decide +kernel
theorem d_59_142 : decode c_59 142 = .ok (.iconst 0, 1) := by decide +kernel
theorem d_59_143 : decode c_59 143 = .ok (.ireturn, 1) := by decide +kernel
theorem d_59_144 : decode c_59 144 = .ok (.aload_n 0, 1) := by decide +kernel
theorem d_59_145 : decode c_59 145 = .ok (.getfield 9, 3) := by decide +kernel
theorem d_59_148 : decode c_59 148 = .ok (.iconst 1, 1) := by decide +kernel
theorem d_59_149 : decode c_59 149 = .ok (.sipush 9999, 3) := by decide +kernel
theorem d_59_152 : decode c_59 152 = .ok (.invokevirtual 133, 3) := by decide +kernel
theorem d_59_155 : decode c_59 155 = .ok (.ifCond .eq 22, 3) := by decide +kernel
theorem d_59_158 : decode c_59 158 = .ok (.aload_n 0, 1) := by decide +kernel
theorem d_59_159 : decode c_59 159 = .ok (.aload_n 1, 1) := by decide +kernel
theorem d_59_160 : decode c_59 160 = .ok (.aload_n 0, 1) := by decide +kernel
theorem d_59_161 : decode c_59 161 = .ok (.getfield 9, 3) := by decide +kernel
theorem d_59_164 : decode c_59 164 = .ok (.invokevirtual 101, 3) := by decide +kernel
theorem d_59_167 : decode c_59 167 = .ok (.invokevirtual 87, 3) := by decide +kernel
theorem d_59_170 : decode c_59 170 = .ok (.ifCond .eq 7, 3) := by decide +kernel
theorem d_59_173 : decode c_59 173 = .ok (.iconst 1, 1) := by decide +kernel
theorem d_59_174 : decode c_59 174 = .ok (.goto 4, 3) := by decide +kernel
theorem d_59_177 : decode c_59 177 = .ok (.iconst 0, 1) := by decide +kernel
theorem d_59_178 : decode c_59 178 = .ok (.ireturn, 1) := by decide +kernel
theorem d_59_179 : decode c_59 179 = .ok (.aload_n 0, 1) := by decide +kernel
theorem d_59_180 : decode c_59 180 = .ok (.getfield 9, 3) := by decide +kernel
theorem d_59_183 : decode c_59 183 = .ok (.iconst 1, 1) := by decide +kernel
theorem d_59_184 : decode c_59 184 = .ok (.ldc 137, 2) := by decide +kernel
theorem d_59_186 : decode c_59 186 = .ok (.invokevirtual 133, 3) := by decide +kernel
theorem d_59_189 : decode c_59 189 = .ok (.ifCond .eq 22, 3) := by decide +kernel
theorem d_59_192 : decode c_59 192 = .ok (.aload_n 0, 1) := by decide +kernel
theorem d_59_193 : decode c_59 193 = .ok (.aload_n 1, 1) := by decide +kernel
theorem d_59_194 : decode c_59 194 = .ok (.aload_n 0, 1) := by decide +kernel
theorem d_59_195 : decode c_59 195 = .ok (.getfield 9, 3) := by decide +kernel
theorem d_59_198 : decode c_59 198 = .ok (.invokevirtual 101, 3) := by decide +kernel
theorem d_59_201 : decode c_59 201 = .ok (.invokevirtual 87, 3) := by decide +kernel
theorem d_59_204 : decode c_59 204 = .ok (.ifCond .eq 7, 3) := by decide +kernel
theorem d_59_207 : decode c_59 207 = .ok (.iconst 1, 1) := by decide +kernel
theorem d_59_208 : decode c_59 208 = .ok (.goto 4, 3) := by decide +kernel
theorem d_59_211 : decode c_59 211 = .ok (.iconst 0, 1) := by decide +kernel
theorem d_59_212 : decode c_59 212 = .ok (.ireturn, 1) := by decide +kernel
theorem d_59_213 : decode c_59 213 = .ok (.aload_n 0, 1) := by decide +kernel
theorem d_59_214 : decode c_59 214 = .ok (.aload_n 1, 1) := by decide +kernel
theorem d_59_215 : decode c_59 215 = .ok (.invokevirtual 138, 3) := by decide +kernel
theorem d_59_218 : decode c_59 218 = .ok (.ireturn, 1) := by decide +kernel
theorem d_59_219 : decode c_59 219 = .ok (.aload_n 0, 1) := by decide +kernel
theorem d_59_220 : decode c_59 220 = .ok (.getfield 9, 3) := by decide +kernel
theorem d_59_223 : decode c_59 223 = .ok (.ldc 141, 2) := by decide +kernel
theorem d_59_225 : decode c_59 225 = .ok (.invokevirtual 98, 3) := by decide +kernel
theorem d_59_228 : decode c_59 228 = .ok (.ifCond .eq 17, 3) := by decide +kernel
theorem d_59_231 : decode c_59 231 = .ok (.aload_n 0, 1) := by decide +kernel
theorem d_59_232 : decode c_59 232 = .ok (.aload_n 1, 1) := by decide +kernel
theorem d_59_233 : decode c_59 233 = .ok (.ldc 141, 2) := by decide +kernel
theorem d_59_235 : decode c_59 235 = .ok (.invokevirtual 87, 3) := by decide +kernel
theorem d_59_238 : decode c_59 238 = .ok (.ifCond .eq 7, 3) := by decide +kernel
theorem d_59_241 : decode c_59 241 = .ok (.iconst 1, 1) := by decide +kernel
theorem d_59_242 : decode c_59 242 = .ok (.goto 4, 3) := by decide +kernel
theorem d_59_245 : decode c_59 245 = .ok (.iconst 0, 1) := by decide +kernel
theorem d_59_246 : decode c_59 246 = .ok (.ireturn, 1) := by decide +kernel
theorem d_59_247 : decode c_59 247 = .ok (.aload_n 0, 1) := by decide +kernel
theorem d_59_248 : decode c_59 248 = .ok (.aload_n 1, 1) := by decide +kernel
theorem d_59_249 : decode c_59 249 = .ok (.invokevirtual 142, 3) := by decide +kernel
theorem d_59_252 : decode c_59 252 = .ok (.ireturn, 1) := by decide +kernel
theorem d_59_253 : decode c_59 253 = .ok (.aload_n 0, 1) := by decide +kernel
theorem d_59_254 : decode c_59 254 = .ok (.aload_n 1, 1) := by decide +kernel
theorem d_59_255 : decode c_59 255 = .ok (.invokevirtual 145, 3) := by decide +kernel
theorem d_59_258 : decode c_59 258 = .ok (.ireturn, 1) := by decide +kernel
theorem d_59_259 : decode c_59 259 = .ok (.aload_n 0, 1) := by decide +kernel
theorem d_59_260 : decode c_59 260 = .ok (.getfield 9, 3) := by decide +kernel
theorem d_59_263 : decode c_59 263 = .ok (.iload_n 2, 1) := by decide +kernel
theorem d_59_264 : decode c_59 264 = .ok (.invokevirtual 78, 3) := by decide +kernel
theorem d_59_267 : decode c_59 267 = .ok (.ifCond .eq 16, 3) := by decide +kernel
theorem d_59_270 : decode c_59 270 = .ok (.aload_n 0, 1) := by decide +kernel
theorem d_59_271 : decode c_59 271 = .ok (.aload_n 1, 1) := by decide +kernel
theorem d_59_272 : decode c_59 272 = .ok (.iload_n 2, 1) := by decide +kernel
theorem d_59_273 : decode c_59 273 = .ok (.invokevirtual 87, 3) := by decide +kernel
theorem d_59_276 : decode c_59 276 = .ok (.ifCond .eq 7, 3) := by decide +kernel
theorem d_59_279 : decode c_59 279 = .ok (.iconst 1, 1) := by decide +kernel
theorem d_59_280 : decode c_59 280 = .ok (.goto 4, 3) := by decide +kernel
theorem d_59_283 : decode c_59 283 = .ok (.iconst 0, 1) := by decide +kernel
theorem d_59_284 : decode c_59 284 = .ok (.ireturn, 1) := by decide +kernel
theorem d_60_0 : decode c_60 0 = .ok (.aload_n 1, 1) := by decide +kernel
theorem d_60_1 : decode c_60 1 = .ok (.invokevirtual 35, 3) := by decide +kernel
theorem d_60_4 : decode c_60 4 = .ok (.aload_n 0, 1) := by decide +kernel
theorem d_60_5 : decode c_60 5 = .ok (.getfield 9, 3) := by decide +kernel
theorem d_60_8 : decode c_60 8 = .ok (.invokevirtual 40, 3) := by decide +kernel
theorem d_60_11 : decode c_60 11 = .ok (.aload_n 0, 1) := by decide +kernel
theorem d_60_12 : decode c_60 12 = .ok (.iconst 0, 1) := by decide +kernel
theorem d_60_13 : decode c_60 13 = .ok (.putfield 15, 3) := by decide +kernel
theorem d_60_16 : decode c_60 16 = .ok (.aload_n 0, 1) := by decide +kernel
theorem d_60_17 : decode c_60 17 = .ok (.iconst 0, 1) := by decide +kernel
theorem d_60_18 : decode c_60 18 = .ok (.putfield 31, 3) := by decide +kernel
theorem d_60_21 : decode c_60 21 = .ok (.aload_n 0, 1) := by decide +kernel
theorem d_60_22 : decode c_60 22 = .ok (.ldc 19, 2) := by decide +kernel
theorem d_60_24 : decode c_60 24 = .ok (.invokevirtual 45, 3) := by decide +kernel
theorem d_60_27 : decode c_60 27 = .ok (.iconst 0, 1) := by decide +kernel
theorem d_60_28 : decode c_60 28 = .ok (.istore_n 2, 1) := by decide +kernel
theorem d_60_29 : decode c_60 29 = .ok (.iload_n 2, 1) := by decide +kernel
theorem d_60_30 : decode c_60 30 = .ok (.sipush 2000, 3) := by decide +kernel
theorem d_60_33 : decode c_60 33 = .ok (.if_icmp .gt 75, 3) := by decide +kernel
theorem d_60_36 : decode c_60 36 = .ok (.aload_n 0, 1) := by decide +kernel
theorem d_60_37 : decode c_60 37 = .ok (.getfield 9, 3) := by decide +kernel
theorem d_60_40 : decode c_60 40 = .ok (.invokevirtual 49, 3) := by decide +kernel
theorem d_60_43 : decode c_60 43 = .ok (.aload_n 0, 1) := by decide +kernel
theorem d_60_44 : decode c_60 44 = .ok (.getfield 9, 3) := by decide +kernel
theorem d_60_47 : decode c_60 47 = .ok (.invokevirtual 52, 3) := by decide +kernel
theorem d_60_50 : decode c_60 50 = .ok (.bipush 6, 2) := by decide +kernel
theorem d_60_52 : decode c_60 52 = .ok (.if_icmp .ne 23, 3) := by decide +kernel
theorem d_60_55 : decode c_60 55 = .ok (.aload_n 0, 1) := by decide +kernel
theorem d_60_56 : decode c_60 56 = .ok (.getfield 15, 3) := by decide +kernel
theorem d_60_59 : decode c_60 59 = .ok (.ifCond .ne 14, 3) := by decide +kernel
theorem d_60_62 : decode c_60 62 = .ok (.aload_n 0, 1) := by decide +kernel
theorem d_60_63 : decode c_60 63 = .ok (.invokevirtual 56, 3) := by decide +kernel
theorem d_60_66 : decode c_60 66 = .ok (.ifCond .eq 7, 3) := by decide +kernel
theorem d_60_69 : decode c_60 69 = .ok (.iconst 1, 1) := by decide +kernel
theorem d_60_70 : decode c_60 70 = .ok (.goto 4, 3) := by decide +kernel
theorem d_60_73 : decode c_60 73 = .ok (.iconst 0, 1) := by decide +kernel
theorem d_60_74 : decode c_60 74 = .ok (.ireturn, 1) := by decide +kernel
theorem d_60_75 : decode c_60 75 = .ok (.aload_n 0, 1) := by decide +kernel
theorem d_60_76 : decode c_60 76 = .ok (.invokevirtual 56, 3) := by decide +kernel
theorem d_60_79 : decode c_60 79 = .ok (.ifCond .eq 11, 3) := by decide +kernel
theorem d_60_82 : decode c_60 82 = .ok (.aload_n 0, 1) := by decide +kernel
theorem d_60_83 : decode c_60 83 = .ok (.aload_n 1, 1) := by decide +kernel
theorem d_60_84 : decode c_60 84 = .ok (.invokevirtual 60, 3) := by decide +kernel
theorem d_60_87 : decode c_60 87 = .ok (.goto 8, 3) := by decide +kernel
theorem d_60_90 : decode c_60 90 = .ok (.aload_n 0, 1) := by decide +kernel
theorem d_60_91 : decode c_60 91 = .ok (.aload_n 1, 1) := by decide +kernel
theorem d_60_92 : decode c_60 92 = .ok (.invokevirtual 64, 3) := by decide +kernel
theorem d_60_95 : decode c_60 95 = .ok (.istore_n 3, 1) := by decide +kernel
theorem d_60_96 : decode c_60 96 = .ok (.iload_n 3, 1) := by decide +kernel
theorem d_60_97 : decode c_60 97 = .ok (.ifCond .ne 5, 3) := by decide +kernel
theorem d_60_100 : decode c_60 100 = .ok (.iconst 0, 1) := by decide +kernel
theorem d_60_101 : decode c_60 101 = .ok (.ireturn, 1) := by decide +kernel
theorem d_60_102 : decode c_60 102 = .ok (.iinc 2 1, 3) := by decide +kernel
theorem d_60_105 : decode c_60 105 = .ok (.goto (-76), 3) := by decide +kernel
theorem d_60_108 : decode c_60 108 = .ok (.iconst 0, 1) := by decide +kernel
theorem d_60_109 : decode c_60 109 = .ok (.ireturn, 1) := by decide +kernel
theorem d_61_0 : decode c_61 0 = .ok (.aload_n 0, 1) := by decide +kernel
theorem d_61_1 : decode c_61 1 = .ok (.iconst 0, 1) := by decide +kernel
theorem d_61_2 : decode c_61 2 = .ok (.putfield 15, 3) := by decide +kernel
theorem d_61_5 : decode c_61 5 = .ok (.aload_n 0, 1) := by decide +kernel
theorem d_61_6 : decode c_61 6 = .ok (.iconst 0, 1) := by decide +kernel
theorem d_61_7 : decode c_61 7 = .ok (.putfield 19, 3) := by decide +kernel
theorem d_61_10 : decode c_61 10 = .ok (.return_, 1) := by decide +kernel
theorem d_62_0 : decode c_62 0 = .ok (.aload_n 0, 1) := by decide +kernel
theorem d_62_1 : decode c_62 1 = .ok (.getfield 23, 3) := by decide +kernel
theorem d_62_4 : decode c_62 4 = .ok (.ireturn, 1) := by decide +kernel
theorem d_63_0 : decode c_63 0 = .ok (.aload_n 0, 1) := by decide +kernel
theorem d_63_1 : decode c_63 1 = .ok (.getfield 9, 3) := by decide +kernel
theorem d_63_4 : decode c_63 4 = .ok (.invokevirtual 67, 3) := by decide +kernel
theorem d_63_7 : decode c_63 7 = .ok (.ireturn, 1) := by decide +kernel
theorem d_64_0 : decode c_64 0 = .ok (.iload_n 1, 1) := by decide +kernel
theorem d_64_1 : decode c_64 1 = .ok (.iconst 1, 1) := by decide +kernel
theorem d_64_2 : decode c_64 2 = .ok (.if_icmp .lt 25, 3) := by decide +kernel
theorem d_64_5 : decode c_64 5 = .ok (.iload_n 1, 1) := by decide +kernel
theorem d_64_6 : decode c_64 6 = .ok (.aload_n 0, 1) := by decide +kernel
theorem d_64_7 : decode c_64 7 = .ok (.getfield 45, 3) := by decide +kernel
theorem d_64_10 : decode c_64 10 = .ok (.if_icmp .gt 17, 3) := by decide +kernel
theorem d_64_13 : decode c_64 13 = .ok (.iload_n 2, 1) := by decide +kernel
theorem d_64_14 : decode c_64 14 = .ok (.ifCond .lt 13, 3) := by decide +kernel
theorem d_64_17 : decode c_64 17 = .ok (.iload_n 2, 1) := by decide +kernel
theorem d_64_18 : decode c_64 18 = .ok (.aload_n 0, 1) := by decide +kernel
theorem d_64_19 : decode c_64 19 = .ok (.getfield 39, 3) := by decide +kernel
theorem d_64_22 : decode c_64 22 = .ok (.iload_n 1, 1) := by decide +kernel
theorem d_64_23 : decode c_64 23 = .ok (.iaload, 1) := by decide +kernel
theorem d_64_24 : decode c_64 24 = .ok (.if_icmp .lt 5, 3) := by decide +kernel
theorem d_64_27 : decode c_64 27 = .ok (.iconst 0, 1) := by decide +kernel
theorem d_64_28 : decode c_64 28 = .ok (.ireturn, 1) := by decide +kernel
theorem d_64_29 : decode c_64 29 = .ok (.aload_n 0, 1) := by decide +kernel
theorem d_64_30 : decode c_64 30 = .ok (.getfield 15, 3) := by decide +kernel
theorem d_64_33 : decode c_64 33 = .ok (.aload_n 0, 1) := by decide +kernel
theorem d_64_34 : decode c_64 34 = .ok (.getfield 36, 3) := by decide +kernel
theorem d_64_37 : decode c_64 37 = .ok (.iload_n 1, 1) := by decide +kernel
theorem d_64_38 : decode c_64 38 = .ok (.iaload, 1) := by decide +kernel
theorem d_64_39 : decode c_64 39 = .ok (.iload_n 2, 1) := by decide +kernel
theorem d_64_40 : decode c_64 40 = .ok (.iadd, 1) := by decide +kernel
theorem d_64_41 : decode c_64 41 = .ok (.iaload, 1) := by decide +kernel
theorem d_64_42 : decode c_64 42 = .ok (.ireturn, 1) := by decide +kernel
theorem d_65_0 : decode c_65 0 = .ok (.aload_n 0, 1) := by decide +kernel
theorem d_65_1 : decode c_65 1 = .ok (.getfield 30, 3) := by decide +kernel
theorem d_65_4 : decode c_65 4 = .ok (.iload_n 1, 1) := by decide +kernel
theorem d_65_5 : decode c_65 5 = .ok (.iaload, 1) := by decide +kernel
theorem d_65_6 : decode c_65 6 = .ok (.iload_n 2, 1) := by decide +kernel
theorem d_65_7 : decode c_65 7 = .ok (.iand, 1) := by decide +kernel
theorem d_65_8 : decode c_65 8 = .ok (.ifCond .eq 22, 3) := by decide +kernel
theorem d_65_11 : decode c_65 11 = .ok (.iload_n 3, 1) := by decide +kernel
theorem d_65_12 : decode c_65 12 = .ok (.iconst (-1), 1) := by decide +kernel
theorem d_65_13 : decode c_65 13 = .ok (.if_icmp .eq 13, 3) := by decide +kernel
theorem d_65_16 : decode c_65 16 = .ok (.aload_n 0, 1) := by decide +kernel
theorem d_65_17 : decode c_65 17 = .ok (.getfield 33, 3) := by decide +kernel
theorem d_65_20 : decode c_65 20 = .ok (.iload_n 1, 1) := by decide +kernel
theorem d_65_21 : decode c_65 21 = .ok (.iaload, 1) := by decide +kernel
theorem d_65_22 : decode c_65 22 = .ok (.iload_n 3, 1) := by decide +kernel
theorem d_65_23 : decode c_65 23 = .ok (.if_icmp .ne 7, 3) := by decide +kernel
theorem d_65_26 : decode c_65 26 = .ok (.iconst 1, 1) := by decide +kernel
theorem d_65_27 : decode c_65 27 = .ok (.goto 4, 3) := by decide +kernel
theorem d_65_30 : decode c_65 30 = .ok (.iconst 0, 1) := by decide +kernel
theorem d_65_31 : decode c_65 31 = .ok (.ireturn, 1) := by decide +kernel
theorem d_66_0 : decode c_66 0 = .ok (.iconst 1, 1) := by decide +kernel
theorem d_66_1 : decode c_66 1 = .ok (.istore 4, 2) := by decide +kernel
theorem d_66_3 : decode c_66 3 = .ok (.iload 4, 2) := by decide +kernel
theorem d_66_5 : decode c_66 5 = .ok (.aload_n 0, 1) := by decide +kernel
theorem d_66_6 : decode c_66 6 = .ok (.getfield 45, 3) := by decide +kernel
theorem d_66_9 : decode c_66 9 = .ok (.if_icmp .gt 34, 3) := by decide +kernel
theorem d_66_12 : decode c_66 12 = .ok (.aload_n 0, 1) := by decide +kernel
theorem d_66_13 : decode c_66 13 = .ok (.iload 4, 2) := by decide +kernel
theorem d_66_15 : decode c_66 15 = .ok (.iload_n 1, 1) := by decide +kernel
theorem d_66_16 : decode c_66 16 = .ok (.iload_n 2, 1) := by decide +kernel
theorem d_66_17 : decode c_66 17 = .ok (.invokevirtual 70, 3) := by decide +kernel
theorem d_66_20 : decode c_66 20 = .ok (.ifCond .eq 17, 3) := by decide +kernel
theorem d_66_23 : decode c_66 23 = .ok (.aload_n 0, 1) := by decide +kernel
theorem d_66_24 : decode c_66 24 = .ok (.iload 4, 2) := by decide +kernel
theorem d_66_26 : decode c_66 26 = .ok (.iconst 1, 1) := by decide +kernel
theorem d_66_27 : decode c_66 27 = .ok (.invokevirtual 48, 3) := by decide +kernel
theorem d_66_30 : decode c_66 30 = .ok (.iload_n 3, 1) := by decide +kernel
theorem d_66_31 : decode c_66 31 = .ok (.if_icmp .ne 6, 3) := by decide +kernel
theorem d_66_34 : decode c_66 34 = .ok (.iload 4, 2) := by decide +kernel
theorem d_66_36 : decode c_66 36 = .ok (.ireturn, 1) := by decide +kernel
theorem d_66_37 : decode c_66 37 = .ok (.iinc 4 1, 3) := by decide +kernel
theorem d_66_40 : decode c_66 40 = .ok (.goto (-37), 3) := by decide +kernel
theorem d_66_43 : decode c_66 43 = .ok (.iconst 0, 1) := by decide +kernel
theorem d_66_44 : decode c_66 44 = .ok (.ireturn, 1) := by decide +kernel
theorem d_67_0 : decode c_67 0 = .ok (.iconst 1, 1) := by decide +kernel
theorem d_67_1 : decode c_67 1 = .ok (.istore_n 1, 1) := by decide +kernel
theorem d_67_2 : decode c_67 2 = .ok (.iload_n 1, 1) := by decide +kernel
theorem d_67_3 : decode c_67 3 = .ok (.aload_n 0, 1) := by decide +kernel
theorem d_67_4 : decode c_67 4 = .ok (.getfield 45, 3) := by decide +kernel
theorem d_67_7 : decode c_67 7 = .ok (.if_icmp .gt 131, 3) := by decide +kernel
theorem d_67_10 : decode c_67 10 = .ok (.aload_n 0, 1) := by decide +kernel
theorem d_67_11 : decode c_67 11 = .ok (.getfield 30, 3) := by decide +kernel
theorem d_67_14 : decode c_67 14 = .ok (.iload_n 1, 1) := by decide +kernel
theorem d_67_15 : decode c_67 15 = .ok (.iaload, 1) := by decide +kernel
theorem d_67_16 : decode c_67 16 = .ok (.istore_n 2, 1) := by decide +kernel
theorem d_67_17 : decode c_67 17 = .ok (.iload_n 2, 1) := by decide +kernel
theorem d_67_18 : decode c_67 18 = .ok (.iconst 2, 1) := by decide +kernel
theorem d_67_19 : decode c_67 19 = .ok (.if_icmp .ne 25, 3) := by decide +kernel
theorem d_67_22 : decode c_67 22 = .ok (.aload_n 0, 1) := by decide +kernel
theorem d_67_23 : decode c_67 23 = .ok (.getfield 42, 3) := by decide +kernel
theorem d_67_26 : decode c_67 26 = .ok (.iload_n 1, 1) := by decide +kernel
theorem d_67_27 : decode c_67 27 = .ok (.aload_n 0, 1) := by decide +kernel
theorem d_67_28 : decode c_67 28 = .ok (.iconst 1, 1) := by decide +kernel
theorem d_67_29 : decode c_67 29 = .ok (.iconst 0, 1) := by decide +kernel
theorem d_67_30 : decode c_67 30 = .ok (.aload_n 0, 1) := by decide +kernel
theorem d_67_31 : decode c_67 31 = .ok (.iload_n 1, 1) := by decide +kernel
theorem d_67_32 : decode c_67 32 = .ok (.bipush 6, 2) := by decide +kernel
theorem d_67_34 : decode c_67 34 = .ok (.invokevirtual 48, 3) := by decide +kernel
theorem d_67_37 : decode c_67 37 = .ok (.invokevirtual 52, 3) := by decide +kernel
theorem d_67_40 : decode c_67 40 = .ok (.iastore, 1) := by decide +kernel
theorem d_67_41 : decode c_67 41 = .ok (.goto 91, 3) := by decide +kernel
theorem d_67_44 : decode c_67 44 = .ok (.iload_n 2, 1) := by decide +kernel
theorem d_67_45 : decode c_67 45 = .ok (.bipush 8, 2) := by decide +kernel
theorem d_67_47 : decode c_67 47 = .ok (.if_icmp .eq 10, 3) := by decide +kernel
theorem d_67_50 : decode c_67 50 = .ok (.iload_n 2, 1) := by decide +kernel
theorem d_67_51 : decode c_67 51 = .ok (.sipush 128, 3) := by decide +kernel
theorem d_67_54 : decode c_67 54 = .ok (.if_icmp .ne 24, 3) := by decide +kernel
theorem d_67_57 : decode c_67 57 = .ok (.aload_n 0, 1) := by decide +kernel
theorem d_67_58 : decode c_67 58 = .ok (.getfield 42, 3) := by decide +kernel
theorem d_67_61 : decode c_67 61 = .ok (.iload_n 1, 1) := by decide +kernel
theorem d_67_62 : decode c_67 62 = .ok (.aload_n 0, 1) := by decide +kernel
theorem d_67_63 : decode c_67 63 = .ok (.iconst 2, 1) := by decide +kernel
theorem d_67_64 : decode c_67 64 = .ok (.iconst 0, 1) := by decide +kernel
theorem d_67_65 : decode c_67 65 = .ok (.aload_n 0, 1) := by decide +kernel
theorem d_67_66 : decode c_67 66 = .ok (.iload_n 1, 1) := by decide +kernel
theorem d_67_67 : decode c_67 67 = .ok (.iconst 3, 1) := by decide +kernel
theorem d_67_68 : decode c_67 68 = .ok (.invokevirtual 48, 3) := by decide +kernel
theorem d_67_71 : decode c_67 71 = .ok (.invokevirtual 52, 3) := by decide +kernel
theorem d_67_74 : decode c_67 74 = .ok (.iastore, 1) := by decide +kernel
theorem d_67_75 : decode c_67 75 = .ok (.goto 57, 3) := by decide +kernel
theorem d_67_78 : decode c_67 78 = .ok (.iload_n 2, 1) := by decide +kernel
theorem d_67_79 : decode c_67 79 = .ok (.bipush 96, 2) := by decide +kernel
theorem d_67_81 : decode c_67 81 = .ok (.iand, 1) := by decide +kernel
theorem d_67_82 : decode c_67 82 = .ok (.ifCond .eq 24, 3) := by decide +kernel
theorem d_67_85 : decode c_67 85 = .ok (.aload_n 0, 1) := by decide +kernel
theorem d_67_86 : decode c_67 86 = .ok (.getfield 42, 3) := by decide +kernel
theorem d_67_89 : decode c_67 89 = .ok (.iload_n 1, 1) := by decide +kernel
theorem d_67_90 : decode c_67 90 = .ok (.aload_n 0, 1) := by decide +kernel
theorem d_67_91 : decode c_67 91 = .ok (.iconst 4, 1) := by decide +kernel
theorem d_67_92 : decode c_67 92 = .ok (.iconst 0, 1) := by decide +kernel
theorem d_67_93 : decode c_67 93 = .ok (.aload_n 0, 1) := by decide +kernel
theorem d_67_94 : decode c_67 94 = .ok (.iload_n 1, 1) := by decide +kernel
theorem d_67_95 : decode c_67 95 = .ok (.iconst 3, 1) := by decide +kernel
theorem d_67_96 : decode c_67 96 = .ok (.invokevirtual 48, 3) := by decide +kernel
theorem d_67_99 : decode c_67 99 = .ok (.invokevirtual 52, 3) := by decide +kernel
theorem d_67_102 : decode c_67 102 = .ok (.iastore, 1) := by decide +kernel
theorem d_67_103 : decode c_67 103 = .ok (.goto 29, 3) := by decide +kernel
theorem d_67_106 : decode c_67 106 = .ok (.iload_n 2, 1) := by decide +kernel
theorem d_67_107 : decode c_67 107 = .ok (.ldc 56, 2) := by decide +kernel
theorem d_67_109 : decode c_67 109 = .ok (.if_icmp .ne 23, 3) := by decide +kernel
theorem d_67_112 : decode c_67 112 = .ok (.aload_n 0, 1) := by decide +kernel
theorem d_67_113 : decode c_67 113 = .ok (.getfield 42, 3) := by decide +kernel
theorem d_67_116 : decode c_67 116 = .ok (.iload_n 1, 1) := by decide +kernel
theorem d_67_117 : decode c_67 117 = .ok (.aload_n 0, 1) := by decide +kernel
theorem d_67_118 : decode c_67 118 = .ok (.sipush 8208, 3) := by decide +kernel
theorem d_67_121 : decode c_67 121 = .ok (.iconst 0, 1) := by decide +kernel
theorem d_67_122 : decode c_67 122 = .ok (.aload_n 0, 1) := by decide +kernel
theorem d_67_123 : decode c_67 123 = .ok (.iload_n 1, 1) := by decide +kernel
theorem d_67_124 : decode c_67 124 = .ok (.iconst 3, 1) := by decide +kernel
theorem d_67_125 : decode c_67 125 = .ok (.invokevirtual 48, 3) := by decide +kernel
theorem d_67_128 : decode c_67 128 = .ok (.invokevirtual 52, 3) := by decide +kernel
theorem d_67_131 : decode c_67 131 = .ok (.iastore, 1) := by decide +kernel
theorem d_67_132 : decode c_67 132 = .ok (.iinc 1 1, 3) := by decide +kernel
theorem d_67_135 : decode c_67 135 = .ok (.goto (-133), 3) := by decide +kernel
theorem d_67_138 : decode c_67 138 = .ok (.return_, 1) := by decide +kernel
theorem d_68_0 : decode c_68 0 = .ok (.iconst 0, 1) := by decide +kernel
theorem d_68_1 : decode c_68 1 = .ok (.istore 4, 2) := by decide +kernel
theorem d_68_3 : decode c_68 3 = .ok (.iconst 1, 1) := by decide +kernel
theorem d_68_4 : decode c_68 4 = .ok (.istore 5, 2) := by decide +kernel
theorem d_68_6 : decode c_68 6 = .ok (.iload 5, 2) := by decide +kernel
theorem d_68_8 : decode c_68 8 = .ok (.iload_n 1, 1) := by decide +kernel
theorem d_68_9 : decode c_68 9 = .ok (.if_icmp .gt 32, 3) := by decide +kernel
theorem d_68_12 : decode c_68 12 = .ok (.iload 5, 2) := by decide +kernel
theorem d_68_14 : decode c_68 14 = .ok (.aload_n 0, 1) := by decide +kernel
theorem d_68_15 : decode c_68 15 = .ok (.getfield 45, 3) := by decide +kernel
theorem d_68_18 : decode c_68 18 = .ok (.if_icmp .gt 23, 3) := by decide +kernel
theorem d_68_21 : decode c_68 21 = .ok (.aload_n 0, 1) := by decide +kernel
theorem d_68_22 : decode c_68 22 = .ok (.iload 5, 2) := by decide +kernel
theorem d_68_24 : decode c_68 24 = .ok (.iload_n 2, 1) := by decide +kernel
theorem d_68_25 : decode c_68 25 = .ok (.iload_n 3, 1) := by decide +kernel
theorem d_68_26 : decode c_68 26 = .ok (.invokevirtual 70, 3) := by decide +kernel
theorem d_68_29 : decode c_68 29 = .ok (.ifCond .eq 6, 3) := by decide +kernel
theorem d_68_32 : decode c_68 32 = .ok (.iinc 4 1, 3) := by decide +kernel
theorem d_68_35 : decode c_68 35 = .ok (.iinc 5 1, 3) := by decide +kernel
theorem d_68_38 : decode c_68 38 = .ok (.goto (-32), 3) := by decide +kernel
theorem d_68_41 : decode c_68 41 = .ok (.iload 4, 2) := by decide +kernel
theorem d_68_43 : decode c_68 43 = .ok (.ireturn, 1) := by decide +kernel
theorem d_69_0 : decode c_69 0 = .ok (.aload_n 0, 1) := by decide +kernel
theorem d_69_1 : decode c_69 1 = .ok (.aload_n 0, 1) := by decide +kernel
theorem d_69_2 : decode c_69 2 = .ok (.getfield 45, 3) := by decide +kernel
theorem d_69_5 : decode c_69 5 = .ok (.iload_n 1, 1) := by decide +kernel
theorem d_69_6 : decode c_69 6 = .ok (.iload_n 2, 1) := by decide +kernel
theorem d_69_7 : decode c_69 7 = .ok (.invokevirtual 67, 3) := by decide +kernel
theorem d_69_10 : decode c_69 10 = .ok (.ireturn, 1) := by decide +kernel
theorem d_70_0 : decode c_70 0 = .ok (.aload_n 0, 1) := by decide +kernel
theorem d_70_1 : decode c_70 1 = .ok (.invokevirtual 64, 3) := by decide +kernel
theorem d_70_4 : decode c_70 4 = .ok (.istore_n 1, 1) := by decide +kernel
theorem d_70_5 : decode c_70 5 = .ok (.aload_n 0, 1) := by decide +kernel
theorem d_70_6 : decode c_70 6 = .ok (.iload_n 1, 1) := by decide +kernel
theorem d_70_7 : decode c_70 7 = .ok (.invokevirtual 68, 3) := by decide +kernel
theorem d_70_10 : decode c_70 10 = .ok (.astore_n 2, 1) := by decide +kernel
theorem d_70_11 : decode c_70 11 = .ok (.aload_n 2, 1) := by decide +kernel
theorem d_70_12 : decode c_70 12 = .ok (.ifnonnull 6, 3) := by decide +kernel
theorem d_70_15 : decode c_70 15 = .ok (.bipush (-4), 2) := by decide +kernel
theorem d_70_17 : decode c_70 17 = .ok (.ireturn, 1) := by decide +kernel
theorem d_70_18 : decode c_70 18 = .ok (.aload_n 0, 1) := by decide +kernel
theorem d_70_19 : decode c_70 19 = .ok (.getfield 29, 3) := by decide +kernel
theorem d_70_22 : decode c_70 22 = .ok (.aload_n 2, 1) := by decide +kernel
theorem d_70_23 : decode c_70 23 = .ok (.invokevirtual 72, 3) := by decide +kernel
theorem d_70_26 : decode c_70 26 = .ok (.istore_n 3, 1) := by decide +kernel
theorem d_70_27 : decode c_70 27 = .ok (.aload_n 0, 1) := by decide +kernel
theorem d_70_28 : decode c_70 28 = .ok (.getfield 15, 3) := by decide +kernel
theorem d_70_31 : decode c_70 31 = .ok (.invokevirtual 76, 3) := by decide +kernel
theorem d_70_34 : decode c_70 34 = .ok (.iload_n 3, 1) := by decide +kernel
theorem d_70_35 : decode c_70 35 = .ok (.ifCond .ne 12, 3) := by decide +kernel
theorem d_70_38 : decode c_70 38 = .ok (.aload_n 0, 1) := by decide +kernel
theorem d_70_39 : decode c_70 39 = .ok (.getfield 29, 3) := by decide +kernel
theorem d_70_42 : decode c_70 42 = .ok (.invokevirtual 79, 3) := by decide +kernel
theorem d_70_45 : decode c_70 45 = .ok (.ineg, 1) := by decide +kernel
theorem d_70_46 : decode c_70 46 = .ok (.ireturn, 1) := by decide +kernel
theorem d_70_47 : decode c_70 47 = .ok (.aload_n 2, 1) := by decide +kernel
theorem d_70_48 : decode c_70 48 = .ok (.invokevirtual 82, 3) := by decide +kernel
theorem d_70_51 : decode c_70 51 = .ok (.aload_n 0, 1) := by decide +kernel
theorem d_70_52 : decode c_70 52 = .ok (.iload_n 1, 1) := by decide +kernel
theorem d_70_53 : decode c_70 53 = .ok (.putfield 57, 3) := by decide +kernel
theorem d_70_56 : decode c_70 56 = .ok (.aload_n 0, 1) := by decide +kernel
theorem d_70_57 : decode c_70 57 = .ok (.getfield 53, 3) := by decide +kernel
theorem d_70_60 : decode c_70 60 = .ok (.bipush 8, 2) := by decide +kernel
theorem d_70_62 : decode c_70 62 = .ok (.if_icmp .ge 13, 3) := by decide +kernel
theorem d_70_65 : decode c_70 65 = .ok (.aload_n 0, 1) := by decide +kernel
theorem d_70_66 : decode c_70 66 = .ok (.dup, 1) := by decide +kernel
theorem d_70_67 : decode c_70 67 = .ok (.getfield 53, 3) := by decide +kernel
theorem d_70_70 : decode c_70 70 = .ok (.iconst 1, 1) := by decide +kernel
theorem d_70_71 : decode c_70 71 = .ok (.iadd, 1) := by decide +kernel
theorem d_70_72 : decode c_70 72 = .ok (.putfield 53, 3) := by decide +kernel
theorem d_70_75 : decode c_70 75 = .ok (.aload_n 2, 1) := by decide +kernel
theorem d_70_76 : decode c_70 76 = .ok (.sipush 8208, 3) := by decide +kernel
theorem d_70_79 : decode c_70 79 = .ok (.iconst 0, 1) := by decide +kernel
theorem d_70_80 : decode c_70 80 = .ok (.invokevirtual 85, 3) := by decide +kernel
theorem d_70_83 : decode c_70 83 = .ok (.ireturn, 1) := by decide +kernel
theorem d_71_0 : decode c_71 0 = .ok (.aload_n 0, 1) := by decide +kernel
theorem d_71_1 : decode c_71 1 = .ok (.getfield 142, 3) := by decide +kernel
theorem d_71_4 : decode c_71 4 = .ok (.aload_n 0, 1) := by decide +kernel
theorem d_71_5 : decode c_71 5 = .ok (.getfield 138, 3) := by decide +kernel
theorem d_71_8 : decode c_71 8 = .ok (.if_icmp .ge 15, 3) := by decide +kernel
theorem d_71_11 : decode c_71 11 = .ok (.aload_n 0, 1) := by decide +kernel
theorem d_71_12 : decode c_71 12 = .ok (.getfield 7, 3) := by decide +kernel
theorem d_71_15 : decode c_71 15 = .ok (.aload_n 0, 1) := by decide +kernel
theorem d_71_16 : decode c_71 16 = .ok (.getfield 142, 3) := by decide +kernel
theorem d_71_19 : decode c_71 19 = .ok (.iaload, 1) := by decide +kernel
theorem d_71_20 : decode c_71 20 = .ok (.goto 4, 3) := by decide +kernel
theorem d_71_23 : decode c_71 23 = .ok (.iconst (-1), 1) := by decide +kernel
theorem d_71_24 : decode c_71 24 = .ok (.ireturn, 1) := by decide +kernel
theorem d_72_0 : decode c_72 0 = .ok (.iload_n 0, 1) := by decide +kernel
theorem d_72_1 : decode c_72 1 = .ok (.bipush 97, 2) := by decide +kernel
theorem d_72_3 : decode c_72 3 = .ok (.if_icmp .lt 13, 3) := by decide +kernel
theorem d_72_6 : decode c_72 6 = .ok (.iload_n 0, 1) := by decide +kernel
theorem d_72_7 : decode c_72 7 = .ok (.bipush 122, 2) := by decide +kernel
theorem d_72_9 : decode c_72 9 = .ok (.if_icmp .gt 7, 3) := by decide +kernel
theorem d_72_12 : decode c_72 12 = .ok (.iconst 1, 1) := by decide +kernel
theorem d_72_13 : decode c_72 13 = .ok (.goto 4, 3) := by decide +kernel
theorem d_72_16 : decode c_72 16 = .ok (.iconst 0, 1) := by decide +kernel
theorem d_72_17 : decode c_72 17 = .ok (.ireturn, 1) := by decide +kernel
theorem d_73_0 : decode c_73 0 = .ok (.iload_n 0, 1) := by decide +kernel
theorem d_73_1 : decode c_73 1 = .ok (.bipush 48, 2) := by decide +kernel
theorem d_73_3 : decode c_73 3 = .ok (.if_icmp .lt 13, 3) := by decide +kernel
theorem d_73_6 : decode c_73 6 = .ok (.iload_n 0, 1) := by decide +kernel
theorem d_73_7 : decode c_73 7 = .ok (.bipush 57, 2) := by decide +kernel
theorem d_73_9 : decode c_73 9 = .ok (.if_icmp .gt 7, 3) := by decide +kernel
theorem d_73_12 : decode c_73 12 = .ok (.iconst 1, 1) := by decide +kernel
theorem d_73_13 : decode c_73 13 = .ok (.goto 4, 3) := by decide +kernel
theorem d_73_16 : decode c_73 16 = .ok (.iconst 0, 1) := by decide +kernel
theorem d_73_17 : decode c_73 17 = .ok (.ireturn, 1) := by decide +kernel
theorem d_74_0 : decode c_74 0 = .ok (.lconst 0, 1) := by decide +kernel
theorem d_74_1 : decode c_74 1 = .ok (.lstore_n 3, 1) := by decide +kernel
theorem d_74_2 : decode c_74 2 = .ok (.iload_n 2, 1) := by decide +kernel
theorem d_74_3 : decode c_74 3 = .ok (.iload_n 1, 1) := by decide +kernel
theorem d_74_4 : decode c_74 4 = .ok (.bipush 8, 2) := by decide +kernel
theorem d_74_6 : decode c_74 6 = .ok (.iadd, 1) := by decide +kernel
theorem d_74_7 : decode c_74 7 = .ok (.if_icmp .ge 7, 3) := by decide +kernel
theorem d_74_10 : decode c_74 10 = .ok (.iload_n 2, 1) := by decide +kernel
theorem d_74_11 : decode c_74 11 = .ok (.goto 7, 3) := by decide +kernel
theorem d_74_14 : decode c_74 14 = .ok (.iload_n 1, 1) := by decide +kernel
theorem d_74_15 : decode c_74 15 = .ok (.bipush 8, 2) := by decide +kernel
theorem d_74_17 : decode c_74 17 = .ok (.iadd, 1) := by decide +kernel
theorem d_74_18 : decode c_74 18 = .ok (.iconst 1, 1) := by decide +kernel
theorem d_74_19 : decode c_74 19 = .ok (.isub, 1) := by decide +kernel
theorem d_74_20 : decode c_74 20 = .ok (.istore 5, 2) := by decide +kernel
theorem d_74_22 : decode c_74 22 = .ok (.iload 5, 2) := by decide +kernel
theorem d_74_24 : decode c_74 24 = .ok (.iload_n 1, 1) := by decide +kernel
theorem d_74_25 : decode c_74 25 = .ok (.if_icmp .lt 23, 3) := by decide +kernel
theorem d_74_28 : decode c_74 28 = .ok (.lload_n 3, 1) := by decide +kernel
theorem d_74_29 : decode c_74 29 = .ok (.bipush 8, 2) := by decide +kernel
theorem d_74_31 : decode c_74 31 = .ok (.lshl, 1) := by decide +kernel
theorem d_74_32 : decode c_74 32 = .ok (.aload_n 0, 1) := by decide +kernel
theorem d_74_33 : decode c_74 33 = .ok (.getfield 7, 3) := by decide +kernel
theorem d_74_36 : decode c_74 36 = .ok (.iload 5, 2) := by decide +kernel
theorem d_74_38 : decode c_74 38 = .ok (.iaload, 1) := by decide +kernel
theorem d_74_39 : decode c_74 39 = .ok (.i2l, 1) := by decide +kernel
theorem d_74_40 : decode c_74 40 = .ok (.lor, 1) := by decide +kernel
theorem d_74_41 : decode c_74 41 = .ok (.lstore_n 3, 1) := by decide +kernel
theorem d_74_42 : decode c_74 42 = .ok (.iinc 5 (-1), 3) := by decide +kernel
theorem d_74_45 : decode c_74 45 = .ok (.goto (-23), 3) := by decide +kernel
theorem d_74_48 : decode c_74 48 = .ok (.lload_n 3, 1) := by decide +kernel
theorem d_74_49 : decode c_74 49 = .ok (.lreturn, 1) := by decide +kernel
theorem d_75_0 : decode c_75 0 = .ok (.aload_n 0, 1) := by decide +kernel
theorem d_75_1 : decode c_75 1 = .ok (.iload_n 1, 1) := by decide +kernel
theorem d_75_2 : decode c_75 2 = .ok (.iload_n 2, 1) := by decide +kernel
theorem d_75_3 : decode c_75 3 = .ok (.invokevirtual 145, 3) := by decide +kernel
theorem d_75_6 : decode c_75 6 = .ok (.lstore_n 3, 1) := by decide +kernel
theorem d_75_7 : decode c_75 7 = .ok (.iload_n 2, 1) := by decide +kernel
theorem d_75_8 : decode c_75 8 = .ok (.iload_n 1, 1) := by decide +kernel
theorem d_75_9 : decode c_75 9 = .ok (.isub, 1) := by decide +kernel
theorem d_75_10 : decode c_75 10 = .ok (.istore 5, 2) := by decide +kernel
theorem d_75_12 : decode c_75 12 = .ok (.iload 5, 2) := by decide +kernel
theorem d_75_14 : decode c_75 14 = .ok (.bipush 9, 2) := by decide +kernel
theorem d_75_16 : decode c_75 16 = .ok (.if_icmp .ne 30, 3) := by decide +kernel
theorem d_75_19 : decode c_75 19 = .ok (.lload_n 3, 1) := by decide +kernel
theorem d_75_20 : decode c_75 20 = .ok (.ldc2_w 149, 3) := by decide +kernel
theorem d_75_23 : decode c_75 23 = .ok (.lcmp, 1) := by decide +kernel
theorem d_75_24 : decode c_75 24 = .ok (.ifCond .ne 20, 3) := by decide +kernel
theorem d_75_27 : decode c_75 27 = .ok (.aload_n 0, 1) := by decide +kernel
theorem d_75_28 : decode c_75 28 = .ok (.getfield 7, 3) := by decide +kernel
theorem d_75_31 : decode c_75 31 = .ok (.iload_n 2, 1) := by decide +kernel
theorem d_75_32 : decode c_75 32 = .ok (.iconst 1, 1) := by decide +kernel
theorem d_75_33 : decode c_75 33 = .ok (.isub, 1) := by decide +kernel
theorem d_75_34 : decode c_75 34 = .ok (.iaload, 1) := by decide +kernel
theorem d_75_35 : decode c_75 35 = .ok (.bipush 101, 2) := by decide +kernel
theorem d_75_37 : decode c_75 37 = .ok (.if_icmp .ne 7, 3) := by decide +kernel
theorem d_75_40 : decode c_75 40 = .ok (.iconst 3, 1) := by decide +kernel
theorem d_75_41 : decode c_75 41 = .ok (.goto 4, 3) := by decide +kernel
theorem d_75_44 : decode c_75 44 = .ok (.iconst 0, 1) := by decide +kernel
theorem d_75_45 : decode c_75 45 = .ok (.ireturn, 1) := by decide +kernel
theorem d_75_46 : decode c_75 46 = .ok (.iload 5, 2) := by decide +kernel
theorem d_75_48 : decode c_75 48 = .ok (.bipush 8, 2) := by decide +kernel
theorem d_75_50 : decode c_75 50 = .ok (.if_icmp .le 5, 3) := by decide +kernel
theorem d_75_53 : decode c_75 53 = .ok (.iconst 0, 1) := by decide +kernel
theorem d_75_54 : decode c_75 54 = .ok (.ireturn, 1) := by decide +kernel
theorem d_75_55 : decode c_75 55 = .ok (.lload_n 3, 1) := by decide +kernel
theorem d_75_56 : decode c_75 56 = .ok (.ldc2_w 151, 3) := by decide +kernel
theorem d_75_59 : decode c_75 59 = .ok (.lcmp, 1) := by decide +kernel
theorem d_75_60 : decode c_75 60 = .ok (.ifCond .ne 7, 3) := by decide +kernel
theorem d_75_63 : decode c_75 63 = .ok (.iconst 1, 1) := by decide +kernel
theorem d_75_64 : decode c_75 64 = .ok (.goto 183, 3) := by decide +kernel
theorem d_75_67 : decode c_75 67 = .ok (.lload_n 3, 1) := by decide +kernel
theorem d_75_68 : decode c_75 68 = .ok (.ldc2_w 153, 3) := by decide +kernel
theorem d_75_71 : decode c_75 71 = .ok (.lcmp, 1) := by decide +kernel
theorem d_75_72 : decode c_75 72 = .ok (.ifCond .ne 7, 3) := by decide +kernel
theorem d_75_75 : decode c_75 75 = .ok (.iconst 2, 1) := by decide +kernel
theorem d_75_76 : decode c_75 76 = .ok (.goto 171, 3) := by decide +kernel
theorem d_75_79 : decode c_75 79 = .ok (.lload_n 3, 1) := by decide +kernel
theorem d_75_80 : decode c_75 80 = .ok (.ldc2_w 155, 3) := by decide +kernel
theorem d_75_83 : decode c_75 83 = .ok (.lcmp, 1) := by decide +kernel
theorem d_75_84 : decode c_75 84 = .ok (.ifCond .ne 7, 3) := by decide +kernel
theorem d_75_87 : decode c_75 87 = .ok (.iconst 4, 1) := by decide +kernel
theorem d_75_88 : decode c_75 88 = .ok (.goto 159, 3) := by decide +kernel
theorem d_75_91 : decode c_75 91 = .ok (.lload_n 3, 1) := by decide +kernel
theorem d_75_92 : decode c_75 92 = .ok (.ldc2_w 157, 3) := by decide +kernel
theorem d_75_95 : decode c_75 95 = .ok (.lcmp, 1) := by decide +kernel
theorem d_75_96 : decode c_75 96 = .ok (.ifCond .ne 7, 3) := by decide +kernel
theorem d_75_99 : decode c_75 99 = .ok (.iconst 5, 1) := by decide +kernel
theorem d_75_100 : decode c_75 100 = .ok (.goto 147, 3) := by decide +kernel
theorem d_75_103 : decode c_75 103 = .ok (.lload_n 3, 1) := by decide +kernel
theorem d_75_104 : decode c_75 104 = .ok (.ldc2_w 159, 3) := by decide +kernel
theorem d_75_107 : decode c_75 107 = .ok (.lcmp, 1) := by decide +kernel
theorem d_75_108 : decode c_75 108 = .ok (.ifCond .ne 8, 3) := by decide +kernel
theorem d_75_111 : decode c_75 111 = .ok (.bipush 6, 2) := by decide +kernel
theorem d_75_113 : decode c_75 113 = .ok (.goto 134, 3) := by decide +kernel
theorem d_75_116 : decode c_75 116 = .ok (.lload_n 3, 1) := by decide +kernel
theorem d_75_117 : decode c_75 117 = .ok (.ldc2_w 161, 3) := by decide +kernel
theorem d_75_120 : decode c_75 120 = .ok (.lcmp, 1) := by decide +kernel
theorem d_75_121 : decode c_75 121 = .ok (.ifCond .ne 8, 3) := by decide +kernel
theorem d_75_124 : decode c_75 124 = .ok (.bipush 7, 2) := by decide +kernel
theorem d_75_126 : decode c_75 126 = .ok (.goto 121, 3) := by decide +kernel
theorem d_75_129 : decode c_75 129 = .ok (.lload_n 3, 1) := by decide +kernel
theorem d_75_130 : decode c_75 130 = .ok (.ldc2_w 163, 3) := by decide +kernel
theorem d_75_133 : decode c_75 133 = .ok (.lcmp, 1) := by decide +kernel
theorem d_75_134 : decode c_75 134 = .ok (.ifCond .ne 8, 3) := by decide +kernel
theorem d_75_137 : decode c_75 137 = .ok (.bipush 8, 2) := by decide +kernel
theorem d_75_139 : decode c_75 139 = .ok (.goto 108, 3) := by decide +kernel
theorem d_75_142 : decode c_75 142 = .ok (.lload_n 3, 1) := by decide +kernel
theorem d_75_143 : decode c_75 143 = .ok (.ldc2_w 165, 3) := by decide +kernel
theorem d_75_146 : decode c_75 146 = .ok (.lcmp, 1) := by decide +kernel
theorem d_75_147 : decode c_75 147 = .ok (.ifCond .ne 8, 3) := by decide +kernel
theorem d_75_150 : decode c_75 150 = .ok (.bipush 9, 2) := by decide +kernel
theorem d_75_152 : decode c_75 152 = .ok (.goto 95, 3) := by decide +kernel
theorem d_75_155 : decode c_75 155 = .ok (.lload_n 3, 1) := by decide +kernel
theorem d_75_156 : decode c_75 156 = .ok (.ldc2_w 167, 3) := by decide +kernel
theorem d_75_159 : decode c_75 159 = .ok (.lcmp, 1) := by decide +kernel
theorem d_75_160 : decode c_75 160 = .ok (.ifCond .ne 8, 3) := by decide +kernel
theorem d_75_163 : decode c_75 163 = .ok (.bipush 10, 2) := by decide +kernel
theorem d_75_165 : decode c_75 165 = .ok (.goto 82, 3) := by decide +kernel
theorem d_75_168 : decode c_75 168 = .ok (.lload_n 3, 1) := by decide +kernel
theorem d_75_169 : decode c_75 169 = .ok (.ldc2_w 169, 3) := by decide +kernel
theorem d_75_172 : decode c_75 172 = .ok (.lcmp, 1) := by decide +kernel
theorem d_75_173 : decode c_75 173 = .ok (.ifCond .ne 8, 3) := by decide +kernel
theorem d_75_176 : decode c_75 176 = .ok (.bipush 11, 2) := by decide +kernel
theorem d_75_178 : decode c_75 178 = .ok (.goto 69, 3) := by decide +kernel
theorem d_75_181 : decode c_75 181 = .ok (.lload_n 3, 1) := by decide +kernel
theorem d_75_182 : decode c_75 182 = .ok (.ldc2_w 171, 3) := by decide +kernel
theorem d_75_185 : decode c_75 185 = .ok (.lcmp, 1) := by decide +kernel
theorem d_75_186 : decode c_75 186 = .ok (.ifCond .ne 8, 3) := by decide +kernel
theorem d_75_189 : decode c_75 189 = .ok (.bipush 12, 2) := by decide +kernel
theorem d_75_191 : decode c_75 191 = .ok (.goto 56, 3) := by decide +kernel
theorem d_75_194 : decode c_75 194 = .ok (.lload_n 3, 1) := by decide +kernel
theorem d_75_195 : decode c_75 195 = .ok (.ldc2_w 173, 3) := by decide +kernel
theorem d_75_198 : decode c_75 198 = .ok (.lcmp, 1) := by decide +kernel
theorem d_75_199 : decode c_75 199 = .ok (.ifCond .ne 8, 3) := by decide +kernel
theorem d_75_202 : decode c_75 202 = .ok (.bipush 13, 2) := by decide +kernel
theorem d_75_204 : decode c_75 204 = .ok (.goto 43, 3) := by decide +kernel
theorem d_75_207 : decode c_75 207 = .ok (.lload_n 3, 1) := by decide +kernel
theorem d_75_208 : decode c_75 208 = .ok (.ldc2_w 175, 3) := by decide +kernel
theorem d_75_211 : decode c_75 211 = .ok (.lcmp, 1) := by decide +kernel
theorem d_75_212 : decode c_75 212 = .ok (.ifCond .ne 8, 3) := by decide +kernel
theorem d_75_215 : decode c_75 215 = .ok (.bipush 14, 2) := by decide +kernel
theorem d_75_217 : decode c_75 217 = .ok (.goto 30, 3) := by decide +kernel
theorem d_75_220 : decode c_75 220 = .ok (.lload_n 3, 1) := by decide +kernel
theorem d_75_221 : decode c_75 221 = .ok (.ldc2_w 177, 3) := by decide +kernel
theorem d_75_224 : decode c_75 224 = .ok (.lcmp, 1) := by decide +kernel
theorem d_75_225 : decode c_75 225 = .ok (.ifCond .ne 8, 3) := by decide +kernel
theorem d_75_228 : decode c_75 228 = .ok (.bipush 15, 2) := by decide +kernel
theorem d_75_230 : decode c_75 230 = .ok (.goto 17, 3) := by decide +kernel
theorem d_75_233 : decode c_75 233 = .ok (.lload_n 3, 1) := by decide +kernel
theorem d_75_234 : decode c_75 234 = .ok (.ldc2_w 179, 3) := by decide +kernel
theorem d_75_237 : decode c_75 237 = .ok (.lcmp, 1) := by decide +kernel
theorem d_75_238 : decode c_75 238 = .ok (.ifCond .ne 8, 3) := by decide +kernel
theorem d_75_241 : decode c_75 241 = .ok (.bipush 16, 2) := by decide +kernel
theorem d_75_243 : decode c_75 243 = .ok (.goto 4, 3) := by decide +kernel
theorem d_75_246 : decode c_75 246 = .ok (.iconst 0, 1) := by decide +kernel
theorem d_75_247 : decode c_75 247 = .ok (.ireturn, 1) := by decide +kernel
theorem d_76_0 : decode c_76 0 = .ok (.iconst 1, 1) := by decide +kernel
theorem d_76_1 : decode c_76 1 = .ok (.istore_n 3, 1) := by decide +kernel
theorem d_76_2 : decode c_76 2 = .ok (.iload_n 3, 1) := by decide +kernel
theorem d_76_3 : decode c_76 3 = .ok (.aload_n 0, 1) := by decide +kernel
theorem d_76_4 : decode c_76 4 = .ok (.getfield 181, 3) := by decide +kernel
theorem d_76_7 : decode c_76 7 = .ok (.if_icmp .gt 91, 3) := by decide +kernel
theorem d_76_10 : decode c_76 10 = .ok (.aload_n 0, 1) := by decide +kernel
theorem d_76_11 : decode c_76 11 = .ok (.getfield 13, 3) := by decide +kernel
theorem d_76_14 : decode c_76 14 = .ok (.iload_n 3, 1) := by decide +kernel
theorem d_76_15 : decode c_76 15 = .ok (.iaload, 1) := by decide +kernel
theorem d_76_16 : decode c_76 16 = .ok (.iload_n 2, 1) := by decide +kernel
theorem d_76_17 : decode c_76 17 = .ok (.iload_n 1, 1) := by decide +kernel
theorem d_76_18 : decode c_76 18 = .ok (.isub, 1) := by decide +kernel
theorem d_76_19 : decode c_76 19 = .ok (.if_icmp .ne 7, 3) := by decide +kernel
theorem d_76_22 : decode c_76 22 = .ok (.iconst 1, 1) := by decide +kernel
theorem d_76_23 : decode c_76 23 = .ok (.goto 4, 3) := by decide +kernel
theorem d_76_26 : decode c_76 26 = .ok (.iconst 0, 1) := by decide +kernel
theorem d_76_27 : decode c_76 27 = .ok (.istore 4, 2) := by decide +kernel
theorem d_76_29 : decode c_76 29 = .ok (.iconst 0, 1) := by decide +kernel
theorem d_76_30 : decode c_76 30 = .ok (.istore 5, 2) := by decide +kernel
theorem d_76_32 : decode c_76 32 = .ok (.iload 5, 2) := by decide +kernel
theorem d_76_34 : decode c_76 34 = .ok (.aload_n 0, 1) := by decide +kernel
theorem d_76_35 : decode c_76 35 = .ok (.getfield 13, 3) := by decide +kernel
theorem d_76_38 : decode c_76 38 = .ok (.iload_n 3, 1) := by decide +kernel
theorem d_76_39 : decode c_76 39 = .ok (.iaload, 1) := by decide +kernel
theorem d_76_40 : decode c_76 40 = .ok (.if_icmp .ge 45, 3) := by decide +kernel
theorem d_76_43 : decode c_76 43 = .ok (.iload 4, 2) := by decide +kernel
theorem d_76_45 : decode c_76 45 = .ok (.ifCond .eq 40, 3) := by decide +kernel
theorem d_76_48 : decode c_76 48 = .ok (.aload_n 0, 1) := by decide +kernel
theorem d_76_49 : decode c_76 49 = .ok (.getfield 16, 3) := by decide +kernel
theorem d_76_52 : decode c_76 52 = .ok (.bipush 12, 2) := by decide +kernel
theorem d_76_54 : decode c_76 54 = .ok (.iload_n 3, 1) := by decide +kernel
theorem d_76_55 : decode c_76 55 = .ok (.imul, 1) := by decide +kernel
theorem d_76_56 : decode c_76 56 = .ok (.iload 5, 2) := by decide +kernel
theorem d_76_58 : decode c_76 58 = .ok (.iadd, 1) := by decide +kernel
theorem d_76_59 : decode c_76 59 = .ok (.iaload, 1) := by decide +kernel
theorem d_76_60 : decode c_76 60 = .ok (.aload_n 0, 1) := by decide +kernel
theorem d_76_61 : decode c_76 61 = .ok (.getfield 7, 3) := by decide +kernel
theorem d_76_64 : decode c_76 64 = .ok (.iload_n 1, 1) := by decide +kernel
theorem d_76_65 : decode c_76 65 = .ok (.iload 5, 2) := by decide +kernel
theorem d_76_67 : decode c_76 67 = .ok (.iadd, 1) := by decide +kernel
theorem d_76_68 : decode c_76 68 = .ok (.iaload, 1) := by decide +kernel
theorem d_76_69 : decode c_76 69 = .ok (.if_icmp .ne 7, 3) := by decide +kernel
theorem d_76_72 : decode c_76 72 = .ok (.iconst 1, 1) := by decide +kernel
theorem d_76_73 : decode c_76 73 = .ok (.goto 4, 3) := by decide +kernel
theorem d_76_76 : decode c_76 76 = .ok (.iconst 0, 1) := by decide +kernel
theorem d_76_77 : decode c_76 77 = .ok (.istore 4, 2) := by decide +kernel
theorem d_76_79 : decode c_76 79 = .ok (.iinc 5 1, 3) := by decide +kernel
theorem d_76_82 : decode c_76 82 = .ok (.goto (-50), 3) := by decide +kernel
theorem d_76_85 : decode c_76 85 = .ok (.iload 4, 2) := by decide +kernel
theorem d_76_87 : decode c_76 87 = .ok (.ifCond .eq 5, 3) := by decide +kernel
theorem d_76_90 : decode c_76 90 = .ok (.iload_n 3, 1) := by decide +kernel
theorem d_76_91 : decode c_76 91 = .ok (.ireturn, 1) := by decide +kernel
theorem d_76_92 : decode c_76 92 = .ok (.iinc 3 1, 3) := by decide +kernel
theorem d_76_95 : decode c_76 95 = .ok (.goto (-93), 3) := by decide +kernel
theorem d_76_98 : decode c_76 98 = .ok (.aload_n 0, 1) := by decide +kernel
theorem d_76_99 : decode c_76 99 = .ok (.dup, 1) := by decide +kernel
theorem d_76_100 : decode c_76 100 = .ok (.getfield 181, 3) := by decide +kernel
theorem d_76_103 : decode c_76 103 = .ok (.iconst 1, 1) := by decide +kernel
theorem d_76_104 : decode c_76 104 = .ok (.iadd, 1) := by decide +kernel
theorem d_76_105 : decode c_76 105 = .ok (.putfield 181, 3) := by decide +kernel
theorem d_76_108 : decode c_76 108 = .ok (.aload_n 0, 1) := by decide +kernel
theorem d_76_109 : decode c_76 109 = .ok (.getfield 13, 3) := by decide +kernel
theorem d_76_112 : decode c_76 112 = .ok (.aload_n 0, 1) := by decide +kernel
theorem d_76_113 : decode c_76 113 = .ok (.getfield 181, 3) := by decide +kernel
theorem d_76_116 : decode c_76 116 = .ok (.iload_n 2, 1) := by decide +kernel
theorem d_76_117 : decode c_76 117 = .ok (.iload_n 1, 1) := by decide +kernel
theorem d_76_118 : decode c_76 118 = .ok (.isub, 1) := by decide +kernel
theorem d_76_119 : decode c_76 119 = .ok (.iastore, 1) := by decide +kernel
theorem d_76_120 : decode c_76 120 = .ok (.iload_n 1, 1) := by decide +kernel
theorem d_76_121 : decode c_76 121 = .ok (.istore_n 3, 1) := by decide +kernel
theorem d_76_122 : decode c_76 122 = .ok (.iload_n 3, 1) := by decide +kernel
theorem d_76_123 : decode c_76 123 = .ok (.iload_n 2, 1) := by decide +kernel
theorem d_76_124 : decode c_76 124 = .ok (.if_icmp .ge 31, 3) := by decide +kernel
theorem d_76_127 : decode c_76 127 = .ok (.aload_n 0, 1) := by decide +kernel
theorem d_76_128 : decode c_76 128 = .ok (.getfield 16, 3) := by decide +kernel
theorem d_76_131 : decode c_76 131 = .ok (.bipush 12, 2) := by decide +kernel
theorem d_76_133 : decode c_76 133 = .ok (.aload_n 0, 1) := by decide +kernel
theorem d_76_134 : decode c_76 134 = .ok (.getfield 181, 3) := by decide +kernel
theorem d_76_137 : decode c_76 137 = .ok (.imul, 1) := by decide +kernel
theorem d_76_138 : decode c_76 138 = .ok (.iload_n 3, 1) := by decide +kernel
theorem d_76_139 : decode c_76 139 = .ok (.iadd, 1) := by decide +kernel
theorem d_76_140 : decode c_76 140 = .ok (.iload_n 1, 1) := by decide +kernel
theorem d_76_141 : decode c_76 141 = .ok (.isub, 1) := by decide +kernel
theorem d_76_142 : decode c_76 142 = .ok (.aload_n 0, 1) := by decide +kernel
theorem d_76_143 : decode c_76 143 = .ok (.getfield 7, 3) := by decide +kernel
theorem d_76_146 : decode c_76 146 = .ok (.iload_n 3, 1) := by decide +kernel
theorem d_76_147 : decode c_76 147 = .ok (.iaload, 1) := by decide +kernel
theorem d_76_148 : decode c_76 148 = .ok (.iastore, 1) := by decide +kernel
theorem d_76_149 : decode c_76 149 = .ok (.iinc 3 1, 3) := by decide +kernel
theorem d_76_152 : decode c_76 152 = .ok (.goto (-30), 3) := by decide +kernel
theorem d_76_155 : decode c_76 155 = .ok (.aload_n 0, 1) := by decide +kernel
theorem d_76_156 : decode c_76 156 = .ok (.getfield 181, 3) := by decide +kernel
theorem d_76_159 : decode c_76 159 = .ok (.ireturn, 1) := by decide +kernel
theorem d_77_0 : decode c_77 0 = .ok (.aload_n 0, 1) := by decide +kernel
theorem d_77_1 : decode c_77 1 = .ok (.invokevirtual 184, 3) := by decide +kernel
theorem d_77_4 : decode c_77 4 = .ok (.bipush 9, 2) := by decide +kernel
theorem d_77_6 : decode c_77 6 = .ok (.if_icmp .eq 30, 3) := by decide +kernel
theorem d_77_9 : decode c_77 9 = .ok (.aload_n 0, 1) := by decide +kernel
theorem d_77_10 : decode c_77 10 = .ok (.invokevirtual 184, 3) := by decide +kernel
theorem d_77_13 : decode c_77 13 = .ok (.bipush 10, 2) := by decide +kernel
theorem d_77_15 : decode c_77 15 = .ok (.if_icmp .eq 21, 3) := by decide +kernel
theorem d_77_18 : decode c_77 18 = .ok (.aload_n 0, 1) := by decide +kernel
theorem d_77_19 : decode c_77 19 = .ok (.invokevirtual 184, 3) := by decide +kernel
theorem d_77_22 : decode c_77 22 = .ok (.bipush 13, 2) := by decide +kernel
theorem d_77_24 : decode c_77 24 = .ok (.if_icmp .eq 12, 3) := by decide +kernel
theorem d_77_27 : decode c_77 27 = .ok (.aload_n 0, 1) := by decide +kernel
theorem d_77_28 : decode c_77 28 = .ok (.invokevirtual 184, 3) := by decide +kernel
theorem d_77_31 : decode c_77 31 = .ok (.bipush 32, 2) := by decide +kernel
theorem d_77_33 : decode c_77 33 = .ok (.if_icmp .ne 35, 3) := by decide +kernel
theorem d_77_36 : decode c_77 36 = .ok (.aload_n 0, 1) := by decide +kernel
theorem d_77_37 : decode c_77 37 = .ok (.invokevirtual 184, 3) := by decide +kernel
theorem d_77_40 : decode c_77 40 = .ok (.bipush 10, 2) := by decide +kernel
theorem d_77_42 : decode c_77 42 = .ok (.if_icmp .ne 13, 3) := by decide +kernel
theorem d_77_45 : decode c_77 45 = .ok (.aload_n 0, 1) := by decide +kernel
theorem d_77_46 : decode c_77 46 = .ok (.dup, 1) := by decide +kernel
theorem d_77_47 : decode c_77 47 = .ok (.getfield 188, 3) := by decide +kernel
theorem d_77_50 : decode c_77 50 = .ok (.iconst 1, 1) := by decide +kernel
theorem d_77_51 : decode c_77 51 = .ok (.iadd, 1) := by decide +kernel
theorem d_77_52 : decode c_77 52 = .ok (.putfield 188, 3) := by decide +kernel
theorem d_77_55 : decode c_77 55 = .ok (.aload_n 0, 1) := by decide +kernel
theorem d_77_56 : decode c_77 56 = .ok (.dup, 1) := by decide +kernel
theorem d_77_57 : decode c_77 57 = .ok (.getfield 142, 3) := by decide +kernel
theorem d_77_60 : decode c_77 60 = .ok (.iconst 1, 1) := by decide +kernel
theorem d_77_61 : decode c_77 61 = .ok (.iadd, 1) := by decide +kernel
theorem d_77_62 : decode c_77 62 = .ok (.putfield 142, 3) := by decide +kernel
theorem d_77_65 : decode c_77 65 = .ok (.goto (-65), 3) := by decide +kernel
theorem d_77_68 : decode c_77 68 = .ok (.aload_n 0, 1) := by decide +kernel
theorem d_77_69 : decode c_77 69 = .ok (.aload_n 0, 1) := by decide +kernel
theorem d_77_70 : decode c_77 70 = .ok (.getfield 188, 3) := by decide +kernel
theorem d_77_73 : decode c_77 73 = .ok (.putfield 191, 3) := by decide +kernel
theorem d_77_76 : decode c_77 76 = .ok (.aload_n 0, 1) := by decide +kernel
theorem d_77_77 : decode c_77 77 = .ok (.getfield 142, 3) := by decide +kernel
theorem d_77_80 : decode c_77 80 = .ok (.istore_n 1, 1) := by decide +kernel
theorem d_77_81 : decode c_77 81 = .ok (.aload_n 0, 1) := by decide +kernel
theorem d_77_82 : decode c_77 82 = .ok (.invokevirtual 184, 3) := by decide +kernel
theorem d_77_85 : decode c_77 85 = .ok (.istore_n 2, 1) := by decide +kernel
theorem d_77_86 : decode c_77 86 = .ok (.iload_n 2, 1) := by decide +kernel
theorem d_77_87 : decode c_77 87 = .ok (.ifCond .ge 11, 3) := by decide +kernel
theorem d_77_90 : decode c_77 90 = .ok (.aload_n 0, 1) := by decide +kernel
theorem d_77_91 : decode c_77 91 = .ok (.iconst 0, 1) := by decide +kernel
theorem d_77_92 : decode c_77 92 = .ok (.putfield 194, 3) := by decide +kernel
theorem d_77_95 : decode c_77 95 = .ok (.goto 292, 3) := by decide +kernel
theorem d_77_98 : decode c_77 98 = .ok (.iload_n 2, 1) := by decide +kernel
theorem d_77_99 : decode c_77 99 = .ok (.invokestatic 197, 3) := by decide +kernel
theorem d_77_102 : decode c_77 102 = .ok (.ifCond .eq 119, 3) := by decide +kernel
theorem d_77_105 : decode c_77 105 = .ok (.aload_n 0, 1) := by decide +kernel
theorem d_77_106 : decode c_77 106 = .ok (.invokevirtual 184, 3) := by decide +kernel
theorem d_77_109 : decode c_77 109 = .ok (.invokestatic 197, 3) := by decide +kernel
theorem d_77_112 : decode c_77 112 = .ok (.ifCond .ne 13, 3) := by decide +kernel
theorem d_77_115 : decode c_77 115 = .ok (.aload_n 0, 1) := by decide +kernel
theorem d_77_116 : decode c_77 116 = .ok (.invokevirtual 184, 3) := by decide +kernel
theorem d_77_119 : decode c_77 119 = .ok (.invokestatic 201, 3) := by decide +kernel
theorem d_77_122 : decode c_77 122 = .ok (.ifCond .eq 16, 3) := by decide +kernel
theorem d_77_125 : decode c_77 125 = .ok (.aload_n 0, 1) := by decide +kernel
theorem d_77_126 : decode c_77 126 = .ok (.dup, 1) := by decide +kernel
theorem d_77_127 : decode c_77 127 = .ok (.getfield 142, 3) := by decide +kernel
theorem d_77_130 : decode c_77 130 = .ok (.iconst 1, 1) := by decide +kernel
theorem d_77_131 : decode c_77 131 = .ok (.iadd, 1) := by decide +kernel
theorem d_77_132 : decode c_77 132 = .ok (.putfield 142, 3) := by decide +kernel
theorem d_77_135 : decode c_77 135 = .ok (.goto (-30), 3) := by decide +kernel
theorem d_77_138 : decode c_77 138 = .ok (.aload_n 0, 1) := by decide +kernel
theorem d_77_139 : decode c_77 139 = .ok (.aload_n 0, 1) := by decide +kernel
theorem d_77_140 : decode c_77 140 = .ok (.getfield 142, 3) := by decide +kernel
theorem d_77_143 : decode c_77 143 = .ok (.iload_n 1, 1) := by decide +kernel
theorem d_77_144 : decode c_77 144 = .ok (.isub, 1) := by decide +kernel
theorem d_77_145 : decode c_77 145 = .ok (.bipush 12, 2) := by decide +kernel
theorem d_77_147 : decode c_77 147 = .ok (.if_icmp .le 7, 3) := by decide +kernel
theorem d_77_150 : decode c_77 150 = .ok (.iconst 0, 1) := by decide +kernel
theorem d_77_151 : decode c_77 151 = .ok (.goto 12, 3) := by decide +kernel
theorem d_77_154 : decode c_77 154 = .ok (.aload_n 0, 1) := by decide +kernel
theorem d_77_155 : decode c_77 155 = .ok (.iload_n 1, 1) := by decide +kernel
theorem d_77_156 : decode c_77 156 = .ok (.aload_n 0, 1) := by decide +kernel
theorem d_77_157 : decode c_77 157 = .ok (.getfield 142, 3) := by decide +kernel
theorem d_77_160 : decode c_77 160 = .ok (.invokevirtual 204, 3) := by decide +kernel
theorem d_77_163 : decode c_77 163 = .ok (.putfield 208, 3) := by decide +kernel
theorem d_77_166 : decode c_77 166 = .ok (.aload_n 0, 1) := by decide +kernel
theorem d_77_167 : decode c_77 167 = .ok (.aload_n 0, 1) := by decide +kernel
theorem d_77_168 : decode c_77 168 = .ok (.getfield 142, 3) := by decide +kernel
theorem d_77_171 : decode c_77 171 = .ok (.iload_n 1, 1) := by decide +kernel
theorem d_77_172 : decode c_77 172 = .ok (.isub, 1) := by decide +kernel
theorem d_77_173 : decode c_77 173 = .ok (.bipush 12, 2) := by decide +kernel
theorem d_77_175 : decode c_77 175 = .ok (.if_icmp .le 7, 3) := by decide +kernel
theorem d_77_178 : decode c_77 178 = .ok (.iconst 5, 1) := by decide +kernel
theorem d_77_179 : decode c_77 179 = .ok (.goto 15, 3) := by decide +kernel
theorem d_77_182 : decode c_77 182 = .ok (.aload_n 0, 1) := by decide +kernel
theorem d_77_183 : decode c_77 183 = .ok (.getfield 208, 3) := by decide +kernel
theorem d_77_186 : decode c_77 186 = .ok (.ifCond .le 7, 3) := by decide +kernel
theorem d_77_189 : decode c_77 189 = .ok (.iconst 1, 1) := by decide +kernel
theorem d_77_190 : decode c_77 190 = .ok (.goto 4, 3) := by decide +kernel
theorem d_77_193 : decode c_77 193 = .ok (.iconst 2, 1) := by decide +kernel
theorem d_77_194 : decode c_77 194 = .ok (.putfield 194, 3) := by decide +kernel
theorem d_77_197 : decode c_77 197 = .ok (.aload_n 0, 1) := by decide +kernel
theorem d_77_198 : decode c_77 198 = .ok (.getfield 194, 3) := by decide +kernel
theorem d_77_201 : decode c_77 201 = .ok (.iconst 2, 1) := by decide +kernel
theorem d_77_202 : decode c_77 202 = .ok (.if_icmp .ne 185, 3) := by decide +kernel
theorem d_77_205 : decode c_77 205 = .ok (.aload_n 0, 1) := by decide +kernel
theorem d_77_206 : decode c_77 206 = .ok (.aload_n 0, 1) := by decide +kernel
theorem d_77_207 : decode c_77 207 = .ok (.iload_n 1, 1) := by decide +kernel
theorem d_77_208 : decode c_77 208 = .ok (.aload_n 0, 1) := by decide +kernel
theorem d_77_209 : decode c_77 209 = .ok (.getfield 142, 3) := by decide +kernel
theorem d_77_212 : decode c_77 212 = .ok (.invokevirtual 211, 3) := by decide +kernel
theorem d_77_215 : decode c_77 215 = .ok (.putfield 208, 3) := by decide +kernel
theorem d_77_218 : decode c_77 218 = .ok (.goto 169, 3) := by decide +kernel
theorem d_77_221 : decode c_77 221 = .ok (.iload_n 2, 1) := by decide +kernel
theorem d_77_222 : decode c_77 222 = .ok (.invokestatic 201, 3) := by decide +kernel
theorem d_77_225 : decode c_77 225 = .ok (.ifCond .eq 90, 3) := by decide +kernel
theorem d_77_228 : decode c_77 228 = .ok (.iconst 0, 1) := by decide +kernel
theorem d_77_229 : decode c_77 229 = .ok (.istore_n 3, 1) := by decide +kernel
theorem d_77_230 : decode c_77 230 = .ok (.aload_n 0, 1) := by decide +kernel
theorem d_77_231 : decode c_77 231 = .ok (.invokevirtual 184, 3) := by decide +kernel
theorem d_77_234 : decode c_77 234 = .ok (.invokestatic 201, 3) := by decide +kernel
theorem d_77_237 : decode c_77 237 = .ok (.ifCond .eq 40, 3) := by decide +kernel
theorem d_77_240 : decode c_77 240 = .ok (.aload_n 0, 1) := by decide +kernel
theorem d_77_241 : decode c_77 241 = .ok (.getfield 142, 3) := by decide +kernel
theorem d_77_244 : decode c_77 244 = .ok (.iload_n 1, 1) := by decide +kernel
theorem d_77_245 : decode c_77 245 = .ok (.isub, 1) := by decide +kernel
theorem d_77_246 : decode c_77 246 = .ok (.bipush 7, 2) := by decide +kernel
theorem d_77_248 : decode c_77 248 = .ok (.if_icmp .ge 29, 3) := by decide +kernel
theorem d_77_251 : decode c_77 251 = .ok (.bipush 10, 2) := by decide +kernel
theorem d_77_253 : decode c_77 253 = .ok (.iload_n 3, 1) := by decide +kernel
theorem d_77_254 : decode c_77 254 = .ok (.imul, 1) := by decide +kernel
theorem d_77_255 : decode c_77 255 = .ok (.aload_n 0, 1) := by decide +kernel
theorem d_77_256 : decode c_77 256 = .ok (.invokevirtual 184, 3) := by decide +kernel
theorem d_77_259 : decode c_77 259 = .ok (.iadd, 1) := by decide +kernel
theorem d_77_260 : decode c_77 260 = .ok (.bipush 48, 2) := by decide +kernel
theorem d_77_262 : decode c_77 262 = .ok (.isub, 1) := by decide +kernel
theorem d_77_263 : decode c_77 263 = .ok (.istore_n 3, 1) := by decide +kernel
theorem d_77_264 : decode c_77 264 = .ok (.aload_n 0, 1) := by decide +kernel
theorem d_77_265 : decode c_77 265 = .ok (.dup, 1) := by decide +kernel
theorem d_77_266 : decode c_77 266 = .ok (.getfield 142, 3) := by decide +kernel
theorem d_77_269 : decode c_77 269 = .ok (.iconst 1, 1) := by decide +kernel
theorem d_77_270 : decode c_77 270 = .ok (.iadd, 1) := by decide +kernel
theorem d_77_271 : decode c_77 271 = .ok (.putfield 142, 3) := by decide +kernel
theorem d_77_274 : decode c_77 274 = .ok (.goto (-44), 3) := by decide +kernel
theorem d_77_277 : decode c_77 277 = .ok (.aload_n 0, 1) := by decide +kernel
theorem d_77_278 : decode c_77 278 = .ok (.aload_n 0, 1) := by decide +kernel
theorem d_77_279 : decode c_77 279 = .ok (.getfield 142, 3) := by decide +kernel
theorem d_77_282 : decode c_77 282 = .ok (.iload_n 1, 1) := by decide +kernel
theorem d_77_283 : decode c_77 283 = .ok (.isub, 1) := by decide +kernel
theorem d_77_284 : decode c_77 284 = .ok (.bipush 6, 2) := by decide +kernel
theorem d_77_286 : decode c_77 286 = .ok (.if_icmp .gt 13, 3) := by decide +kernel
theorem d_77_289 : decode c_77 289 = .ok (.aload_n 0, 1) := by decide +kernel
theorem d_77_290 : decode c_77 290 = .ok (.invokevirtual 184, 3) := by decide +kernel
theorem d_77_293 : decode c_77 293 = .ok (.invokestatic 197, 3) := by decide +kernel
theorem d_77_296 : decode c_77 296 = .ok (.ifCond .eq 7, 3) := by decide +kernel
theorem d_77_299 : decode c_77 299 = .ok (.iconst 5, 1) := by decide +kernel
theorem d_77_300 : decode c_77 300 = .ok (.goto 4, 3) := by decide +kernel
theorem d_77_303 : decode c_77 303 = .ok (.iconst 3, 1) := by decide +kernel
theorem d_77_304 : decode c_77 304 = .ok (.putfield 194, 3) := by decide +kernel
theorem d_77_307 : decode c_77 307 = .ok (.aload_n 0, 1) := by decide +kernel
theorem d_77_308 : decode c_77 308 = .ok (.iload_n 3, 1) := by decide +kernel
theorem d_77_309 : decode c_77 309 = .ok (.putfield 208, 3) := by decide +kernel
theorem d_77_312 : decode c_77 312 = .ok (.goto 75, 3) := by decide +kernel
theorem d_77_315 : decode c_77 315 = .ok (.aload_n 0, 1) := by decide +kernel
theorem d_77_316 : decode c_77 316 = .ok (.iload_n 2, 1) := by decide +kernel
theorem d_77_317 : decode c_77 317 = .ok (.bipush 123, 2) := by decide +kernel
theorem d_77_319 : decode c_77 319 = .ok (.if_icmp .eq 45, 3) := by decide +kernel
theorem d_77_322 : decode c_77 322 = .ok (.iload_n 2, 1) := by decide +kernel
theorem d_77_323 : decode c_77 323 = .ok (.bipush 125, 2) := by decide +kernel
theorem d_77_325 : decode c_77 325 = .ok (.if_icmp .eq 39, 3) := by decide +kernel
theorem d_77_328 : decode c_77 328 = .ok (.iload_n 2, 1) := by decide +kernel
theorem d_77_329 : decode c_77 329 = .ok (.bipush 59, 2) := by decide +kernel
theorem d_77_331 : decode c_77 331 = .ok (.if_icmp .eq 33, 3) := by decide +kernel
theorem d_77_334 : decode c_77 334 = .ok (.iload_n 2, 1) := by decide +kernel
theorem d_77_335 : decode c_77 335 = .ok (.bipush 58, 2) := by decide +kernel
theorem d_77_337 : decode c_77 337 = .ok (.if_icmp .eq 27, 3) := by decide +kernel
theorem d_77_340 : decode c_77 340 = .ok (.iload_n 2, 1) := by decide +kernel
theorem d_77_341 : decode c_77 341 = .ok (.bipush 46, 2) := by decide +kernel
theorem d_77_343 : decode c_77 343 = .ok (.if_icmp .eq 21, 3) := by decide +kernel
theorem d_77_346 : decode c_77 346 = .ok (.iload_n 2, 1) := by decide +kernel
theorem d_77_347 : decode c_77 347 = .ok (.bipush 61, 2) := by decide +kernel
theorem d_77_349 : decode c_77 349 = .ok (.if_icmp .eq 15, 3) := by decide +kernel
theorem d_77_352 : decode c_77 352 = .ok (.iload_n 2, 1) := by decide +kernel
theorem d_77_353 : decode c_77 353 = .ok (.bipush 47, 2) := by decide +kernel
theorem d_77_355 : decode c_77 355 = .ok (.if_icmp .eq 9, 3) := by decide +kernel
theorem d_77_358 : decode c_77 358 = .ok (.iload_n 2, 1) := by decide +kernel
theorem d_77_359 : decode c_77 359 = .ok (.bipush 45, 2) := by decide +kernel
theorem d_77_361 : decode c_77 361 = .ok (.if_icmp .ne 7, 3) := by decide +kernel
theorem d_77_364 : decode c_77 364 = .ok (.iconst 4, 1) := by decide +kernel
theorem d_77_365 : decode c_77 365 = .ok (.goto 4, 3) := by decide +kernel
theorem d_77_368 : decode c_77 368 = .ok (.iconst 5, 1) := by decide +kernel
theorem d_77_369 : decode c_77 369 = .ok (.putfield 194, 3) := by decide +kernel
theorem d_77_372 : decode c_77 372 = .ok (.aload_n 0, 1) := by decide +kernel
theorem d_77_373 : decode c_77 373 = .ok (.iload_n 2, 1) := by decide +kernel
theorem d_77_374 : decode c_77 374 = .ok (.putfield 208, 3) := by decide +kernel
theorem d_77_377 : decode c_77 377 = .ok (.aload_n 0, 1) := by decide +kernel
theorem d_77_378 : decode c_77 378 = .ok (.dup, 1) := by decide +kernel
theorem d_77_379 : decode c_77 379 = .ok (.getfield 142, 3) := by decide +kernel
theorem d_77_382 : decode c_77 382 = .ok (.iconst 1, 1) := by decide +kernel
theorem d_77_383 : decode c_77 383 = .ok (.iadd, 1) := by decide +kernel
theorem d_77_384 : decode c_77 384 = .ok (.putfield 142, 3) := by decide +kernel
theorem d_77_387 : decode c_77 387 = .ok (.return_, 1) := by decide +kernel
theorem d_78_0 : decode c_78 0 = .ok (.aload_n 0, 1) := by decide +kernel
theorem d_78_1 : decode c_78 1 = .ok (.getfield 142, 3) := by decide +kernel
theorem d_78_4 : decode c_78 4 = .ok (.istore_n 1, 1) := by decide +kernel
theorem d_78_5 : decode c_78 5 = .ok (.iload_n 1, 1) := by decide +kernel
theorem d_78_6 : decode c_78 6 = .ok (.ifCond .le 37, 3) := by decide +kernel
theorem d_78_9 : decode c_78 9 = .ok (.aload_n 0, 1) := by decide +kernel
theorem d_78_10 : decode c_78 10 = .ok (.getfield 7, 3) := by decide +kernel
theorem d_78_13 : decode c_78 13 = .ok (.iload_n 1, 1) := by decide +kernel
theorem d_78_14 : decode c_78 14 = .ok (.iconst 1, 1) := by decide +kernel
theorem d_78_15 : decode c_78 15 = .ok (.isub, 1) := by decide +kernel
theorem d_78_16 : decode c_78 16 = .ok (.iaload, 1) := by decide +kernel
theorem d_78_17 : decode c_78 17 = .ok (.invokestatic 197, 3) := by decide +kernel
theorem d_78_20 : decode c_78 20 = .ok (.ifCond .ne 17, 3) := by decide +kernel
theorem d_78_23 : decode c_78 23 = .ok (.aload_n 0, 1) := by decide +kernel
theorem d_78_24 : decode c_78 24 = .ok (.getfield 7, 3) := by decide +kernel
theorem d_78_27 : decode c_78 27 = .ok (.iload_n 1, 1) := by decide +kernel
theorem d_78_28 : decode c_78 28 = .ok (.iconst 1, 1) := by decide +kernel
theorem d_78_29 : decode c_78 29 = .ok (.isub, 1) := by decide +kernel
theorem d_78_30 : decode c_78 30 = .ok (.iaload, 1) := by decide +kernel
theorem d_78_31 : decode c_78 31 = .ok (.invokestatic 201, 3) := by decide +kernel
theorem d_78_34 : decode c_78 34 = .ok (.ifCond .eq 9, 3) := by decide +kernel
theorem d_78_37 : decode c_78 37 = .ok (.iinc 1 (-1), 3) := by decide +kernel
theorem d_78_40 : decode c_78 40 = .ok (.goto (-35), 3) := by decide +kernel
theorem d_78_43 : decode c_78 43 = .ok (.aload_n 0, 1) := by decide +kernel
theorem d_78_44 : decode c_78 44 = .ok (.getfield 142, 3) := by decide +kernel
theorem d_78_47 : decode c_78 47 = .ok (.iload_n 1, 1) := by decide +kernel
theorem d_78_48 : decode c_78 48 = .ok (.isub, 1) := by decide +kernel
theorem d_78_49 : decode c_78 49 = .ok (.ireturn, 1) := by decide +kernel
theorem d_79_0 : decode c_79 0 = .ok (.aload_n 0, 1) := by decide +kernel
theorem d_79_1 : decode c_79 1 = .ok (.getfield 64, 3) := by decide +kernel
theorem d_79_4 : decode c_79 4 = .ok (.aload_n 0, 1) := by decide +kernel
theorem d_79_5 : decode c_79 5 = .ok (.getfield 214, 3) := by decide +kernel
theorem d_79_8 : decode c_79 8 = .ok (.iload_n 1, 1) := by decide +kernel
theorem d_79_9 : decode c_79 9 = .ok (.iastore, 1) := by decide +kernel
theorem d_79_10 : decode c_79 10 = .ok (.aload_n 0, 1) := by decide +kernel
theorem d_79_11 : decode c_79 11 = .ok (.dup, 1) := by decide +kernel
theorem d_79_12 : decode c_79 12 = .ok (.getfield 214, 3) := by decide +kernel
theorem d_79_15 : decode c_79 15 = .ok (.iconst 1, 1) := by decide +kernel
theorem d_79_16 : decode c_79 16 = .ok (.iadd, 1) := by decide +kernel
theorem d_79_17 : decode c_79 17 = .ok (.putfield 214, 3) := by decide +kernel
theorem d_79_20 : decode c_79 20 = .ok (.return_, 1) := by decide +kernel
theorem d_80_0 : decode c_80 0 = .ok (.iconst 1, 1) := by decide +kernel
theorem d_80_1 : decode c_80 1 = .ok (.istore_n 2, 1) := by decide +kernel
theorem d_80_2 : decode c_80 2 = .ok (.iload_n 2, 1) := by decide +kernel
theorem d_80_3 : decode c_80 3 = .ok (.iload_n 1, 1) := by decide +kernel
theorem d_80_4 : decode c_80 4 = .ok (.bipush 10, 2) := by decide +kernel
theorem d_80_6 : decode c_80 6 = .ok (.idiv, 1) := by decide +kernel
theorem d_80_7 : decode c_80 7 = .ok (.if_icmp .gt 11, 3) := by decide +kernel
theorem d_80_10 : decode c_80 10 = .ok (.iload_n 2, 1) := by decide +kernel
theorem d_80_11 : decode c_80 11 = .ok (.bipush 10, 2) := by decide +kernel
theorem d_80_13 : decode c_80 13 = .ok (.imul, 1) := by decide +kernel
theorem d_80_14 : decode c_80 14 = .ok (.istore_n 2, 1) := by decide +kernel
theorem d_80_15 : decode c_80 15 = .ok (.goto (-13), 3) := by decide +kernel
theorem d_80_18 : decode c_80 18 = .ok (.iload_n 2, 1) := by decide +kernel
theorem d_80_19 : decode c_80 19 = .ok (.ifCond .le 24, 3) := by decide +kernel
theorem d_80_22 : decode c_80 22 = .ok (.aload_n 0, 1) := by decide +kernel
theorem d_80_23 : decode c_80 23 = .ok (.bipush 48, 2) := by decide +kernel
theorem d_80_25 : decode c_80 25 = .ok (.iload_n 1, 1) := by decide +kernel
theorem d_80_26 : decode c_80 26 = .ok (.iload_n 2, 1) := by decide +kernel
theorem d_80_27 : decode c_80 27 = .ok (.idiv, 1) := by decide +kernel
theorem d_80_28 : decode c_80 28 = .ok (.bipush 10, 2) := by decide +kernel
theorem d_80_30 : decode c_80 30 = .ok (.irem, 1) := by decide +kernel
theorem d_80_31 : decode c_80 31 = .ok (.iadd, 1) := by decide +kernel
theorem d_80_32 : decode c_80 32 = .ok (.invokevirtual 217, 3) := by decide +kernel
theorem d_80_35 : decode c_80 35 = .ok (.iload_n 2, 1) := by decide +kernel
theorem d_80_36 : decode c_80 36 = .ok (.bipush 10, 2) := by decide +kernel
theorem d_80_38 : decode c_80 38 = .ok (.idiv, 1) := by decide +kernel
theorem d_80_39 : decode c_80 39 = .ok (.istore_n 2, 1) := by decide +kernel
theorem d_80_40 : decode c_80 40 = .ok (.goto (-22), 3) := by decide +kernel
theorem d_80_43 : decode c_80 43 = .ok (.return_, 1) := by decide +kernel
theorem d_81_0 : decode c_81 0 = .ok (.aload_n 0, 1) := by decide +kernel
theorem d_81_1 : decode c_81 1 = .ok (.getfield 214, 3) := by decide +kernel
theorem d_81_4 : decode c_81 4 = .ok (.aload_n 0, 1) := by decide +kernel
theorem d_81_5 : decode c_81 5 = .ok (.getfield 67, 3) := by decide +kernel
theorem d_81_8 : decode c_81 8 = .ok (.aload_n 0, 1) := by decide +kernel
theorem d_81_9 : decode c_81 9 = .ok (.getfield 221, 3) := by decide +kernel
theorem d_81_12 : decode c_81 12 = .ok (.iconst 1, 1) := by decide +kernel
theorem d_81_13 : decode c_81 13 = .ok (.isub, 1) := by decide +kernel
theorem d_81_14 : decode c_81 14 = .ok (.iaload, 1) := by decide +kernel
theorem d_81_15 : decode c_81 15 = .ok (.if_icmp .le 9, 3) := by decide +kernel
theorem d_81_18 : decode c_81 18 = .ok (.aload_n 0, 1) := by decide +kernel
theorem d_81_19 : decode c_81 19 = .ok (.bipush 32, 2) := by decide +kernel
theorem d_81_21 : decode c_81 21 = .ok (.invokevirtual 217, 3) := by decide +kernel
theorem d_81_24 : decode c_81 24 = .ok (.aload_n 0, 1) := by decide +kernel
theorem d_81_25 : decode c_81 25 = .ok (.getfield 194, 3) := by decide +kernel
theorem d_81_28 : decode c_81 28 = .ok (.iconst 3, 1) := by decide +kernel
theorem d_81_29 : decode c_81 29 = .ok (.if_icmp .ne 14, 3) := by decide +kernel
theorem d_81_32 : decode c_81 32 = .ok (.aload_n 0, 1) := by decide +kernel
theorem d_81_33 : decode c_81 33 = .ok (.aload_n 0, 1) := by decide +kernel
theorem d_81_34 : decode c_81 34 = .ok (.getfield 208, 3) := by decide +kernel
theorem d_81_37 : decode c_81 37 = .ok (.invokevirtual 224, 3) := by decide +kernel
theorem d_81_40 : decode c_81 40 = .ok (.goto 48, 3) := by decide +kernel
theorem d_81_43 : decode c_81 43 = .ok (.aload_n 0, 1) := by decide +kernel
theorem d_81_44 : decode c_81 44 = .ok (.getfield 194, 3) := by decide +kernel
theorem d_81_47 : decode c_81 47 = .ok (.iconst 4, 1) := by decide +kernel
theorem d_81_48 : decode c_81 48 = .ok (.if_icmp .ne 14, 3) := by decide +kernel
theorem d_81_51 : decode c_81 51 = .ok (.aload_n 0, 1) := by decide +kernel
theorem d_81_52 : decode c_81 52 = .ok (.aload_n 0, 1) := by decide +kernel
theorem d_81_53 : decode c_81 53 = .ok (.getfield 208, 3) := by decide +kernel
theorem d_81_56 : decode c_81 56 = .ok (.invokevirtual 217, 3) := by decide +kernel
theorem d_81_59 : decode c_81 59 = .ok (.goto 29, 3) := by decide +kernel
theorem d_81_62 : decode c_81 62 = .ok (.iload_n 1, 1) := by decide +kernel
theorem d_81_63 : decode c_81 63 = .ok (.istore_n 2, 1) := by decide +kernel
theorem d_81_64 : decode c_81 64 = .ok (.iload_n 2, 1) := by decide +kernel
theorem d_81_65 : decode c_81 65 = .ok (.aload_n 0, 1) := by decide +kernel
theorem d_81_66 : decode c_81 66 = .ok (.getfield 142, 3) := by decide +kernel
theorem d_81_69 : decode c_81 69 = .ok (.if_icmp .ge 19, 3) := by decide +kernel
theorem d_81_72 : decode c_81 72 = .ok (.aload_n 0, 1) := by decide +kernel
theorem d_81_73 : decode c_81 73 = .ok (.aload_n 0, 1) := by decide +kernel
theorem d_81_74 : decode c_81 74 = .ok (.getfield 7, 3) := by decide +kernel
theorem d_81_77 : decode c_81 77 = .ok (.iload_n 2, 1) := by decide +kernel
theorem d_81_78 : decode c_81 78 = .ok (.iaload, 1) := by decide +kernel
theorem d_81_79 : decode c_81 79 = .ok (.invokevirtual 217, 3) := by decide +kernel
theorem d_81_82 : decode c_81 82 = .ok (.iinc 2 1, 3) := by decide +kernel
theorem d_81_85 : decode c_81 85 = .ok (.goto (-21), 3) := by decide +kernel
theorem d_81_88 : decode c_81 88 = .ok (.return_, 1) := by decide +kernel
theorem d_82_0 : decode c_82 0 = .ok (.aload_n 0, 1) := by decide +kernel
theorem d_82_1 : decode c_82 1 = .ok (.aload_n 0, 1) := by decide +kernel
theorem d_82_2 : decode c_82 2 = .ok (.getfield 142, 3) := by decide +kernel
theorem d_82_5 : decode c_82 5 = .ok (.aload_n 0, 1) := by decide +kernel
theorem d_82_6 : decode c_82 6 = .ok (.invokevirtual 227, 3) := by decide +kernel
theorem d_82_9 : decode c_82 9 = .ok (.isub, 1) := by decide +kernel
theorem d_82_10 : decode c_82 10 = .ok (.invokevirtual 230, 3) := by decide +kernel
theorem d_82_13 : decode c_82 13 = .ok (.aload_n 0, 1) := by decide +kernel
theorem d_82_14 : decode c_82 14 = .ok (.invokevirtual 233, 3) := by decide +kernel
