theorem jm_0 {G : jx_Gv} : (jBs G).getD 0 [] = jbs_0 G := rfl
theorem jnl_0 : jNl 0 = 1 := rfl
theorem jm_1 {G : jx_Gv} : (jBs G).getD 1 [] = jbs_1 G := rfl
theorem jnl_1 : jNl 1 = 1 := rfl
theorem jm_2 {G : jx_Gv} : (jBs G).getD 2 [] = jbs_2 G := rfl
theorem jnl_2 : jNl 2 = 1 := rfl
theorem jm_3 {G : jx_Gv} : (jBs G).getD 3 [] = jbs_3 G := rfl
theorem jnl_3 : jNl 3 = 3 := rfl
theorem jm_4 {G : jx_Gv} : (jBs G).getD 4 [] = jbs_4 G := rfl
theorem jnl_4 : jNl 4 = 2 := rfl
theorem jm_5 {G : jx_Gv} : (jBs G).getD 5 [] = jbs_5 G := rfl
theorem jnl_5 : jNl 5 = 2 := rfl
theorem jm_6 {G : jx_Gv} : (jBs G).getD 6 [] = jbs_6 G := rfl
theorem jnl_6 : jNl 6 = 2 := rfl
theorem jm_7 {G : jx_Gv} : (jBs G).getD 7 [] = jbs_7 G := rfl
theorem jnl_7 : jNl 7 = 1 := rfl
theorem jm_8 {G : jx_Gv} : (jBs G).getD 8 [] = jbs_8 G := rfl
theorem jnl_8 : jNl 8 = 1 := rfl
theorem jm_9 {G : jx_Gv} : (jBs G).getD 9 [] = jbs_9 G := rfl
theorem jnl_9 : jNl 9 = 1 := rfl
theorem jm_10 {G : jx_Gv} : (jBs G).getD 10 [] = jbs_10 G := rfl
theorem jnl_10 : jNl 10 = 6 := rfl
theorem jm_11 {G : jx_Gv} : (jBs G).getD 11 [] = jbs_11 G := rfl
theorem jnl_11 : jNl 11 = 1 := rfl
theorem jm_12 {G : jx_Gv} : (jBs G).getD 12 [] = jbs_12 G := rfl
theorem jnl_12 : jNl 12 = 3 := rfl
theorem jm_13 {G : jx_Gv} : (jBs G).getD 13 [] = jbs_13 G := rfl
theorem jnl_13 : jNl 13 = 2 := rfl
theorem jm_14 {G : jx_Gv} : (jBs G).getD 14 [] = jbs_14 G := rfl
theorem jnl_14 : jNl 14 = 3 := rfl
theorem jm_15 {G : jx_Gv} : (jBs G).getD 15 [] = jbs_15 G := rfl
theorem jnl_15 : jNl 15 = 1 := rfl
theorem jm_16 {G : jx_Gv} : (jBs G).getD 16 [] = jbs_16 G := rfl
theorem jnl_16 : jNl 16 = 2 := rfl
theorem jm_17 {G : jx_Gv} : (jBs G).getD 17 [] = jbs_17 G := rfl
theorem jnl_17 : jNl 17 = 1 := rfl
theorem jm_18 {G : jx_Gv} : (jBs G).getD 18 [] = jbs_18 G := rfl
theorem jnl_18 : jNl 18 = 2 := rfl
theorem jm_19 {G : jx_Gv} : (jBs G).getD 19 [] = jbs_19 G := rfl
theorem jnl_19 : jNl 19 = 4 := rfl
theorem jm_20 {G : jx_Gv} : (jBs G).getD 20 [] = jbs_20 G := rfl
theorem jnl_20 : jNl 20 = 4 := rfl
theorem jm_21 {G : jx_Gv} : (jBs G).getD 21 [] = jbs_21 G := rfl
theorem jnl_21 : jNl 21 = 1 := rfl
theorem jm_22 {G : jx_Gv} : (jBs G).getD 22 [] = jbs_22 G := rfl
theorem jnl_22 : jNl 22 = 1 := rfl
theorem jm_23 {G : jx_Gv} : (jBs G).getD 23 [] = jbs_23 G := rfl
theorem jnl_23 : jNl 23 = 2 := rfl
theorem jm_24 {G : jx_Gv} : (jBs G).getD 24 [] = jbs_24 G := rfl
theorem jnl_24 : jNl 24 = 1 := rfl
theorem jm_25 {G : jx_Gv} : (jBs G).getD 25 [] = jbs_25 G := rfl
theorem jnl_25 : jNl 25 = 1 := rfl
theorem jm_26 {G : jx_Gv} : (jBs G).getD 26 [] = jbs_26 G := rfl
theorem jnl_26 : jNl 26 = 2 := rfl
theorem jm_27 {G : jx_Gv} : (jBs G).getD 27 [] = jbs_27 G := rfl
theorem jnl_27 : jNl 27 = 1 := rfl
theorem jm_28 {G : jx_Gv} : (jBs G).getD 28 [] = jbs_28 G := rfl
theorem jnl_28 : jNl 28 = 2 := rfl
theorem jm_29 {G : jx_Gv} : (jBs G).getD 29 [] = jbs_29 G := rfl
theorem jnl_29 : jNl 29 = 1 := rfl
theorem jm_30 {G : jx_Gv} : (jBs G).getD 30 [] = jbs_30 G := rfl
theorem jnl_30 : jNl 30 = 1 := rfl
theorem jm_31 {G : jx_Gv} : (jBs G).getD 31 [] = jbs_31 G := rfl
theorem jnl_31 : jNl 31 = 4 := rfl
theorem jm_32 {G : jx_Gv} : (jBs G).getD 32 [] = jbs_32 G := rfl
theorem jnl_32 : jNl 32 = 5 := rfl
theorem jm_33 {G : jx_Gv} : (jBs G).getD 33 [] = jbs_33 G := rfl
theorem jnl_33 : jNl 33 = 2 := rfl
theorem jm_34 {G : jx_Gv} : (jBs G).getD 34 [] = jbs_34 G := rfl
theorem jnl_34 : jNl 34 = 1 := rfl
theorem jm_35 {G : jx_Gv} : (jBs G).getD 35 [] = jbs_35 G := rfl
theorem jnl_35 : jNl 35 = 6 := rfl
theorem jm_36 {G : jx_Gv} : (jBs G).getD 36 [] = jbs_36 G := rfl
theorem jnl_36 : jNl 36 = 4 := rfl
theorem jm_37 {G : jx_Gv} : (jBs G).getD 37 [] = jbs_37 G := rfl
theorem jnl_37 : jNl 37 = 3 := rfl
theorem jm_38 {G : jx_Gv} : (jBs G).getD 38 [] = jbs_38 G := rfl
theorem jnl_38 : jNl 38 = 2 := rfl
theorem jm_39 {G : jx_Gv} : (jBs G).getD 39 [] = jbs_39 G := rfl
theorem jnl_39 : jNl 39 = 2 := rfl
theorem jm_40 {G : jx_Gv} : (jBs G).getD 40 [] = jbs_40 G := rfl
theorem jnl_40 : jNl 40 = 1 := rfl
theorem jm_41 {G : jx_Gv} : (jBs G).getD 41 [] = jbs_41 G := rfl
theorem jnl_41 : jNl 41 = 1 := rfl
theorem jm_42 {G : jx_Gv} : (jBs G).getD 42 [] = jbs_42 G := rfl
theorem jnl_42 : jNl 42 = 1 := rfl
theorem jm_43 {G : jx_Gv} : (jBs G).getD 43 [] = jbs_43 G := rfl
theorem jnl_43 : jNl 43 = 2 := rfl
theorem jm_44 {G : jx_Gv} : (jBs G).getD 44 [] = jbs_44 G := rfl
theorem jnl_44 : jNl 44 = 3 := rfl
theorem jm_45 {G : jx_Gv} : (jBs G).getD 45 [] = jbs_45 G := rfl
theorem jnl_45 : jNl 45 = 3 := rfl
theorem jm_46 {G : jx_Gv} : (jBs G).getD 46 [] = jbs_46 G := rfl
theorem jnl_46 : jNl 46 = 3 := rfl
theorem jm_47 {G : jx_Gv} : (jBs G).getD 47 [] = jbs_47 G := rfl
theorem jnl_47 : jNl 47 = 2 := rfl
theorem jm_48 {G : jx_Gv} : (jBs G).getD 48 [] = jbs_48 G := rfl
theorem jnl_48 : jNl 48 = 1 := rfl
theorem jm_49 {G : jx_Gv} : (jBs G).getD 49 [] = jbs_49 G := rfl
theorem jnl_49 : jNl 49 = 2 := rfl
theorem jm_50 {G : jx_Gv} : (jBs G).getD 50 [] = jbs_50 G := rfl
theorem jnl_50 : jNl 50 = 1 := rfl
theorem jm_51 {G : jx_Gv} : (jBs G).getD 51 [] = jbs_51 G := rfl
theorem jnl_51 : jNl 51 = 1 := rfl
theorem jm_52 {G : jx_Gv} : (jBs G).getD 52 [] = jbs_52 G := rfl
theorem jnl_52 : jNl 52 = 4 := rfl
theorem jm_53 {G : jx_Gv} : (jBs G).getD 53 [] = jbs_53 G := rfl
theorem jnl_53 : jNl 53 = 1 := rfl
theorem jm_54 {G : jx_Gv} : (jBs G).getD 54 [] = jbs_54 G := rfl
theorem jnl_54 : jNl 54 = 4 := rfl
theorem jm_55 {G : jx_Gv} : (jBs G).getD 55 [] = jbs_55 G := rfl
theorem jnl_55 : jNl 55 = 3 := rfl
theorem jm_56 {G : jx_Gv} : (jBs G).getD 56 [] = jbs_56 G := rfl
theorem jnl_56 : jNl 56 = 3 := rfl
theorem jm_57 {G : jx_Gv} : (jBs G).getD 57 [] = jbs_57 G := rfl
theorem jnl_57 : jNl 57 = 2 := rfl
theorem jm_58 {G : jx_Gv} : (jBs G).getD 58 [] = jbs_58 G := rfl
theorem jnl_58 : jNl 58 = 2 := rfl
theorem jm_59 {G : jx_Gv} : (jBs G).getD 59 [] = jbs_59 G := rfl
theorem jnl_59 : jNl 59 = 3 := rfl
theorem jm_60 {G : jx_Gv} : (jBs G).getD 60 [] = jbs_60 G := rfl
theorem jnl_60 : jNl 60 = 4 := rfl
theorem jm_61 {G : jx_Gv} : (jBs G).getD 61 [] = jbs_61 G := rfl
theorem jnl_61 : jNl 61 = 1 := rfl
theorem jm_62 {G : jx_Gv} : (jBs G).getD 62 [] = jbs_62 G := rfl
theorem jnl_62 : jNl 62 = 1 := rfl
theorem jm_63 {G : jx_Gv} : (jBs G).getD 63 [] = jbs_63 G := rfl
theorem jnl_63 : jNl 63 = 1 := rfl
theorem jm_64 {G : jx_Gv} : (jBs G).getD 64 [] = jbs_64 G := rfl
theorem jnl_64 : jNl 64 = 3 := rfl
theorem jm_65 {G : jx_Gv} : (jBs G).getD 65 [] = jbs_65 G := rfl
theorem jnl_65 : jNl 65 = 4 := rfl
theorem jm_66 {G : jx_Gv} : (jBs G).getD 66 [] = jbs_66 G := rfl
theorem jnl_66 : jNl 66 = 5 := rfl
theorem jm_67 {G : jx_Gv} : (jBs G).getD 67 [] = jbs_67 G := rfl
theorem jnl_67 : jNl 67 = 3 := rfl
theorem jm_68 {G : jx_Gv} : (jBs G).getD 68 [] = jbs_68 G := rfl
theorem jnl_68 : jNl 68 = 6 := rfl
theorem jm_69 {G : jx_Gv} : (jBs G).getD 69 [] = jbs_69 G := rfl
theorem jnl_69 : jNl 69 = 3 := rfl
theorem jm_70 {G : jx_Gv} : (jBs G).getD 70 [] = jbs_70 G := rfl
theorem jnl_70 : jNl 70 = 4 := rfl
theorem jm_71 {G : jx_Gv} : (jBs G).getD 71 [] = jbs_71 G := rfl
theorem jnl_71 : jNl 71 = 1 := rfl
theorem jm_72 {G : jx_Gv} : (jBs G).getD 72 [] = jbs_72 G := rfl
theorem jnl_72 : jNl 72 = 1 := rfl
theorem jm_73 {G : jx_Gv} : (jBs G).getD 73 [] = jbs_73 G := rfl
theorem jnl_73 : jNl 73 = 1 := rfl
theorem jm_74 {G : jx_Gv} : (jBs G).getD 74 [] = jbs_74 G := rfl
theorem jnl_74 : jNl 74 = 6 := rfl
theorem jm_75 {G : jx_Gv} : (jBs G).getD 75 [] = jbs_75 G := rfl
theorem jnl_75 : jNl 75 = 6 := rfl
theorem jm_76 {G : jx_Gv} : (jBs G).getD 76 [] = jbs_76 G := rfl
theorem jnl_76 : jNl 76 = 6 := rfl
theorem jm_77 {G : jx_Gv} : (jBs G).getD 77 [] = jbs_77 G := rfl
theorem jnl_77 : jNl 77 = 4 := rfl
theorem jm_78 {G : jx_Gv} : (jBs G).getD 78 [] = jbs_78 G := rfl
theorem jnl_78 : jNl 78 = 2 := rfl
theorem jm_79 {G : jx_Gv} : (jBs G).getD 79 [] = jbs_79 G := rfl
theorem jnl_79 : jNl 79 = 2 := rfl
theorem jm_80 {G : jx_Gv} : (jBs G).getD 80 [] = jbs_80 G := rfl
theorem jnl_80 : jNl 80 = 3 := rfl
theorem jm_81 {G : jx_Gv} : (jBs G).getD 81 [] = jbs_81 G := rfl
theorem jnl_81 : jNl 81 = 3 := rfl
theorem jm_82 {G : jx_Gv} : (jBs G).getD 82 [] = jbs_82 G := rfl
theorem jnl_82 : jNl 82 = 1 := rfl
theorem jm_83 {G : jx_Gv} : (jBs G).getD 83 [] = jbs_83 G := rfl
theorem jnl_83 : jNl 83 = 2 := rfl
theorem jm_84 {G : jx_Gv} : (jBs G).getD 84 [] = jbs_84 G := rfl
theorem jnl_84 : jNl 84 = 2 := rfl
theorem jm_85 {G : jx_Gv} : (jBs G).getD 85 [] = jbs_85 G := rfl
theorem jnl_85 : jNl 85 = 2 := rfl
theorem jm_86 {G : jx_Gv} : (jBs G).getD 86 [] = jbs_86 G := rfl
theorem jnl_86 : jNl 86 = 2 := rfl
theorem jm_87 {G : jx_Gv} : (jBs G).getD 87 [] = jbs_87 G := rfl
theorem jnl_87 : jNl 87 = 4 := rfl
theorem jm_88 {G : jx_Gv} : (jBs G).getD 88 [] = jbs_88 G := rfl
theorem jnl_88 : jNl 88 = 6 := rfl
theorem jm_89 {G : jx_Gv} : (jBs G).getD 89 [] = jbs_89 G := rfl
theorem jnl_89 : jNl 89 = 5 := rfl
theorem jm_90 {G : jx_Gv} : (jBs G).getD 90 [] = jbs_90 G := rfl
theorem jnl_90 : jNl 90 = 2 := rfl
theorem jm_91 {G : jx_Gv} : (jBs G).getD 91 [] = jbs_91 G := rfl
theorem jnl_91 : jNl 91 = 2 := rfl
theorem jm_92 {G : jx_Gv} : (jBs G).getD 92 [] = jbs_92 G := rfl
theorem jnl_92 : jNl 92 = 4 := rfl
theorem jm_93 {G : jx_Gv} : (jBs G).getD 93 [] = jbs_93 G := rfl
theorem jnl_93 : jNl 93 = 3 := rfl
theorem jm_94 {G : jx_Gv} : (jBs G).getD 94 [] = jbs_94 G := rfl
theorem jnl_94 : jNl 94 = 2 := rfl
theorem jm_95 {G : jx_Gv} : (jBs G).getD 95 [] = jbs_95 G := rfl
theorem jnl_95 : jNl 95 = 3 := rfl
theorem jm_96 {G : jx_Gv} : (jBs G).getD 96 [] = jbs_96 G := rfl
theorem jnl_96 : jNl 96 = 2 := rfl
theorem jm_97 {G : jx_Gv} : (jBs G).getD 97 [] = jbs_97 G := rfl
theorem jnl_97 : jNl 97 = 7 := rfl
theorem jm_98 {G : jx_Gv} : (jBs G).getD 98 [] = jbs_98 G := rfl
theorem jnl_98 : jNl 98 = 2 := rfl
theorem jm_99 {G : jx_Gv} : (jBs G).getD 99 [] = jbs_99 G := rfl
theorem jnl_99 : jNl 99 = 3 := rfl
theorem jm_100 {G : jx_Gv} : (jBs G).getD 100 [] = jbs_100 G := rfl
theorem jnl_100 : jNl 100 = 2 := rfl
theorem jm_101 {G : jx_Gv} : (jBs G).getD 101 [] = jbs_101 G := rfl
theorem jnl_101 : jNl 101 = 2 := rfl
theorem jm_102 {G : jx_Gv} : (jBs G).getD 102 [] = jbs_102 G := rfl
theorem jnl_102 : jNl 102 = 3 := rfl
theorem jm_103 {G : jx_Gv} : (jBs G).getD 103 [] = jbs_103 G := rfl
theorem jnl_103 : jNl 103 = 5 := rfl
theorem jm_104 {G : jx_Gv} : (jBs G).getD 104 [] = jbs_104 G := rfl
theorem jnl_104 : jNl 104 = 1 := rfl
theorem jm_105 {G : jx_Gv} : (jBs G).getD 105 [] = jbs_105 G := rfl
theorem jnl_105 : jNl 105 = 2 := rfl
theorem jm_106 {G : jx_Gv} : (jBs G).getD 106 [] = jbs_106 G := rfl
theorem jnl_106 : jNl 106 = 1 := rfl
theorem jm_107 {G : jx_Gv} : (jBs G).getD 107 [] = jbs_107 G := rfl
theorem jnl_107 : jNl 107 = 6 := rfl
theorem jm_108 {G : jx_Gv} : (jBs G).getD 108 [] = jbs_108 G := rfl
theorem jnl_108 : jNl 108 = 2 := rfl
theorem jm_109 {G : jx_Gv} : (jBs G).getD 109 [] = jbs_109 G := rfl
theorem jnl_109 : jNl 109 = 5 := rfl
theorem jm_110 {G : jx_Gv} : (jBs G).getD 110 [] = jbs_110 G := rfl
theorem jnl_110 : jNl 110 = 6 := rfl
theorem jm_111 {G : jx_Gv} : (jBs G).getD 111 [] = jbs_111 G := rfl
theorem jnl_111 : jNl 111 = 4 := rfl
theorem jm_112 {G : jx_Gv} : (jBs G).getD 112 [] = jbs_112 G := rfl
theorem jnl_112 : jNl 112 = 5 := rfl
theorem jm_113 {G : jx_Gv} : (jBs G).getD 113 [] = jbs_113 G := rfl
theorem jnl_113 : jNl 113 = 2 := rfl
theorem jm_114 {G : jx_Gv} : (jBs G).getD 114 [] = jbs_114 G := rfl
theorem jnl_114 : jNl 114 = 4 := rfl
theorem jm_115 {G : jx_Gv} : (jBs G).getD 115 [] = jbs_115 G := rfl
theorem jnl_115 : jNl 115 = 6 := rfl
theorem jm_116 {G : jx_Gv} : (jBs G).getD 116 [] = jbs_116 G := rfl
theorem jnl_116 : jNl 116 = 5 := rfl
theorem jm_117 {G : jx_Gv} : (jBs G).getD 117 [] = jbs_117 G := rfl
theorem jnl_117 : jNl 117 = 2 := rfl
theorem jm_118 {G : jx_Gv} : (jBs G).getD 118 [] = jbs_118 G := rfl
theorem jnl_118 : jNl 118 = 5 := rfl
theorem jm_119 {G : jx_Gv} : (jBs G).getD 119 [] = jbs_119 G := rfl
theorem jnl_119 : jNl 119 = 6 := rfl
theorem jm_120 {G : jx_Gv} : (jBs G).getD 120 [] = jbs_120 G := rfl
theorem jnl_120 : jNl 120 = 3 := rfl
theorem jm_121 {G : jx_Gv} : (jBs G).getD 121 [] = jbs_121 G := rfl
theorem jnl_121 : jNl 121 = 3 := rfl
theorem jm_122 {G : jx_Gv} : (jBs G).getD 122 [] = jbs_122 G := rfl
theorem jnl_122 : jNl 122 = 2 := rfl
theorem jm_123 {G : jx_Gv} : (jBs G).getD 123 [] = jbs_123 G := rfl
theorem jnl_123 : jNl 123 = 3 := rfl
theorem jm_124 {G : jx_Gv} : (jBs G).getD 124 [] = jbs_124 G := rfl
theorem jnl_124 : jNl 124 = 2 := rfl
theorem jm_125 {G : jx_Gv} : (jBs G).getD 125 [] = jbs_125 G := rfl
theorem jnl_125 : jNl 125 = 2 := rfl
theorem jm_126 {G : jx_Gv} : (jBs G).getD 126 [] = jbs_126 G := rfl
theorem jnl_126 : jNl 126 = 5 := rfl
theorem jm_127 {G : jx_Gv} : (jBs G).getD 127 [] = jbs_127 G := rfl
theorem jnl_127 : jNl 127 = 6 := rfl
theorem jm_128 {G : jx_Gv} : (jBs G).getD 128 [] = jbs_128 G := rfl
theorem jnl_128 : jNl 128 = 3 := rfl
theorem jm_129 {G : jx_Gv} : (jBs G).getD 129 [] = jbs_129 G := rfl
theorem jnl_129 : jNl 129 = 5 := rfl
theorem jm_130 {G : jx_Gv} : (jBs G).getD 130 [] = jbs_130 G := rfl
theorem jnl_130 : jNl 130 = 6 := rfl
theorem jm_131 {G : jx_Gv} : (jBs G).getD 131 [] = jbs_131 G := rfl
theorem jnl_131 : jNl 131 = 3 := rfl
theorem jm_132 {G : jx_Gv} : (jBs G).getD 132 [] = jbs_132 G := rfl
theorem jnl_132 : jNl 132 = 3 := rfl
theorem jm_133 {G : jx_Gv} : (jBs G).getD 133 [] = jbs_133 G := rfl
theorem jnl_133 : jNl 133 = 4 := rfl
theorem jm_134 {G : jx_Gv} : (jBs G).getD 134 [] = jbs_134 G := rfl
theorem jnl_134 : jNl 134 = 4 := rfl
theorem jm_135 {G : jx_Gv} : (jBs G).getD 135 [] = jbs_135 G := rfl
theorem jnl_135 : jNl 135 = 5 := rfl
theorem jm_136 {G : jx_Gv} : (jBs G).getD 136 [] = jbs_136 G := rfl
theorem jnl_136 : jNl 136 = 2 := rfl
theorem jm_137 {G : jx_Gv} : (jBs G).getD 137 [] = jbs_137 G := rfl
theorem jnl_137 : jNl 137 = 6 := rfl
theorem jm_138 {G : jx_Gv} : (jBs G).getD 138 [] = jbs_138 G := rfl
theorem jnl_138 : jNl 138 = 4 := rfl
theorem jm_139 {G : jx_Gv} : (jBs G).getD 139 [] = jbs_139 G := rfl
theorem jnl_139 : jNl 139 = 2 := rfl
theorem jm_140 {G : jx_Gv} : (jBs G).getD 140 [] = jbs_140 G := rfl
theorem jnl_140 : jNl 140 = 4 := rfl
theorem jm_141 {G : jx_Gv} : (jBs G).getD 141 [] = jbs_141 G := rfl
theorem jnl_141 : jNl 141 = 6 := rfl
theorem jm_142 {G : jx_Gv} : (jBs G).getD 142 [] = jbs_142 G := rfl
theorem jnl_142 : jNl 142 = 4 := rfl
theorem jm_143 {G : jx_Gv} : (jBs G).getD 143 [] = jbs_143 G := rfl
theorem jnl_143 : jNl 143 = 6 := rfl
theorem jm_144 {G : jx_Gv} : (jBs G).getD 144 [] = jbs_144 G := rfl
theorem jnl_144 : jNl 144 = 3 := rfl
theorem jm_145 {G : jx_Gv} : (jBs G).getD 145 [] = jbs_145 G := rfl
theorem jnl_145 : jNl 145 = 3 := rfl
theorem jm_146 {G : jx_Gv} : (jBs G).getD 146 [] = jbs_146 G := rfl
theorem jnl_146 : jNl 146 = 10 := rfl
theorem jm_147 {G : jx_Gv} : (jBs G).getD 147 [] = jbs_147 G := rfl
theorem jnl_147 : jNl 147 = 8 := rfl
theorem jm_148 {G : jx_Gv} : (jBs G).getD 148 [] = jbs_148 G := rfl
theorem jnl_148 : jNl 148 = 7 := rfl
theorem jm_149 {G : jx_Gv} : (jBs G).getD 149 [] = jbs_149 G := rfl
theorem jnl_149 : jNl 149 = 5 := rfl
theorem jm_150 {G : jx_Gv} : (jBs G).getD 150 [] = jbs_150 G := rfl
theorem jnl_150 : jNl 150 = 7 := rfl
theorem jm_151 {G : jx_Gv} : (jBs G).getD 151 [] = jbs_151 G := rfl
theorem jnl_151 : jNl 151 = 3 := rfl
theorem jm_152 {G : jx_Gv} : (jBs G).getD 152 [] = jbs_152 G := rfl
theorem jnl_152 : jNl 152 = 4 := rfl
theorem jm_153 {G : jx_Gv} : (jBs G).getD 153 [] = jbs_153 G := rfl
theorem jnl_153 : jNl 153 = 2 := rfl
theorem jm_154 {G : jx_Gv} : (jBs G).getD 154 [] = jbs_154 G := rfl
theorem jnl_154 : jNl 154 = 3 := rfl
theorem jm_155 {G : jx_Gv} : (jBs G).getD 155 [] = jbs_155 G := rfl
theorem jnl_155 : jNl 155 = 5 := rfl
theorem jm_156 {G : jx_Gv} : (jBs G).getD 156 [] = jbs_156 G := rfl
theorem jnl_156 : jNl 156 = 6 := rfl
theorem jm_157 {G : jx_Gv} : (jBs G).getD 157 [] = jbs_157 G := rfl
theorem jnl_157 : jNl 157 = 4 := rfl
theorem jm_158 {G : jx_Gv} : (jBs G).getD 158 [] = jbs_158 G := rfl
theorem jnl_158 : jNl 158 = 2 := rfl
theorem jm_159 {G : jx_Gv} : (jBs G).getD 159 [] = jbs_159 G := rfl
theorem jnl_159 : jNl 159 = 2 := rfl
theorem jm_160 {G : jx_Gv} : (jBs G).getD 160 [] = jbs_160 G := rfl
theorem jnl_160 : jNl 160 = 5 := rfl
theorem jm_161 {G : jx_Gv} : (jBs G).getD 161 [] = jbs_161 G := rfl
theorem jnl_161 : jNl 161 = 10 := rfl
theorem jm_162 {G : jx_Gv} : (jBs G).getD 162 [] = jbs_162 G := rfl
theorem jnl_162 : jNl 162 = 8 := rfl
theorem jm_163 {G : jx_Gv} : (jBs G).getD 163 [] = jbs_163 G := rfl
theorem jnl_163 : jNl 163 = 5 := rfl
theorem jm_164 {G : jx_Gv} : (jBs G).getD 164 [] = jbs_164 G := rfl
theorem jnl_164 : jNl 164 = 6 := rfl
theorem jm_165 {G : jx_Gv} : (jBs G).getD 165 [] = jbs_165 G := rfl
theorem jnl_165 : jNl 165 = 4 := rfl
theorem jm_166 {G : jx_Gv} : (jBs G).getD 166 [] = jbs_166 G := rfl
theorem jnl_166 : jNl 166 = 3 := rfl
theorem jm_167 {G : jx_Gv} : (jBs G).getD 167 [] = jbs_167 G := rfl
theorem jnl_167 : jNl 167 = 6 := rfl
theorem jm_168 {G : jx_Gv} : (jBs G).getD 168 [] = jbs_168 G := rfl
theorem jnl_168 : jNl 168 = 10 := rfl
theorem jm_169 {G : jx_Gv} : (jBs G).getD 169 [] = jbs_169 G := rfl
theorem jnl_169 : jNl 169 = 10 := rfl
theorem jm_170 {G : jx_Gv} : (jBs G).getD 170 [] = jbs_170 G := rfl
theorem jnl_170 : jNl 170 = 12 := rfl
theorem jm_171 {G : jx_Gv} : (jBs G).getD 171 [] = jbs_171 G := rfl
theorem jnl_171 : jNl 171 = 3 := rfl
theorem jm_172 {G : jx_Gv} : (jBs G).getD 172 [] = jbs_172 G := rfl
theorem jnl_172 : jNl 172 = 1 := rfl
theorem jm_173 {G : jx_Gv} : (jBs G).getD 173 [] = jbs_173 G := rfl
theorem jnl_173 : jNl 173 = 6 := rfl
theorem jm_174 {G : jx_Gv} : (jBs G).getD 174 [] = jbs_174 G := rfl
theorem jnl_174 : jNl 174 = 2 := rfl
theorem jm_175 {G : jx_Gv} : (jBs G).getD 175 [] = jbs_175 G := rfl
theorem jnl_175 : jNl 175 = 4 := rfl
theorem jm_176 {G : jx_Gv} : (jBs G).getD 176 [] = jbs_176 G := rfl
theorem jnl_176 : jNl 176 = 5 := rfl
theorem jm_177 {G : jx_Gv} : (jBs G).getD 177 [] = jbs_177 G := rfl
theorem jnl_177 : jNl 177 = 4 := rfl
theorem jm_178 {G : jx_Gv} : (jBs G).getD 178 [] = jbs_178 G := rfl
theorem jnl_178 : jNl 178 = 3 := rfl
theorem jm_179 {G : jx_Gv} : (jBs G).getD 179 [] = jbs_179 G := rfl
theorem jnl_179 : jNl 179 = 1 := rfl
theorem jm_180 {G : jx_Gv} : (jBs G).getD 180 [] = jbs_180 G := rfl
theorem jnl_180 : jNl 180 = 2 := rfl
theorem jm_181 {G : jx_Gv} : (jBs G).getD 181 [] = jbs_181 G := rfl
theorem jnl_181 : jNl 181 = 3 := rfl
theorem jm_182 {G : jx_Gv} : (jBs G).getD 182 [] = jbs_182 G := rfl
theorem jnl_182 : jNl 182 = 2 := rfl
theorem jm_183 {G : jx_Gv} : (jBs G).getD 183 [] = jbs_183 G := rfl
theorem jnl_183 : jNl 183 = 2 := rfl
theorem jm_184 {G : jx_Gv} : (jBs G).getD 184 [] = jbs_184 G := rfl
theorem jnl_184 : jNl 184 = 8 := rfl
theorem jm_185 {G : jx_Gv} : (jBs G).getD 185 [] = jbs_185 G := rfl
theorem jnl_185 : jNl 185 = 5 := rfl
theorem jm_186 {G : jx_Gv} : (jBs G).getD 186 [] = jbs_186 G := rfl
theorem jnl_186 : jNl 186 = 4 := rfl
theorem jm_187 {G : jx_Gv} : (jBs G).getD 187 [] = jbs_187 G := rfl
theorem jnl_187 : jNl 187 = 4 := rfl
theorem jm_188 {G : jx_Gv} : (jBs G).getD 188 [] = jbs_188 G := rfl
theorem jnl_188 : jNl 188 = 4 := rfl
theorem jm_189 {G : jx_Gv} : (jBs G).getD 189 [] = jbs_189 G := rfl
theorem jnl_189 : jNl 189 = 7 := rfl
theorem jm_190 {G : jx_Gv} : (jBs G).getD 190 [] = jbs_190 G := rfl
theorem jnl_190 : jNl 190 = 8 := rfl
theorem jm_191 {G : jx_Gv} : (jBs G).getD 191 [] = jbs_191 G := rfl
theorem jnl_191 : jNl 191 = 4 := rfl
