theorem dX9_single_107 : decode cX9_single 107 = .ok (.iload_n 2, 1) := by decide +kernel
theorem dX9_single_108 : decode cX9_single 108 = .ok (.aload_n 0, 1) := by decide +kernel
theorem dX9_single_109 : decode cX9_single 109 = .ok (.getfield 54, 3) := by decide +kernel
theorem dX9_single_112 : decode cX9_single 112 = .ok (.iload_n 1, 1) := by decide +kernel
theorem dX9_single_113 : decode cX9_single 113 = .ok (.laload, 1) := by decide +kernel
theorem dX9_single_114 : decode cX9_single 114 = .ok (.lload_n 3, 1) := by decide +kernel
theorem dX9_single_115 : decode cX9_single 115 = .ok (.invokestatic 200, 3) := by decide +kernel
theorem dX9_single_118 : decode cX9_single 118 = .ok (.iload 6, 2) := by decide +kernel
theorem dX9_single_120 : decode cX9_single 120 = .ok (.invokevirtual 203, 3) := by decide +kernel
theorem dX9_single_123 : decode cX9_single 123 = .ok (.iload 5, 2) := by decide +kernel
theorem dX9_single_125 : decode cX9_single 125 = .ok (.ifCond .ne 9, 3) := by decide +kernel
theorem dX9_single_128 : decode cX9_single 128 = .ok (.lload_n 3, 1) := by decide +kernel
theorem dX9_single_129 : decode cX9_single 129 = .ok (.lconst 0, 1) := by decide +kernel
theorem dX9_single_130 : decode cX9_single 130 = .ok (.lcmp, 1) := by decide +kernel
theorem dX9_single_131 : decode cX9_single 131 = .ok (.ifCond .le 22, 3) := by decide +kernel
theorem dX9_single_134 : decode cX9_single 134 = .ok (.aload_n 0, 1) := by decide +kernel
theorem dX9_single_135 : decode cX9_single 135 = .ok (.iconst 3, 1) := by decide +kernel
theorem dX9_single_136 : decode cX9_single 136 = .ok (.iload_n 1, 1) := by decide +kernel
theorem dX9_single_137 : decode cX9_single 137 = .ok (.iload_n 2, 1) := by decide +kernel
theorem dX9_single_138 : decode cX9_single 138 = .ok (.aload_n 0, 1) := by decide +kernel
theorem dX9_single_139 : decode cX9_single 139 = .ok (.getfield 54, 3) := by decide +kernel
theorem dX9_single_142 : decode cX9_single 142 = .ok (.iload_n 1, 1) := by decide +kernel
theorem dX9_single_143 : decode cX9_single 143 = .ok (.laload, 1) := by decide +kernel
theorem dX9_single_144 : decode cX9_single 144 = .ok (.lload_n 3, 1) := by decide +kernel
theorem dX9_single_145 : decode cX9_single 145 = .ok (.invokestatic 112, 3) := by decide +kernel
theorem dX9_single_148 : decode cX9_single 148 = .ok (.iload 6, 2) := by decide +kernel
theorem dX9_single_150 : decode cX9_single 150 = .ok (.invokevirtual 207, 3) := by decide +kernel
theorem dX9_single_153 : decode cX9_single 153 = .ok (.aload_n 0, 1) := by decide +kernel
theorem dX9_single_154 : decode cX9_single 154 = .ok (.iconst 3, 1) := by decide +kernel
theorem dX9_single_155 : decode cX9_single 155 = .ok (.iload_n 1, 1) := by decide +kernel
theorem dX9_single_156 : decode cX9_single 156 = .ok (.invokevirtual 191, 3) := by decide +kernel
theorem dX9_single_159 : decode cX9_single 159 = .ok (.return_, 1) := by decide +kernel
theorem dX9_toEnds_0 : decode cX9_toEnds 0 = .ok (.aload_n 0, 1) := by decide +kernel
theorem dX9_toEnds_1 : decode cX9_toEnds 1 = .ok (.getfield 57, 3) := by decide +kernel
theorem dX9_toEnds_4 : decode cX9_toEnds 4 = .ok (.iload_n 1, 1) := by decide +kernel
theorem dX9_toEnds_5 : decode cX9_toEnds 5 = .ok (.iaload, 1) := by decide +kernel
theorem dX9_toEnds_6 : decode cX9_toEnds 6 = .ok (.aload_n 0, 1) := by decide +kernel
theorem dX9_toEnds_7 : decode cX9_toEnds 7 = .ok (.iload_n 1, 1) := by decide +kernel
theorem dX9_toEnds_8 : decode cX9_toEnds 8 = .ok (.iconst (-1), 1) := by decide +kernel
theorem dX9_toEnds_9 : decode cX9_toEnds 9 = .ok (.iload_n 2, 1) := by decide +kernel
theorem dX9_toEnds_10 : decode cX9_toEnds 10 = .ok (.invokevirtual 214, 3) := by decide +kernel
theorem dX9_toEnds_13 : decode cX9_toEnds 13 = .ok (.ior, 1) := by decide +kernel
theorem dX9_toEnds_14 : decode cX9_toEnds 14 = .ok (.istore_n 3, 1) := by decide +kernel
theorem dX9_toEnds_15 : decode cX9_toEnds 15 = .ok (.iconst 0, 1) := by decide +kernel
theorem dX9_toEnds_16 : decode cX9_toEnds 16 = .ok (.istore 4, 2) := by decide +kernel
theorem dX9_toEnds_18 : decode cX9_toEnds 18 = .ok (.iload 4, 2) := by decide +kernel
theorem dX9_toEnds_20 : decode cX9_toEnds 20 = .ok (.aload_n 0, 1) := by decide +kernel
theorem dX9_toEnds_21 : decode cX9_toEnds 21 = .ok (.getfield 141, 3) := by decide +kernel
theorem dX9_toEnds_24 : decode cX9_toEnds 24 = .ok (.if_icmp .ge 82, 3) := by decide +kernel
theorem dX9_toEnds_27 : decode cX9_toEnds 27 = .ok (.aload_n 0, 1) := by decide +kernel
theorem dX9_toEnds_28 : decode cX9_toEnds 28 = .ok (.iload_n 1, 1) := by decide +kernel
theorem dX9_toEnds_29 : decode cX9_toEnds 29 = .ok (.iload 4, 2) := by decide +kernel
theorem dX9_toEnds_31 : decode cX9_toEnds 31 = .ok (.invokevirtual 165, 3) := by decide +kernel
theorem dX9_toEnds_34 : decode cX9_toEnds 34 = .ok (.ifCond .eq 66, 3) := by decide +kernel
theorem dX9_toEnds_37 : decode cX9_toEnds 37 = .ok (.aload_n 0, 1) := by decide +kernel
theorem dX9_toEnds_38 : decode cX9_toEnds 38 = .ok (.getfield 60, 3) := by decide +kernel
theorem dX9_toEnds_41 : decode cX9_toEnds 41 = .ok (.bipush 12, 2) := by decide +kernel
theorem dX9_toEnds_43 : decode cX9_toEnds 43 = .ok (.iload_n 1, 1) := by decide +kernel
theorem dX9_toEnds_44 : decode cX9_toEnds 44 = .ok (.imul, 1) := by decide +kernel
theorem dX9_toEnds_45 : decode cX9_toEnds 45 = .ok (.iload 4, 2) := by decide +kernel
theorem dX9_toEnds_47 : decode cX9_toEnds 47 = .ok (.iadd, 1) := by decide +kernel
theorem dX9_toEnds_48 : decode cX9_toEnds 48 = .ok (.laload, 1) := by decide +kernel
theorem dX9_toEnds_49 : decode cX9_toEnds 49 = .ok (.lconst 0, 1) := by decide +kernel
theorem dX9_toEnds_50 : decode cX9_toEnds 50 = .ok (.lcmp, 1) := by decide +kernel
theorem dX9_toEnds_51 : decode cX9_toEnds 51 = .ok (.ifCond .le 7, 3) := by decide +kernel
theorem dX9_toEnds_54 : decode cX9_toEnds 54 = .ok (.iconst 1, 1) := by decide +kernel
theorem dX9_toEnds_55 : decode cX9_toEnds 55 = .ok (.goto 4, 3) := by decide +kernel
theorem dX9_toEnds_58 : decode cX9_toEnds 58 = .ok (.iconst 0, 1) := by decide +kernel
theorem dX9_toEnds_59 : decode cX9_toEnds 59 = .ok (.iload_n 2, 1) := by decide +kernel
theorem dX9_toEnds_60 : decode cX9_toEnds 60 = .ok (.if_icmp .ne 23, 3) := by decide +kernel
theorem dX9_toEnds_63 : decode cX9_toEnds 63 = .ok (.aload_n 0, 1) := by decide +kernel
theorem dX9_toEnds_64 : decode cX9_toEnds 64 = .ok (.iconst 4, 1) := by decide +kernel
theorem dX9_toEnds_65 : decode cX9_toEnds 65 = .ok (.iload_n 1, 1) := by decide +kernel
theorem dX9_toEnds_66 : decode cX9_toEnds 66 = .ok (.iload 4, 2) := by decide +kernel
theorem dX9_toEnds_68 : decode cX9_toEnds 68 = .ok (.aload_n 0, 1) := by decide +kernel
theorem dX9_toEnds_69 : decode cX9_toEnds 69 = .ok (.getfield 34, 3) := by decide +kernel
theorem dX9_toEnds_72 : decode cX9_toEnds 72 = .ok (.iload 4, 2) := by decide +kernel
theorem dX9_toEnds_74 : decode cX9_toEnds 74 = .ok (.iaload, 1) := by decide +kernel
theorem dX9_toEnds_75 : decode cX9_toEnds 75 = .ok (.i2l, 1) := by decide +kernel
theorem dX9_toEnds_76 : decode cX9_toEnds 76 = .ok (.iload_n 3, 1) := by decide +kernel
theorem dX9_toEnds_77 : decode cX9_toEnds 77 = .ok (.invokevirtual 203, 3) := by decide +kernel
theorem dX9_toEnds_80 : decode cX9_toEnds 80 = .ok (.goto 20, 3) := by decide +kernel
theorem dX9_toEnds_83 : decode cX9_toEnds 83 = .ok (.aload_n 0, 1) := by decide +kernel
theorem dX9_toEnds_84 : decode cX9_toEnds 84 = .ok (.iconst 4, 1) := by decide +kernel
theorem dX9_toEnds_85 : decode cX9_toEnds 85 = .ok (.iload_n 1, 1) := by decide +kernel
theorem dX9_toEnds_86 : decode cX9_toEnds 86 = .ok (.iload 4, 2) := by decide +kernel
theorem dX9_toEnds_88 : decode cX9_toEnds 88 = .ok (.aload_n 0, 1) := by decide +kernel
theorem dX9_toEnds_89 : decode cX9_toEnds 89 = .ok (.getfield 31, 3) := by decide +kernel
theorem dX9_toEnds_92 : decode cX9_toEnds 92 = .ok (.iload 4, 2) := by decide +kernel
theorem dX9_toEnds_94 : decode cX9_toEnds 94 = .ok (.iaload, 1) := by decide +kernel
theorem dX9_toEnds_95 : decode cX9_toEnds 95 = .ok (.i2l, 1) := by decide +kernel
theorem dX9_toEnds_96 : decode cX9_toEnds 96 = .ok (.iload_n 3, 1) := by decide +kernel
theorem dX9_toEnds_97 : decode cX9_toEnds 97 = .ok (.invokevirtual 207, 3) := by decide +kernel
theorem dX9_toEnds_100 : decode cX9_toEnds 100 = .ok (.iinc 4 1, 3) := by decide +kernel
theorem dX9_toEnds_103 : decode cX9_toEnds 103 = .ok (.goto (-85), 3) := by decide +kernel
theorem dX9_toEnds_106 : decode cX9_toEnds 106 = .ok (.aload_n 0, 1) := by decide +kernel
theorem dX9_toEnds_107 : decode cX9_toEnds 107 = .ok (.iconst 4, 1) := by decide +kernel
theorem dX9_toEnds_108 : decode cX9_toEnds 108 = .ok (.iload_n 1, 1) := by decide +kernel
theorem dX9_toEnds_109 : decode cX9_toEnds 109 = .ok (.invokevirtual 191, 3) := by decide +kernel
theorem dX9_toEnds_112 : decode cX9_toEnds 112 = .ok (.return_, 1) := by decide +kernel
theorem dX9_span_0 : decode cX9_span 0 = .ok (.aload_n 0, 1) := by decide +kernel
theorem dX9_span_1 : decode cX9_span 1 = .ok (.iload_n 1, 1) := by decide +kernel
theorem dX9_span_2 : decode cX9_span 2 = .ok (.iconst (-1), 1) := by decide +kernel
theorem dX9_span_3 : decode cX9_span 3 = .ok (.iconst 0, 1) := by decide +kernel
theorem dX9_span_4 : decode cX9_span 4 = .ok (.invokevirtual 210, 3) := by decide +kernel
theorem dX9_span_7 : decode cX9_span 7 = .ok (.lstore_n 2, 1) := by decide +kernel
theorem dX9_span_8 : decode cX9_span 8 = .ok (.aload_n 0, 1) := by decide +kernel
theorem dX9_span_9 : decode cX9_span 9 = .ok (.iload_n 1, 1) := by decide +kernel
theorem dX9_span_10 : decode cX9_span 10 = .ok (.iconst (-1), 1) := by decide +kernel
theorem dX9_span_11 : decode cX9_span 11 = .ok (.iconst 1, 1) := by decide +kernel
theorem dX9_span_12 : decode cX9_span 12 = .ok (.invokevirtual 210, 3) := by decide +kernel
theorem dX9_span_15 : decode cX9_span 15 = .ok (.lstore 4, 2) := by decide +kernel
theorem dX9_span_17 : decode cX9_span 17 = .ok (.lload_n 2, 1) := by decide +kernel
theorem dX9_span_18 : decode cX9_span 18 = .ok (.aload_n 0, 1) := by decide +kernel
theorem dX9_span_19 : decode cX9_span 19 = .ok (.getfield 54, 3) := by decide +kernel
theorem dX9_span_22 : decode cX9_span 22 = .ok (.iload_n 1, 1) := by decide +kernel
theorem dX9_span_23 : decode cX9_span 23 = .ok (.laload, 1) := by decide +kernel
theorem dX9_span_24 : decode cX9_span 24 = .ok (.lcmp, 1) := by decide +kernel
theorem dX9_span_25 : decode cX9_span 25 = .ok (.ifCond .le 24, 3) := by decide +kernel
theorem dX9_span_28 : decode cX9_span 28 = .ok (.aload_n 0, 1) := by decide +kernel
theorem dX9_span_29 : decode cX9_span 29 = .ok (.aload_n 0, 1) := by decide +kernel
theorem dX9_span_30 : decode cX9_span 30 = .ok (.getfield 57, 3) := by decide +kernel
theorem dX9_span_33 : decode cX9_span 33 = .ok (.iload_n 1, 1) := by decide +kernel
theorem dX9_span_34 : decode cX9_span 34 = .ok (.iaload, 1) := by decide +kernel
theorem dX9_span_35 : decode cX9_span 35 = .ok (.aload_n 0, 1) := by decide +kernel
theorem dX9_span_36 : decode cX9_span 36 = .ok (.iload_n 1, 1) := by decide +kernel
theorem dX9_span_37 : decode cX9_span 37 = .ok (.iconst (-1), 1) := by decide +kernel
theorem dX9_span_38 : decode cX9_span 38 = .ok (.iconst 0, 1) := by decide +kernel
theorem dX9_span_39 : decode cX9_span 39 = .ok (.invokevirtual 214, 3) := by decide +kernel
theorem dX9_span_42 : decode cX9_span 42 = .ok (.ior, 1) := by decide +kernel
theorem dX9_span_43 : decode cX9_span 43 = .ok (.invokevirtual 179, 3) := by decide +kernel
theorem dX9_span_46 : decode cX9_span 46 = .ok (.goto 124, 3) := by decide +kernel
theorem dX9_span_49 : decode cX9_span 49 = .ok (.aload_n 0, 1) := by decide +kernel
theorem dX9_span_50 : decode cX9_span 50 = .ok (.getfield 47, 3) := by decide +kernel
theorem dX9_span_53 : decode cX9_span 53 = .ok (.iload_n 1, 1) := by decide +kernel
theorem dX9_span_54 : decode cX9_span 54 = .ok (.iaload, 1) := by decide +kernel
theorem dX9_span_55 : decode cX9_span 55 = .ok (.iconst 1, 1) := by decide +kernel
theorem dX9_span_56 : decode cX9_span 56 = .ok (.if_icmp .ne 36, 3) := by decide +kernel
theorem dX9_span_59 : decode cX9_span 59 = .ok (.lload 4, 2) := by decide +kernel
theorem dX9_span_61 : decode cX9_span 61 = .ok (.aload_n 0, 1) := by decide +kernel
theorem dX9_span_62 : decode cX9_span 62 = .ok (.getfield 54, 3) := by decide +kernel
theorem dX9_span_65 : decode cX9_span 65 = .ok (.iload_n 1, 1) := by decide +kernel
theorem dX9_span_66 : decode cX9_span 66 = .ok (.laload, 1) := by decide +kernel
theorem dX9_span_67 : decode cX9_span 67 = .ok (.lcmp, 1) := by decide +kernel
theorem dX9_span_68 : decode cX9_span 68 = .ok (.ifCond .ge 24, 3) := by decide +kernel
theorem dX9_span_71 : decode cX9_span 71 = .ok (.aload_n 0, 1) := by decide +kernel
theorem dX9_span_72 : decode cX9_span 72 = .ok (.aload_n 0, 1) := by decide +kernel
theorem dX9_span_73 : decode cX9_span 73 = .ok (.getfield 57, 3) := by decide +kernel
theorem dX9_span_76 : decode cX9_span 76 = .ok (.iload_n 1, 1) := by decide +kernel
theorem dX9_span_77 : decode cX9_span 77 = .ok (.iaload, 1) := by decide +kernel
theorem dX9_span_78 : decode cX9_span 78 = .ok (.aload_n 0, 1) := by decide +kernel
theorem dX9_span_79 : decode cX9_span 79 = .ok (.iload_n 1, 1) := by decide +kernel
theorem dX9_span_80 : decode cX9_span 80 = .ok (.iconst (-1), 1) := by decide +kernel
theorem dX9_span_81 : decode cX9_span 81 = .ok (.iconst 1, 1) := by decide +kernel
theorem dX9_span_82 : decode cX9_span 82 = .ok (.invokevirtual 214, 3) := by decide +kernel
theorem dX9_span_85 : decode cX9_span 85 = .ok (.ior, 1) := by decide +kernel
theorem dX9_span_86 : decode cX9_span 86 = .ok (.invokevirtual 179, 3) := by decide +kernel
theorem dX9_span_89 : decode cX9_span 89 = .ok (.goto 81, 3) := by decide +kernel
theorem dX9_span_92 : decode cX9_span 92 = .ok (.aload_n 0, 1) := by decide +kernel
theorem dX9_span_93 : decode cX9_span 93 = .ok (.getfield 47, 3) := by decide +kernel
theorem dX9_span_96 : decode cX9_span 96 = .ok (.iload_n 1, 1) := by decide +kernel
theorem dX9_span_97 : decode cX9_span 97 = .ok (.iaload, 1) := by decide +kernel
theorem dX9_span_98 : decode cX9_span 98 = .ok (.ifCond .ne 24, 3) := by decide +kernel
theorem dX9_span_101 : decode cX9_span 101 = .ok (.lload 4, 2) := by decide +kernel
theorem dX9_span_103 : decode cX9_span 103 = .ok (.aload_n 0, 1) := by decide +kernel
theorem dX9_span_104 : decode cX9_span 104 = .ok (.getfield 54, 3) := by decide +kernel
theorem dX9_span_107 : decode cX9_span 107 = .ok (.iload_n 1, 1) := by decide +kernel
theorem dX9_span_108 : decode cX9_span 108 = .ok (.laload, 1) := by decide +kernel
theorem dX9_span_109 : decode cX9_span 109 = .ok (.lcmp, 1) := by decide +kernel
theorem dX9_span_110 : decode cX9_span 110 = .ok (.ifCond .gt 12, 3) := by decide +kernel
theorem dX9_span_113 : decode cX9_span 113 = .ok (.aload_n 0, 1) := by decide +kernel
theorem dX9_span_114 : decode cX9_span 114 = .ok (.iconst 4, 1) := by decide +kernel
theorem dX9_span_115 : decode cX9_span 115 = .ok (.iload_n 1, 1) := by decide +kernel
theorem dX9_span_116 : decode cX9_span 116 = .ok (.invokevirtual 191, 3) := by decide +kernel
theorem dX9_span_119 : decode cX9_span 119 = .ok (.goto 51, 3) := by decide +kernel
theorem dX9_span_122 : decode cX9_span 122 = .ok (.lload_n 2, 1) := by decide +kernel
theorem dX9_span_123 : decode cX9_span 123 = .ok (.aload_n 0, 1) := by decide +kernel
theorem dX9_span_124 : decode cX9_span 124 = .ok (.getfield 54, 3) := by decide +kernel
theorem dX9_span_127 : decode cX9_span 127 = .ok (.iload_n 1, 1) := by decide +kernel
theorem dX9_span_128 : decode cX9_span 128 = .ok (.laload, 1) := by decide +kernel
theorem dX9_span_129 : decode cX9_span 129 = .ok (.lcmp, 1) := by decide +kernel
theorem dX9_span_130 : decode cX9_span 130 = .ok (.ifCond .ne 12, 3) := by decide +kernel
theorem dX9_span_133 : decode cX9_span 133 = .ok (.aload_n 0, 1) := by decide +kernel
theorem dX9_span_134 : decode cX9_span 134 = .ok (.iload_n 1, 1) := by decide +kernel
theorem dX9_span_135 : decode cX9_span 135 = .ok (.iconst 0, 1) := by decide +kernel
theorem dX9_span_136 : decode cX9_span 136 = .ok (.invokevirtual 218, 3) := by decide +kernel
theorem dX9_span_139 : decode cX9_span 139 = .ok (.goto 31, 3) := by decide +kernel
theorem dX9_span_142 : decode cX9_span 142 = .ok (.aload_n 0, 1) := by decide +kernel
theorem dX9_span_143 : decode cX9_span 143 = .ok (.getfield 47, 3) := by decide +kernel
theorem dX9_span_146 : decode cX9_span 146 = .ok (.iload_n 1, 1) := by decide +kernel
theorem dX9_span_147 : decode cX9_span 147 = .ok (.iaload, 1) := by decide +kernel
theorem dX9_span_148 : decode cX9_span 148 = .ok (.iconst 1, 1) := by decide +kernel
theorem dX9_span_149 : decode cX9_span 149 = .ok (.if_icmp .ne 21, 3) := by decide +kernel
theorem dX9_span_152 : decode cX9_span 152 = .ok (.lload 4, 2) := by decide +kernel
theorem dX9_span_154 : decode cX9_span 154 = .ok (.aload_n 0, 1) := by decide +kernel
theorem dX9_span_155 : decode cX9_span 155 = .ok (.getfield 54, 3) := by decide +kernel
theorem dX9_span_158 : decode cX9_span 158 = .ok (.iload_n 1, 1) := by decide +kernel
theorem dX9_span_159 : decode cX9_span 159 = .ok (.laload, 1) := by decide +kernel
theorem dX9_span_160 : decode cX9_span 160 = .ok (.lcmp, 1) := by decide +kernel
theorem dX9_span_161 : decode cX9_span 161 = .ok (.ifCond .ne 9, 3) := by decide +kernel
theorem dX9_span_164 : decode cX9_span 164 = .ok (.aload_n 0, 1) := by decide +kernel
theorem dX9_span_165 : decode cX9_span 165 = .ok (.iload_n 1, 1) := by decide +kernel
theorem dX9_span_166 : decode cX9_span 166 = .ok (.iconst 1, 1) := by decide +kernel
theorem dX9_span_167 : decode cX9_span 167 = .ok (.invokevirtual 218, 3) := by decide +kernel
theorem dX9_span_170 : decode cX9_span 170 = .ok (.return_, 1) := by decide +kernel
theorem dX9_tight_0 : decode cX9_tight 0 = .ok (.iconst 0, 1) := by decide +kernel
theorem dX9_tight_1 : decode cX9_tight 1 = .ok (.istore_n 2, 1) := by decide +kernel
theorem dX9_tight_2 : decode cX9_tight 2 = .ok (.iload_n 2, 1) := by decide +kernel
theorem dX9_tight_3 : decode cX9_tight 3 = .ok (.aload_n 0, 1) := by decide +kernel
theorem dX9_tight_4 : decode cX9_tight 4 = .ok (.getfield 141, 3) := by decide +kernel
theorem dX9_tight_7 : decode cX9_tight 7 = .ok (.if_icmp .ge 199, 3) := by decide +kernel
theorem dX9_tight_10 : decode cX9_tight 10 = .ok (.aload_n 0, 1) := by decide +kernel
theorem dX9_tight_11 : decode cX9_tight 11 = .ok (.invokevirtual 175, 3) := by decide +kernel
theorem dX9_tight_14 : decode cX9_tight 14 = .ok (.ifCond .eq 192, 3) := by decide +kernel
theorem dX9_tight_17 : decode cX9_tight 17 = .ok (.aload_n 0, 1) := by decide +kernel
theorem dX9_tight_18 : decode cX9_tight 18 = .ok (.iload_n 1, 1) := by decide +kernel
theorem dX9_tight_19 : decode cX9_tight 19 = .ok (.iload_n 2, 1) := by decide +kernel
theorem dX9_tight_20 : decode cX9_tight 20 = .ok (.invokevirtual 165, 3) := by decide +kernel
theorem dX9_tight_23 : decode cX9_tight 23 = .ok (.ifCond .eq 177, 3) := by decide +kernel
theorem dX9_tight_26 : decode cX9_tight 26 = .ok (.aload_n 0, 1) := by decide +kernel
theorem dX9_tight_27 : decode cX9_tight 27 = .ok (.getfield 60, 3) := by decide +kernel
theorem dX9_tight_30 : decode cX9_tight 30 = .ok (.bipush 12, 2) := by decide +kernel
theorem dX9_tight_32 : decode cX9_tight 32 = .ok (.iload_n 1, 1) := by decide +kernel
theorem dX9_tight_33 : decode cX9_tight 33 = .ok (.imul, 1) := by decide +kernel
theorem dX9_tight_34 : decode cX9_tight 34 = .ok (.iload_n 2, 1) := by decide +kernel
theorem dX9_tight_35 : decode cX9_tight 35 = .ok (.iadd, 1) := by decide +kernel
theorem dX9_tight_36 : decode cX9_tight 36 = .ok (.laload, 1) := by decide +kernel
theorem dX9_tight_37 : decode cX9_tight 37 = .ok (.lstore_n 3, 1) := by decide +kernel
theorem dX9_tight_38 : decode cX9_tight 38 = .ok (.aload_n 0, 1) := by decide +kernel
theorem dX9_tight_39 : decode cX9_tight 39 = .ok (.getfield 54, 3) := by decide +kernel
theorem dX9_tight_42 : decode cX9_tight 42 = .ok (.iload_n 1, 1) := by decide +kernel
theorem dX9_tight_43 : decode cX9_tight 43 = .ok (.laload, 1) := by decide +kernel
theorem dX9_tight_44 : decode cX9_tight 44 = .ok (.aload_n 0, 1) := by decide +kernel
theorem dX9_tight_45 : decode cX9_tight 45 = .ok (.iload_n 1, 1) := by decide +kernel
theorem dX9_tight_46 : decode cX9_tight 46 = .ok (.iload_n 2, 1) := by decide +kernel
theorem dX9_tight_47 : decode cX9_tight 47 = .ok (.iconst 0, 1) := by decide +kernel
theorem dX9_tight_48 : decode cX9_tight 48 = .ok (.invokevirtual 210, 3) := by decide +kernel
theorem dX9_tight_51 : decode cX9_tight 51 = .ok (.lsub, 1) := by decide +kernel
theorem dX9_tight_52 : decode cX9_tight 52 = .ok (.lstore 5, 2) := by decide +kernel
theorem dX9_tight_54 : decode cX9_tight 54 = .ok (.aload_n 0, 1) := by decide +kernel
theorem dX9_tight_55 : decode cX9_tight 55 = .ok (.getfield 54, 3) := by decide +kernel
theorem dX9_tight_58 : decode cX9_tight 58 = .ok (.iload_n 1, 1) := by decide +kernel
theorem dX9_tight_59 : decode cX9_tight 59 = .ok (.laload, 1) := by decide +kernel
theorem dX9_tight_60 : decode cX9_tight 60 = .ok (.aload_n 0, 1) := by decide +kernel
theorem dX9_tight_61 : decode cX9_tight 61 = .ok (.iload_n 1, 1) := by decide +kernel
theorem dX9_tight_62 : decode cX9_tight 62 = .ok (.iload_n 2, 1) := by decide +kernel
theorem dX9_tight_63 : decode cX9_tight 63 = .ok (.iconst 1, 1) := by decide +kernel
theorem dX9_tight_64 : decode cX9_tight 64 = .ok (.invokevirtual 210, 3) := by decide +kernel
theorem dX9_tight_67 : decode cX9_tight 67 = .ok (.lsub, 1) := by decide +kernel
theorem dX9_tight_68 : decode cX9_tight 68 = .ok (.lstore 7, 2) := by decide +kernel
theorem dX9_tight_70 : decode cX9_tight 70 = .ok (.aload_n 0, 1) := by decide +kernel
theorem dX9_tight_71 : decode cX9_tight 71 = .ok (.getfield 57, 3) := by decide +kernel
theorem dX9_tight_74 : decode cX9_tight 74 = .ok (.iload_n 1, 1) := by decide +kernel
theorem dX9_tight_75 : decode cX9_tight 75 = .ok (.iaload, 1) := by decide +kernel
theorem dX9_tight_76 : decode cX9_tight 76 = .ok (.aload_n 0, 1) := by decide +kernel
theorem dX9_tight_77 : decode cX9_tight 77 = .ok (.iload_n 1, 1) := by decide +kernel
theorem dX9_tight_78 : decode cX9_tight 78 = .ok (.iload_n 2, 1) := by decide +kernel
theorem dX9_tight_79 : decode cX9_tight 79 = .ok (.iconst 0, 1) := by decide +kernel
theorem dX9_tight_80 : decode cX9_tight 80 = .ok (.invokevirtual 214, 3) := by decide +kernel
theorem dX9_tight_83 : decode cX9_tight 83 = .ok (.ior, 1) := by decide +kernel
theorem dX9_tight_84 : decode cX9_tight 84 = .ok (.istore 9, 2) := by decide +kernel
theorem dX9_tight_86 : decode cX9_tight 86 = .ok (.aload_n 0, 1) := by decide +kernel
theorem dX9_tight_87 : decode cX9_tight 87 = .ok (.getfield 57, 3) := by decide +kernel
theorem dX9_tight_90 : decode cX9_tight 90 = .ok (.iload_n 1, 1) := by decide +kernel
theorem dX9_tight_91 : decode cX9_tight 91 = .ok (.iaload, 1) := by decide +kernel
theorem dX9_tight_92 : decode cX9_tight 92 = .ok (.aload_n 0, 1) := by decide +kernel
theorem dX9_tight_93 : decode cX9_tight 93 = .ok (.iload_n 1, 1) := by decide +kernel
theorem dX9_tight_94 : decode cX9_tight 94 = .ok (.iload_n 2, 1) := by decide +kernel
theorem dX9_tight_95 : decode cX9_tight 95 = .ok (.iconst 1, 1) := by decide +kernel
theorem dX9_tight_96 : decode cX9_tight 96 = .ok (.invokevirtual 214, 3) := by decide +kernel
theorem dX9_tight_99 : decode cX9_tight 99 = .ok (.ior, 1) := by decide +kernel
theorem dX9_tight_100 : decode cX9_tight 100 = .ok (.istore 10, 2) := by decide +kernel
theorem dX9_tight_102 : decode cX9_tight 102 = .ok (.lload_n 3, 1) := by decide +kernel
theorem dX9_tight_103 : decode cX9_tight 103 = .ok (.lconst 0, 1) := by decide +kernel
theorem dX9_tight_104 : decode cX9_tight 104 = .ok (.lcmp, 1) := by decide +kernel
theorem dX9_tight_105 : decode cX9_tight 105 = .ok (.ifCond .le 21, 3) := by decide +kernel
theorem dX9_tight_108 : decode cX9_tight 108 = .ok (.aload_n 0, 1) := by decide +kernel
theorem dX9_tight_109 : decode cX9_tight 109 = .ok (.iconst 5, 1) := by decide +kernel
theorem dX9_tight_110 : decode cX9_tight 110 = .ok (.iload_n 1, 1) := by decide +kernel
theorem dX9_tight_111 : decode cX9_tight 111 = .ok (.iload_n 2, 1) := by decide +kernel
theorem dX9_tight_112 : decode cX9_tight 112 = .ok (.lload 5, 2) := by decide +kernel
theorem dX9_tight_114 : decode cX9_tight 114 = .ok (.lload_n 3, 1) := by decide +kernel
theorem dX9_tight_115 : decode cX9_tight 115 = .ok (.invokestatic 112, 3) := by decide +kernel
theorem dX9_tight_118 : decode cX9_tight 118 = .ok (.iload 9, 2) := by decide +kernel
theorem dX9_tight_120 : decode cX9_tight 120 = .ok (.invokevirtual 207, 3) := by decide +kernel
theorem dX9_tight_123 : decode cX9_tight 123 = .ok (.goto 18, 3) := by decide +kernel
theorem dX9_tight_126 : decode cX9_tight 126 = .ok (.aload_n 0, 1) := by decide +kernel
theorem dX9_tight_127 : decode cX9_tight 127 = .ok (.iconst 5, 1) := by decide +kernel
theorem dX9_tight_128 : decode cX9_tight 128 = .ok (.iload_n 1, 1) := by decide +kernel
theorem dX9_tight_129 : decode cX9_tight 129 = .ok (.iload_n 2, 1) := by decide +kernel
theorem dX9_tight_130 : decode cX9_tight 130 = .ok (.lload 5, 2) := by decide +kernel
theorem dX9_tight_132 : decode cX9_tight 132 = .ok (.lload_n 3, 1) := by decide +kernel
theorem dX9_tight_133 : decode cX9_tight 133 = .ok (.invokestatic 200, 3) := by decide +kernel
theorem dX9_tight_136 : decode cX9_tight 136 = .ok (.iload 9, 2) := by decide +kernel
theorem dX9_tight_138 : decode cX9_tight 138 = .ok (.invokevirtual 203, 3) := by decide +kernel
theorem dX9_tight_141 : decode cX9_tight 141 = .ok (.aload_n 0, 1) := by decide +kernel
theorem dX9_tight_142 : decode cX9_tight 142 = .ok (.getfield 47, 3) := by decide +kernel
theorem dX9_tight_145 : decode cX9_tight 145 = .ok (.iload_n 1, 1) := by decide +kernel
theorem dX9_tight_146 : decode cX9_tight 146 = .ok (.iaload, 1) := by decide +kernel
theorem dX9_tight_147 : decode cX9_tight 147 = .ok (.iconst 1, 1) := by decide +kernel
theorem dX9_tight_148 : decode cX9_tight 148 = .ok (.if_icmp .ne 27, 3) := by decide +kernel
theorem dX9_tight_151 : decode cX9_tight 151 = .ok (.lload_n 3, 1) := by decide +kernel
theorem dX9_tight_152 : decode cX9_tight 152 = .ok (.lconst 0, 1) := by decide +kernel
theorem dX9_tight_153 : decode cX9_tight 153 = .ok (.lcmp, 1) := by decide +kernel
theorem dX9_tight_154 : decode cX9_tight 154 = .ok (.ifCond .le 21, 3) := by decide +kernel
theorem dX9_tight_157 : decode cX9_tight 157 = .ok (.aload_n 0, 1) := by decide +kernel
theorem dX9_tight_158 : decode cX9_tight 158 = .ok (.iconst 5, 1) := by decide +kernel
theorem dX9_tight_159 : decode cX9_tight 159 = .ok (.iload_n 1, 1) := by decide +kernel
theorem dX9_tight_160 : decode cX9_tight 160 = .ok (.iload_n 2, 1) := by decide +kernel
theorem dX9_tight_161 : decode cX9_tight 161 = .ok (.lload 7, 2) := by decide +kernel
theorem dX9_tight_163 : decode cX9_tight 163 = .ok (.lload_n 3, 1) := by decide +kernel
theorem dX9_tight_164 : decode cX9_tight 164 = .ok (.invokestatic 200, 3) := by decide +kernel
theorem dX9_tight_167 : decode cX9_tight 167 = .ok (.iload 10, 2) := by decide +kernel
theorem dX9_tight_169 : decode cX9_tight 169 = .ok (.invokevirtual 203, 3) := by decide +kernel
theorem dX9_tight_172 : decode cX9_tight 172 = .ok (.goto 28, 3) := by decide +kernel
theorem dX9_tight_175 : decode cX9_tight 175 = .ok (.aload_n 0, 1) := by decide +kernel
theorem dX9_tight_176 : decode cX9_tight 176 = .ok (.getfield 47, 3) := by decide +kernel
theorem dX9_tight_179 : decode cX9_tight 179 = .ok (.iload_n 1, 1) := by decide +kernel
theorem dX9_tight_180 : decode cX9_tight 180 = .ok (.iaload, 1) := by decide +kernel
theorem dX9_tight_181 : decode cX9_tight 181 = .ok (.iconst 1, 1) := by decide +kernel
theorem dX9_tight_182 : decode cX9_tight 182 = .ok (.if_icmp .ne 18, 3) := by decide +kernel
theorem dX9_tight_185 : decode cX9_tight 185 = .ok (.aload_n 0, 1) := by decide +kernel
theorem dX9_tight_186 : decode cX9_tight 186 = .ok (.iconst 5, 1) := by decide +kernel
theorem dX9_tight_187 : decode cX9_tight 187 = .ok (.iload_n 1, 1) := by decide +kernel
theorem dX9_tight_188 : decode cX9_tight 188 = .ok (.iload_n 2, 1) := by decide +kernel
theorem dX9_tight_189 : decode cX9_tight 189 = .ok (.lload 7, 2) := by decide +kernel
theorem dX9_tight_191 : decode cX9_tight 191 = .ok (.lload_n 3, 1) := by decide +kernel
theorem dX9_tight_192 : decode cX9_tight 192 = .ok (.invokestatic 112, 3) := by decide +kernel
theorem dX9_tight_195 : decode cX9_tight 195 = .ok (.iload 10, 2) := by decide +kernel
theorem dX9_tight_197 : decode cX9_tight 197 = .ok (.invokevirtual 207, 3) := by decide +kernel
theorem dX9_tight_200 : decode cX9_tight 200 = .ok (.iinc 2 1, 3) := by decide +kernel
theorem dX9_tight_203 : decode cX9_tight 203 = .ok (.goto (-201), 3) := by decide +kernel
theorem dX9_tight_206 : decode cX9_tight 206 = .ok (.return_, 1) := by decide +kernel
theorem dX9_fix_0 : decode cX9_fix 0 = .ok (.aload_n 0, 1) := by decide +kernel
theorem dX9_fix_1 : decode cX9_fix 1 = .ok (.getfield 31, 3) := by decide +kernel
theorem dX9_fix_4 : decode cX9_fix 4 = .ok (.iload_n 1, 1) := by decide +kernel
theorem dX9_fix_5 : decode cX9_fix 5 = .ok (.iaload, 1) := by decide +kernel
theorem dX9_fix_6 : decode cX9_fix 6 = .ok (.aload_n 0, 1) := by decide +kernel
theorem dX9_fix_7 : decode cX9_fix 7 = .ok (.getfield 34, 3) := by decide +kernel
theorem dX9_fix_10 : decode cX9_fix 10 = .ok (.iload_n 1, 1) := by decide +kernel
theorem dX9_fix_11 : decode cX9_fix 11 = .ok (.iaload, 1) := by decide +kernel
theorem dX9_fix_12 : decode cX9_fix 12 = .ok (.if_icmp .eq 4, 3) := by decide +kernel
theorem dX9_fix_15 : decode cX9_fix 15 = .ok (.return_, 1) := by decide +kernel
theorem dX9_fix_16 : decode cX9_fix 16 = .ok (.iconst 0, 1) := by decide +kernel
theorem dX9_fix_17 : decode cX9_fix 17 = .ok (.istore_n 2, 1) := by decide +kernel
theorem dX9_fix_18 : decode cX9_fix 18 = .ok (.iload_n 2, 1) := by decide +kernel
theorem dX9_fix_19 : decode cX9_fix 19 = .ok (.aload_n 0, 1) := by decide +kernel
theorem dX9_fix_20 : decode cX9_fix 20 = .ok (.getfield 151, 3) := by decide +kernel
theorem dX9_fix_23 : decode cX9_fix 23 = .ok (.if_icmp .ge 77, 3) := by decide +kernel
theorem dX9_fix_26 : decode cX9_fix 26 = .ok (.aload_n 0, 1) := by decide +kernel
theorem dX9_fix_27 : decode cX9_fix 27 = .ok (.getfield 50, 3) := by decide +kernel
theorem dX9_fix_30 : decode cX9_fix 30 = .ok (.iload_n 2, 1) := by decide +kernel
theorem dX9_fix_31 : decode cX9_fix 31 = .ok (.baload, 1) := by decide +kernel
theorem dX9_fix_32 : decode cX9_fix 32 = .ok (.ifCond .ne 62, 3) := by decide +kernel
theorem dX9_fix_35 : decode cX9_fix 35 = .ok (.aload_n 0, 1) := by decide +kernel
theorem dX9_fix_36 : decode cX9_fix 36 = .ok (.iload_n 2, 1) := by decide +kernel
theorem dX9_fix_37 : decode cX9_fix 37 = .ok (.iload_n 1, 1) := by decide +kernel
theorem dX9_fix_38 : decode cX9_fix 38 = .ok (.invokevirtual 165, 3) := by decide +kernel
theorem dX9_fix_41 : decode cX9_fix 41 = .ok (.ifCond .eq 53, 3) := by decide +kernel
theorem dX9_fix_44 : decode cX9_fix 44 = .ok (.aload_n 0, 1) := by decide +kernel
theorem dX9_fix_45 : decode cX9_fix 45 = .ok (.getfield 54, 3) := by decide +kernel
theorem dX9_fix_48 : decode cX9_fix 48 = .ok (.iload_n 2, 1) := by decide +kernel
theorem dX9_fix_49 : decode cX9_fix 49 = .ok (.dup2, 1) := by decide +kernel
theorem dX9_fix_50 : decode cX9_fix 50 = .ok (.laload, 1) := by decide +kernel
theorem dX9_fix_51 : decode cX9_fix 51 = .ok (.aload_n 0, 1) := by decide +kernel
theorem dX9_fix_52 : decode cX9_fix 52 = .ok (.getfield 60, 3) := by decide +kernel
theorem dX9_fix_55 : decode cX9_fix 55 = .ok (.bipush 12, 2) := by decide +kernel
theorem dX9_fix_57 : decode cX9_fix 57 = .ok (.iload_n 2, 1) := by decide +kernel
theorem dX9_fix_58 : decode cX9_fix 58 = .ok (.imul, 1) := by decide +kernel
theorem dX9_fix_59 : decode cX9_fix 59 = .ok (.iload_n 1, 1) := by decide +kernel
theorem dX9_fix_60 : decode cX9_fix 60 = .ok (.iadd, 1) := by decide +kernel
theorem dX9_fix_61 : decode cX9_fix 61 = .ok (.laload, 1) := by decide +kernel
theorem dX9_fix_62 : decode cX9_fix 62 = .ok (.aload_n 0, 1) := by decide +kernel
theorem dX9_fix_63 : decode cX9_fix 63 = .ok (.getfield 31, 3) := by decide +kernel
theorem dX9_fix_66 : decode cX9_fix 66 = .ok (.iload_n 1, 1) := by decide +kernel
theorem dX9_fix_67 : decode cX9_fix 67 = .ok (.iaload, 1) := by decide +kernel
theorem dX9_fix_68 : decode cX9_fix 68 = .ok (.i2l, 1) := by decide +kernel
theorem dX9_fix_69 : decode cX9_fix 69 = .ok (.lmul, 1) := by decide +kernel
theorem dX9_fix_70 : decode cX9_fix 70 = .ok (.lsub, 1) := by decide +kernel
theorem dX9_fix_71 : decode cX9_fix 71 = .ok (.lastore, 1) := by decide +kernel
theorem dX9_fix_72 : decode cX9_fix 72 = .ok (.aload_n 0, 1) := by decide +kernel
theorem dX9_fix_73 : decode cX9_fix 73 = .ok (.getfield 57, 3) := by decide +kernel
theorem dX9_fix_76 : decode cX9_fix 76 = .ok (.iload_n 2, 1) := by decide +kernel
theorem dX9_fix_77 : decode cX9_fix 77 = .ok (.dup2, 1) := by decide +kernel
theorem dX9_fix_78 : decode cX9_fix 78 = .ok (.iaload, 1) := by decide +kernel
theorem dX9_fix_79 : decode cX9_fix 79 = .ok (.aload_n 0, 1) := by decide +kernel
theorem dX9_fix_80 : decode cX9_fix 80 = .ok (.getfield 37, 3) := by decide +kernel
theorem dX9_fix_83 : decode cX9_fix 83 = .ok (.iload_n 1, 1) := by decide +kernel
theorem dX9_fix_84 : decode cX9_fix 84 = .ok (.iaload, 1) := by decide +kernel
theorem dX9_fix_85 : decode cX9_fix 85 = .ok (.aload_n 0, 1) := by decide +kernel
theorem dX9_fix_86 : decode cX9_fix 86 = .ok (.getfield 40, 3) := by decide +kernel
theorem dX9_fix_89 : decode cX9_fix 89 = .ok (.iload_n 1, 1) := by decide +kernel
theorem dX9_fix_90 : decode cX9_fix 90 = .ok (.iaload, 1) := by decide +kernel
theorem dX9_fix_91 : decode cX9_fix 91 = .ok (.ior, 1) := by decide +kernel
theorem dX9_fix_92 : decode cX9_fix 92 = .ok (.ior, 1) := by decide +kernel
theorem dX9_fix_93 : decode cX9_fix 93 = .ok (.iastore, 1) := by decide +kernel
theorem dX9_fix_94 : decode cX9_fix 94 = .ok (.iinc 2 1, 3) := by decide +kernel
theorem dX9_fix_97 : decode cX9_fix 97 = .ok (.goto (-79), 3) := by decide +kernel
theorem dX9_fix_100 : decode cX9_fix 100 = .ok (.aload_n 0, 1) := by decide +kernel
theorem dX9_fix_101 : decode cX9_fix 101 = .ok (.dup, 1) := by decide +kernel
theorem dX9_fix_102 : decode cX9_fix 102 = .ok (.getfield 222, 3) := by decide +kernel
theorem dX9_fix_105 : decode cX9_fix 105 = .ok (.aload_n 0, 1) := by decide +kernel
theorem dX9_fix_106 : decode cX9_fix 106 = .ok (.getfield 43, 3) := by decide +kernel
theorem dX9_fix_109 : decode cX9_fix 109 = .ok (.iload_n 1, 1) := by decide +kernel
theorem dX9_fix_110 : decode cX9_fix 110 = .ok (.laload, 1) := by decide +kernel
theorem dX9_fix_111 : decode cX9_fix 111 = .ok (.aload_n 0, 1) := by decide +kernel
theorem dX9_fix_112 : decode cX9_fix 112 = .ok (.getfield 31, 3) := by decide +kernel
theorem dX9_fix_115 : decode cX9_fix 115 = .ok (.iload_n 1, 1) := by decide +kernel
theorem dX9_fix_116 : decode cX9_fix 116 = .ok (.iaload, 1) := by decide +kernel
theorem dX9_fix_117 : decode cX9_fix 117 = .ok (.i2l, 1) := by decide +kernel
theorem dX9_fix_118 : decode cX9_fix 118 = .ok (.lmul, 1) := by decide +kernel
theorem dX9_fix_119 : decode cX9_fix 119 = .ok (.ladd, 1) := by decide +kernel
theorem dX9_fix_120 : decode cX9_fix 120 = .ok (.putfield 222, 3) := by decide +kernel
theorem dX9_fix_123 : decode cX9_fix 123 = .ok (.aload_n 0, 1) := by decide +kernel
theorem dX9_fix_124 : decode cX9_fix 124 = .ok (.getfield 28, 3) := by decide +kernel
theorem dX9_fix_127 : decode cX9_fix 127 = .ok (.iload_n 1, 1) := by decide +kernel
theorem dX9_fix_128 : decode cX9_fix 128 = .ok (.iconst 1, 1) := by decide +kernel
theorem dX9_fix_129 : decode cX9_fix 129 = .ok (.iastore, 1) := by decide +kernel
theorem dX9_fix_130 : decode cX9_fix 130 = .ok (.aload_n 0, 1) := by decide +kernel
theorem dX9_fix_131 : decode cX9_fix 131 = .ok (.bipush 6, 2) := by decide +kernel
theorem dX9_fix_133 : decode cX9_fix 133 = .ok (.iconst (-1), 1) := by decide +kernel
theorem dX9_fix_134 : decode cX9_fix 134 = .ok (.iload_n 1, 1) := by decide +kernel
theorem dX9_fix_135 : decode cX9_fix 135 = .ok (.iconst 4, 1) := by decide +kernel
theorem dX9_fix_136 : decode cX9_fix 136 = .ok (.aload_n 0, 1) := by decide +kernel
theorem dX9_fix_137 : decode cX9_fix 137 = .ok (.getfield 31, 3) := by decide +kernel
theorem dX9_fix_140 : decode cX9_fix 140 = .ok (.iload_n 1, 1) := by decide +kernel
theorem dX9_fix_141 : decode cX9_fix 141 = .ok (.iaload, 1) := by decide +kernel
theorem dX9_fix_142 : decode cX9_fix 142 = .ok (.i2l, 1) := by decide +kernel
theorem dX9_fix_143 : decode cX9_fix 143 = .ok (.invokevirtual 183, 3) := by decide +kernel
theorem dX9_fix_146 : decode cX9_fix 146 = .ok (.return_, 1) := by decide +kernel
theorem dX9_alike_0 : decode cX9_alike 0 = .ok (.iconst 1, 1) := by decide +kernel
theorem dX9_alike_1 : decode cX9_alike 1 = .ok (.istore 5, 2) := by decide +kernel
theorem dX9_alike_3 : decode cX9_alike 3 = .ok (.iconst 0, 1) := by decide +kernel
theorem dX9_alike_4 : decode cX9_alike 4 = .ok (.istore 6, 2) := by decide +kernel
theorem dX9_alike_6 : decode cX9_alike 6 = .ok (.iload 6, 2) := by decide +kernel
theorem dX9_alike_8 : decode cX9_alike 8 = .ok (.aload_n 0, 1) := by decide +kernel
theorem dX9_alike_9 : decode cX9_alike 9 = .ok (.getfield 141, 3) := by decide +kernel
theorem dX9_alike_12 : decode cX9_alike 12 = .ok (.if_icmp .ge 61, 3) := by decide +kernel
theorem dX9_alike_15 : decode cX9_alike 15 = .ok (.iload 5, 2) := by decide +kernel
theorem dX9_alike_17 : decode cX9_alike 17 = .ok (.ifCond .eq 47, 3) := by decide +kernel
theorem dX9_alike_20 : decode cX9_alike 20 = .ok (.aload_n 0, 1) := by decide +kernel
theorem dX9_alike_21 : decode cX9_alike 21 = .ok (.getfield 28, 3) := by decide +kernel
theorem dX9_alike_24 : decode cX9_alike 24 = .ok (.iload 6, 2) := by decide +kernel
theorem dX9_alike_26 : decode cX9_alike 26 = .ok (.iaload, 1) := by decide +kernel
theorem dX9_alike_27 : decode cX9_alike 27 = .ok (.ifCond .ne 33, 3) := by decide +kernel
theorem dX9_alike_30 : decode cX9_alike 30 = .ok (.aload_n 0, 1) := by decide +kernel
theorem dX9_alike_31 : decode cX9_alike 31 = .ok (.getfield 60, 3) := by decide +kernel
theorem dX9_alike_34 : decode cX9_alike 34 = .ok (.bipush 12, 2) := by decide +kernel
theorem dX9_alike_36 : decode cX9_alike 36 = .ok (.iload_n 1, 1) := by decide +kernel
theorem dX9_alike_37 : decode cX9_alike 37 = .ok (.imul, 1) := by decide +kernel
theorem dX9_alike_38 : decode cX9_alike 38 = .ok (.iload 6, 2) := by decide +kernel
theorem dX9_alike_40 : decode cX9_alike 40 = .ok (.iadd, 1) := by decide +kernel
theorem dX9_alike_41 : decode cX9_alike 41 = .ok (.laload, 1) := by decide +kernel
theorem dX9_alike_42 : decode cX9_alike 42 = .ok (.lload_n 3, 1) := by decide +kernel
theorem dX9_alike_43 : decode cX9_alike 43 = .ok (.aload_n 0, 1) := by decide +kernel
theorem dX9_alike_44 : decode cX9_alike 44 = .ok (.getfield 60, 3) := by decide +kernel
theorem dX9_alike_47 : decode cX9_alike 47 = .ok (.bipush 12, 2) := by decide +kernel
theorem dX9_alike_49 : decode cX9_alike 49 = .ok (.iload_n 2, 1) := by decide +kernel
theorem dX9_alike_50 : decode cX9_alike 50 = .ok (.imul, 1) := by decide +kernel
theorem dX9_alike_51 : decode cX9_alike 51 = .ok (.iload 6, 2) := by decide +kernel
theorem dX9_alike_53 : decode cX9_alike 53 = .ok (.iadd, 1) := by decide +kernel
theorem dX9_alike_54 : decode cX9_alike 54 = .ok (.laload, 1) := by decide +kernel
theorem dX9_alike_55 : decode cX9_alike 55 = .ok (.lmul, 1) := by decide +kernel
theorem dX9_alike_56 : decode cX9_alike 56 = .ok (.lcmp, 1) := by decide +kernel
theorem dX9_alike_57 : decode cX9_alike 57 = .ok (.ifCond .ne 7, 3) := by decide +kernel
theorem dX9_alike_60 : decode cX9_alike 60 = .ok (.iconst 1, 1) := by decide +kernel
theorem dX9_alike_61 : decode cX9_alike 61 = .ok (.goto 4, 3) := by decide +kernel
theorem dX9_alike_64 : decode cX9_alike 64 = .ok (.iconst 0, 1) := by decide +kernel
theorem dX9_alike_65 : decode cX9_alike 65 = .ok (.istore 5, 2) := by decide +kernel
theorem dX9_alike_67 : decode cX9_alike 67 = .ok (.iinc 6 1, 3) := by decide +kernel
theorem dX9_alike_70 : decode cX9_alike 70 = .ok (.goto (-64), 3) := by decide +kernel
theorem dX9_alike_73 : decode cX9_alike 73 = .ok (.iload 5, 2) := by decide +kernel
theorem dX9_alike_75 : decode cX9_alike 75 = .ok (.ireturn, 1) := by decide +kernel
theorem dX9_twin_0 : decode cX9_twin 0 = .ok (.aload_n 0, 1) := by decide +kernel
theorem dX9_twin_1 : decode cX9_twin 1 = .ok (.getfield 57, 3) := by decide +kernel
theorem dX9_twin_4 : decode cX9_twin 4 = .ok (.iload_n 1, 1) := by decide +kernel
theorem dX9_twin_5 : decode cX9_twin 5 = .ok (.iaload, 1) := by decide +kernel
theorem dX9_twin_6 : decode cX9_twin 6 = .ok (.aload_n 0, 1) := by decide +kernel
theorem dX9_twin_7 : decode cX9_twin 7 = .ok (.getfield 57, 3) := by decide +kernel
theorem dX9_twin_10 : decode cX9_twin 10 = .ok (.iload_n 2, 1) := by decide +kernel
theorem dX9_twin_11 : decode cX9_twin 11 = .ok (.iaload, 1) := by decide +kernel
theorem dX9_twin_12 : decode cX9_twin 12 = .ok (.ior, 1) := by decide +kernel
theorem dX9_twin_13 : decode cX9_twin 13 = .ok (.istore_n 3, 1) := by decide +kernel
theorem dX9_twin_14 : decode cX9_twin 14 = .ok (.aload_n 0, 1) := by decide +kernel
theorem dX9_twin_15 : decode cX9_twin 15 = .ok (.iload_n 1, 1) := by decide +kernel
theorem dX9_twin_16 : decode cX9_twin 16 = .ok (.iload_n 2, 1) := by decide +kernel
theorem dX9_twin_17 : decode cX9_twin 17 = .ok (.lconst 1, 1) := by decide +kernel
theorem dX9_twin_18 : decode cX9_twin 18 = .ok (.invokevirtual 229, 3) := by decide +kernel
theorem dX9_twin_21 : decode cX9_twin 21 = .ok (.ifCond .eq 166, 3) := by decide +kernel
theorem dX9_twin_24 : decode cX9_twin 24 = .ok (.aload_n 0, 1) := by decide +kernel
theorem dX9_twin_25 : decode cX9_twin 25 = .ok (.getfield 47, 3) := by decide +kernel
theorem dX9_twin_28 : decode cX9_twin 28 = .ok (.iload_n 1, 1) := by decide +kernel
theorem dX9_twin_29 : decode cX9_twin 29 = .ok (.iaload, 1) := by decide +kernel
theorem dX9_twin_30 : decode cX9_twin 30 = .ok (.ifCond .ne 42, 3) := by decide +kernel
theorem dX9_twin_33 : decode cX9_twin 33 = .ok (.aload_n 0, 1) := by decide +kernel
theorem dX9_twin_34 : decode cX9_twin 34 = .ok (.getfield 47, 3) := by decide +kernel
theorem dX9_twin_37 : decode cX9_twin 37 = .ok (.iload_n 2, 1) := by decide +kernel
theorem dX9_twin_38 : decode cX9_twin 38 = .ok (.iaload, 1) := by decide +kernel
theorem dX9_twin_39 : decode cX9_twin 39 = .ok (.ifCond .ne 33, 3) := by decide +kernel
theorem dX9_twin_42 : decode cX9_twin 42 = .ok (.aload_n 0, 1) := by decide +kernel
theorem dX9_twin_43 : decode cX9_twin 43 = .ok (.bipush 7, 2) := by decide +kernel
theorem dX9_twin_45 : decode cX9_twin 45 = .ok (.aload_n 0, 1) := by decide +kernel
theorem dX9_twin_46 : decode cX9_twin 46 = .ok (.getfield 54, 3) := by decide +kernel
theorem dX9_twin_49 : decode cX9_twin 49 = .ok (.iload_n 1, 1) := by decide +kernel
theorem dX9_twin_50 : decode cX9_twin 50 = .ok (.laload, 1) := by decide +kernel
theorem dX9_twin_51 : decode cX9_twin 51 = .ok (.aload_n 0, 1) := by decide +kernel
theorem dX9_twin_52 : decode cX9_twin 52 = .ok (.getfield 54, 3) := by decide +kernel
theorem dX9_twin_55 : decode cX9_twin 55 = .ok (.iload_n 2, 1) := by decide +kernel
theorem dX9_twin_56 : decode cX9_twin 56 = .ok (.laload, 1) := by decide +kernel
theorem dX9_twin_57 : decode cX9_twin 57 = .ok (.lcmp, 1) := by decide +kernel
theorem dX9_twin_58 : decode cX9_twin 58 = .ok (.ifCond .le 7, 3) := by decide +kernel
theorem dX9_twin_61 : decode cX9_twin 61 = .ok (.iload_n 1, 1) := by decide +kernel
theorem dX9_twin_62 : decode cX9_twin 62 = .ok (.goto 4, 3) := by decide +kernel
theorem dX9_twin_65 : decode cX9_twin 65 = .ok (.iload_n 2, 1) := by decide +kernel
theorem dX9_twin_66 : decode cX9_twin 66 = .ok (.invokevirtual 191, 3) := by decide +kernel
theorem dX9_twin_69 : decode cX9_twin 69 = .ok (.goto 221, 3) := by decide +kernel
theorem dX9_twin_72 : decode cX9_twin 72 = .ok (.aload_n 0, 1) := by decide +kernel
theorem dX9_twin_73 : decode cX9_twin 73 = .ok (.getfield 47, 3) := by decide +kernel
theorem dX9_twin_76 : decode cX9_twin 76 = .ok (.iload_n 1, 1) := by decide +kernel
theorem dX9_twin_77 : decode cX9_twin 77 = .ok (.iaload, 1) := by decide +kernel
theorem dX9_twin_78 : decode cX9_twin 78 = .ok (.iconst 1, 1) := by decide +kernel
theorem dX9_twin_79 : decode cX9_twin 79 = .ok (.if_icmp .ne 47, 3) := by decide +kernel
theorem dX9_twin_82 : decode cX9_twin 82 = .ok (.aload_n 0, 1) := by decide +kernel
theorem dX9_twin_83 : decode cX9_twin 83 = .ok (.getfield 47, 3) := by decide +kernel
theorem dX9_twin_86 : decode cX9_twin 86 = .ok (.iload_n 2, 1) := by decide +kernel
theorem dX9_twin_87 : decode cX9_twin 87 = .ok (.iaload, 1) := by decide +kernel
theorem dX9_twin_88 : decode cX9_twin 88 = .ok (.iconst 1, 1) := by decide +kernel
theorem dX9_twin_89 : decode cX9_twin 89 = .ok (.if_icmp .ne 37, 3) := by decide +kernel
theorem dX9_twin_92 : decode cX9_twin 92 = .ok (.aload_n 0, 1) := by decide +kernel
theorem dX9_twin_93 : decode cX9_twin 93 = .ok (.getfield 54, 3) := by decide +kernel
theorem dX9_twin_96 : decode cX9_twin 96 = .ok (.iload_n 1, 1) := by decide +kernel
theorem dX9_twin_97 : decode cX9_twin 97 = .ok (.laload, 1) := by decide +kernel
theorem dX9_twin_98 : decode cX9_twin 98 = .ok (.aload_n 0, 1) := by decide +kernel
theorem dX9_twin_99 : decode cX9_twin 99 = .ok (.getfield 54, 3) := by decide +kernel
theorem dX9_twin_102 : decode cX9_twin 102 = .ok (.iload_n 2, 1) := by decide +kernel
theorem dX9_twin_103 : decode cX9_twin 103 = .ok (.laload, 1) := by decide +kernel
theorem dX9_twin_104 : decode cX9_twin 104 = .ok (.lcmp, 1) := by decide +kernel
theorem dX9_twin_105 : decode cX9_twin 105 = .ok (.ifCond .ne 13, 3) := by decide +kernel
theorem dX9_twin_108 : decode cX9_twin 108 = .ok (.aload_n 0, 1) := by decide +kernel
theorem dX9_twin_109 : decode cX9_twin 109 = .ok (.bipush 7, 2) := by decide +kernel
theorem dX9_twin_111 : decode cX9_twin 111 = .ok (.iload_n 2, 1) := by decide +kernel
theorem dX9_twin_112 : decode cX9_twin 112 = .ok (.invokevirtual 191, 3) := by decide +kernel
theorem dX9_twin_115 : decode cX9_twin 115 = .ok (.goto 175, 3) := by decide +kernel
theorem dX9_twin_118 : decode cX9_twin 118 = .ok (.aload_n 0, 1) := by decide +kernel
theorem dX9_twin_119 : decode cX9_twin 119 = .ok (.iload_n 3, 1) := by decide +kernel
theorem dX9_twin_120 : decode cX9_twin 120 = .ok (.invokevirtual 179, 3) := by decide +kernel
theorem dX9_twin_123 : decode cX9_twin 123 = .ok (.goto 167, 3) := by decide +kernel
theorem dX9_twin_126 : decode cX9_twin 126 = .ok (.aload_n 0, 1) := by decide +kernel
theorem dX9_twin_127 : decode cX9_twin 127 = .ok (.getfield 47, 3) := by decide +kernel
theorem dX9_twin_130 : decode cX9_twin 130 = .ok (.iload_n 1, 1) := by decide +kernel
theorem dX9_twin_131 : decode cX9_twin 131 = .ok (.iaload, 1) := by decide +kernel
theorem dX9_twin_132 : decode cX9_twin 132 = .ok (.ifCond .ne 7, 3) := by decide +kernel
theorem dX9_twin_135 : decode cX9_twin 135 = .ok (.iload_n 1, 1) := by decide +kernel
theorem dX9_twin_136 : decode cX9_twin 136 = .ok (.goto 4, 3) := by decide +kernel
theorem dX9_twin_139 : decode cX9_twin 139 = .ok (.iload_n 2, 1) := by decide +kernel
theorem dX9_twin_140 : decode cX9_twin 140 = .ok (.istore 4, 2) := by decide +kernel
theorem dX9_twin_142 : decode cX9_twin 142 = .ok (.iload_n 1, 1) := by decide +kernel
theorem dX9_twin_143 : decode cX9_twin 143 = .ok (.iload_n 2, 1) := by decide +kernel
theorem dX9_twin_144 : decode cX9_twin 144 = .ok (.iadd, 1) := by decide +kernel
theorem dX9_twin_145 : decode cX9_twin 145 = .ok (.iload 4, 2) := by decide +kernel
theorem dX9_twin_147 : decode cX9_twin 147 = .ok (.isub, 1) := by decide +kernel
theorem dX9_twin_148 : decode cX9_twin 148 = .ok (.istore 5, 2) := by decide +kernel
theorem dX9_twin_150 : decode cX9_twin 150 = .ok (.aload_n 0, 1) := by decide +kernel
theorem dX9_twin_151 : decode cX9_twin 151 = .ok (.getfield 54, 3) := by decide +kernel
theorem dX9_twin_154 : decode cX9_twin 154 = .ok (.iload 4, 2) := by decide +kernel
theorem dX9_twin_156 : decode cX9_twin 156 = .ok (.laload, 1) := by decide +kernel
theorem dX9_twin_157 : decode cX9_twin 157 = .ok (.aload_n 0, 1) := by decide +kernel
theorem dX9_twin_158 : decode cX9_twin 158 = .ok (.getfield 54, 3) := by decide +kernel
theorem dX9_twin_161 : decode cX9_twin 161 = .ok (.iload 5, 2) := by decide +kernel
theorem dX9_twin_163 : decode cX9_twin 163 = .ok (.laload, 1) := by decide +kernel
theorem dX9_twin_164 : decode cX9_twin 164 = .ok (.lcmp, 1) := by decide +kernel
theorem dX9_twin_165 : decode cX9_twin 165 = .ok (.ifCond .lt 14, 3) := by decide +kernel
theorem dX9_twin_168 : decode cX9_twin 168 = .ok (.aload_n 0, 1) := by decide +kernel
theorem dX9_twin_169 : decode cX9_twin 169 = .ok (.bipush 7, 2) := by decide +kernel
theorem dX9_twin_171 : decode cX9_twin 171 = .ok (.iload 4, 2) := by decide +kernel
theorem dX9_twin_173 : decode cX9_twin 173 = .ok (.invokevirtual 191, 3) := by decide +kernel
theorem dX9_twin_176 : decode cX9_twin 176 = .ok (.goto 8, 3) := by decide +kernel
theorem dX9_twin_179 : decode cX9_twin 179 = .ok (.aload_n 0, 1) := by decide +kernel
theorem dX9_twin_180 : decode cX9_twin 180 = .ok (.iload_n 3, 1) := by decide +kernel
theorem dX9_twin_181 : decode cX9_twin 181 = .ok (.invokevirtual 179, 3) := by decide +kernel
theorem dX9_twin_184 : decode cX9_twin 184 = .ok (.goto 106, 3) := by decide +kernel
theorem dX9_twin_187 : decode cX9_twin 187 = .ok (.aload_n 0, 1) := by decide +kernel
theorem dX9_twin_188 : decode cX9_twin 188 = .ok (.getfield 47, 3) := by decide +kernel
theorem dX9_twin_191 : decode cX9_twin 191 = .ok (.iload_n 1, 1) := by decide +kernel
theorem dX9_twin_192 : decode cX9_twin 192 = .ok (.iaload, 1) := by decide +kernel
theorem dX9_twin_193 : decode cX9_twin 193 = .ok (.ifCond .ne 97, 3) := by decide +kernel
theorem dX9_twin_196 : decode cX9_twin 196 = .ok (.aload_n 0, 1) := by decide +kernel
theorem dX9_twin_197 : decode cX9_twin 197 = .ok (.getfield 47, 3) := by decide +kernel
theorem dX9_twin_200 : decode cX9_twin 200 = .ok (.iload_n 2, 1) := by decide +kernel
theorem dX9_twin_201 : decode cX9_twin 201 = .ok (.iaload, 1) := by decide +kernel
theorem dX9_twin_202 : decode cX9_twin 202 = .ok (.ifCond .ne 88, 3) := by decide +kernel
theorem dX9_twin_205 : decode cX9_twin 205 = .ok (.aload_n 0, 1) := by decide +kernel
theorem dX9_twin_206 : decode cX9_twin 206 = .ok (.iload_n 1, 1) := by decide +kernel
theorem dX9_twin_207 : decode cX9_twin 207 = .ok (.iload_n 2, 1) := by decide +kernel
theorem dX9_twin_208 : decode cX9_twin 208 = .ok (.ldc2_w 198, 3) := by decide +kernel
theorem dX9_twin_211 : decode cX9_twin 211 = .ok (.invokevirtual 229, 3) := by decide +kernel
theorem dX9_twin_214 : decode cX9_twin 214 = .ok (.ifCond .eq 76, 3) := by decide +kernel
theorem dX9_twin_217 : decode cX9_twin 217 = .ok (.aload_n 0, 1) := by decide +kernel
theorem dX9_twin_218 : decode cX9_twin 218 = .ok (.getfield 54, 3) := by decide +kernel
theorem dX9_twin_221 : decode cX9_twin 221 = .ok (.iload_n 1, 1) := by decide +kernel
theorem dX9_twin_222 : decode cX9_twin 222 = .ok (.laload, 1) := by decide +kernel
theorem dX9_twin_223 : decode cX9_twin 223 = .ok (.aload_n 0, 1) := by decide +kernel
theorem dX9_twin_224 : decode cX9_twin 224 = .ok (.getfield 54, 3) := by decide +kernel
theorem dX9_twin_227 : decode cX9_twin 227 = .ok (.iload_n 2, 1) := by decide +kernel
theorem dX9_twin_228 : decode cX9_twin 228 = .ok (.laload, 1) := by decide +kernel
theorem dX9_twin_229 : decode cX9_twin 229 = .ok (.ladd, 1) := by decide +kernel
theorem dX9_twin_230 : decode cX9_twin 230 = .ok (.lstore 4, 2) := by decide +kernel
theorem dX9_twin_232 : decode cX9_twin 232 = .ok (.lload 4, 2) := by decide +kernel
theorem dX9_twin_234 : decode cX9_twin 234 = .ok (.lconst 0, 1) := by decide +kernel
theorem dX9_twin_235 : decode cX9_twin 235 = .ok (.lcmp, 1) := by decide +kernel
theorem dX9_twin_236 : decode cX9_twin 236 = .ok (.ifCond .ge 11, 3) := by decide +kernel
theorem dX9_twin_239 : decode cX9_twin 239 = .ok (.aload_n 0, 1) := by decide +kernel
theorem dX9_twin_240 : decode cX9_twin 240 = .ok (.iload_n 3, 1) := by decide +kernel
theorem dX9_twin_241 : decode cX9_twin 241 = .ok (.invokevirtual 179, 3) := by decide +kernel
theorem dX9_twin_244 : decode cX9_twin 244 = .ok (.goto 46, 3) := by decide +kernel
theorem dX9_twin_247 : decode cX9_twin 247 = .ok (.lload 4, 2) := by decide +kernel
theorem dX9_twin_249 : decode cX9_twin 249 = .ok (.lconst 0, 1) := by decide +kernel
theorem dX9_twin_250 : decode cX9_twin 250 = .ok (.lcmp, 1) := by decide +kernel
theorem dX9_twin_251 : decode cX9_twin 251 = .ok (.ifCond .ne 39, 3) := by decide +kernel
theorem dX9_twin_254 : decode cX9_twin 254 = .ok (.aload_n 0, 1) := by decide +kernel
theorem dX9_twin_255 : decode cX9_twin 255 = .ok (.getfield 47, 3) := by decide +kernel
theorem dX9_twin_258 : decode cX9_twin 258 = .ok (.iload_n 1, 1) := by decide +kernel
theorem dX9_twin_259 : decode cX9_twin 259 = .ok (.iconst 1, 1) := by decide +kernel
theorem dX9_twin_260 : decode cX9_twin 260 = .ok (.iastore, 1) := by decide +kernel
theorem dX9_twin_261 : decode cX9_twin 261 = .ok (.aload_n 0, 1) := by decide +kernel
theorem dX9_twin_262 : decode cX9_twin 262 = .ok (.getfield 57, 3) := by decide +kernel
theorem dX9_twin_265 : decode cX9_twin 265 = .ok (.iload_n 1, 1) := by decide +kernel
theorem dX9_twin_266 : decode cX9_twin 266 = .ok (.iload_n 3, 1) := by decide +kernel
theorem dX9_twin_267 : decode cX9_twin 267 = .ok (.iastore, 1) := by decide +kernel
theorem dX9_twin_268 : decode cX9_twin 268 = .ok (.aload_n 0, 1) := by decide +kernel
theorem dX9_twin_269 : decode cX9_twin 269 = .ok (.bipush 7, 2) := by decide +kernel
theorem dX9_twin_271 : decode cX9_twin 271 = .ok (.iload_n 1, 1) := by decide +kernel
theorem dX9_twin_272 : decode cX9_twin 272 = .ok (.iconst (-1), 1) := by decide +kernel
theorem dX9_twin_273 : decode cX9_twin 273 = .ok (.iconst 3, 1) := by decide +kernel
theorem dX9_twin_274 : decode cX9_twin 274 = .ok (.aload_n 0, 1) := by decide +kernel
theorem dX9_twin_275 : decode cX9_twin 275 = .ok (.getfield 54, 3) := by decide +kernel
theorem dX9_twin_278 : decode cX9_twin 278 = .ok (.iload_n 1, 1) := by decide +kernel
theorem dX9_twin_279 : decode cX9_twin 279 = .ok (.laload, 1) := by decide +kernel
theorem dX9_twin_280 : decode cX9_twin 280 = .ok (.invokevirtual 183, 3) := by decide +kernel
theorem dX9_twin_283 : decode cX9_twin 283 = .ok (.aload_n 0, 1) := by decide +kernel
theorem dX9_twin_284 : decode cX9_twin 284 = .ok (.bipush 7, 2) := by decide +kernel
theorem dX9_twin_286 : decode cX9_twin 286 = .ok (.iload_n 2, 1) := by decide +kernel
theorem dX9_twin_287 : decode cX9_twin 287 = .ok (.invokevirtual 191, 3) := by decide +kernel
theorem dX9_twin_290 : decode cX9_twin 290 = .ok (.return_, 1) := by decide +kernel
theorem dX9_twins_0 : decode cX9_twins 0 = .ok (.aload_n 0, 1) := by decide +kernel
theorem dX9_twins_1 : decode cX9_twins 1 = .ok (.iload_n 1, 1) := by decide +kernel
theorem dX9_twins_2 : decode cX9_twins 2 = .ok (.invokevirtual 187, 3) := by decide +kernel
theorem dX9_twins_5 : decode cX9_twins 5 = .ok (.ifCond .ne 4, 3) := by decide +kernel
theorem dX9_twins_8 : decode cX9_twins 8 = .ok (.return_, 1) := by decide +kernel
theorem dX9_twins_9 : decode cX9_twins 9 = .ok (.iload_n 1, 1) := by decide +kernel
theorem dX9_twins_10 : decode cX9_twins 10 = .ok (.iconst 1, 1) := by decide +kernel
theorem dX9_twins_11 : decode cX9_twins 11 = .ok (.iadd, 1) := by decide +kernel
theorem dX9_twins_12 : decode cX9_twins 12 = .ok (.istore_n 2, 1) := by decide +kernel
theorem dX9_twins_13 : decode cX9_twins 13 = .ok (.iload_n 2, 1) := by decide +kernel
theorem dX9_twins_14 : decode cX9_twins 14 = .ok (.aload_n 0, 1) := by decide +kernel
theorem dX9_twins_15 : decode cX9_twins 15 = .ok (.getfield 151, 3) := by decide +kernel
theorem dX9_twins_18 : decode cX9_twins 18 = .ok (.if_icmp .ge 40, 3) := by decide +kernel
theorem dX9_twins_21 : decode cX9_twins 21 = .ok (.aload_n 0, 1) := by decide +kernel
theorem dX9_twins_22 : decode cX9_twins 22 = .ok (.getfield 50, 3) := by decide +kernel
theorem dX9_twins_25 : decode cX9_twins 25 = .ok (.iload_n 1, 1) := by decide +kernel
theorem dX9_twins_26 : decode cX9_twins 26 = .ok (.baload, 1) := by decide +kernel
theorem dX9_twins_27 : decode cX9_twins 27 = .ok (.ifCond .ne 31, 3) := by decide +kernel
theorem dX9_twins_30 : decode cX9_twins 30 = .ok (.aload_n 0, 1) := by decide +kernel
theorem dX9_twins_31 : decode cX9_twins 31 = .ok (.invokevirtual 175, 3) := by decide +kernel
theorem dX9_twins_34 : decode cX9_twins 34 = .ok (.ifCond .eq 24, 3) := by decide +kernel
theorem dX9_twins_37 : decode cX9_twins 37 = .ok (.aload_n 0, 1) := by decide +kernel
theorem dX9_twins_38 : decode cX9_twins 38 = .ok (.getfield 50, 3) := by decide +kernel
theorem dX9_twins_41 : decode cX9_twins 41 = .ok (.iload_n 2, 1) := by decide +kernel
theorem dX9_twins_42 : decode cX9_twins 42 = .ok (.baload, 1) := by decide +kernel
theorem dX9_twins_43 : decode cX9_twins 43 = .ok (.ifCond .ne 9, 3) := by decide +kernel
theorem dX9_twins_46 : decode cX9_twins 46 = .ok (.aload_n 0, 1) := by decide +kernel
theorem dX9_twins_47 : decode cX9_twins 47 = .ok (.iload_n 1, 1) := by decide +kernel
theorem dX9_twins_48 : decode cX9_twins 48 = .ok (.iload_n 2, 1) := by decide +kernel
theorem dX9_twins_49 : decode cX9_twins 49 = .ok (.invokevirtual 226, 3) := by decide +kernel
theorem dX9_twins_52 : decode cX9_twins 52 = .ok (.iinc 2 1, 3) := by decide +kernel
theorem dX9_twins_55 : decode cX9_twins 55 = .ok (.goto (-42), 3) := by decide +kernel
theorem dX9_twins_58 : decode cX9_twins 58 = .ok (.return_, 1) := by decide +kernel
theorem dX9_side_0 : decode cX9_side 0 = .ok (.iconst 1, 1) := by decide +kernel
theorem dX9_side_1 : decode cX9_side 1 = .ok (.istore_n 2, 1) := by decide +kernel
theorem dX9_side_2 : decode cX9_side 2 = .ok (.iconst 1, 1) := by decide +kernel
theorem dX9_side_3 : decode cX9_side 3 = .ok (.istore_n 3, 1) := by decide +kernel
theorem dX9_side_4 : decode cX9_side 4 = .ok (.iconst 0, 1) := by decide +kernel
theorem dX9_side_5 : decode cX9_side 5 = .ok (.istore 4, 2) := by decide +kernel
theorem dX9_side_7 : decode cX9_side 7 = .ok (.iload 4, 2) := by decide +kernel
theorem dX9_side_9 : decode cX9_side 9 = .ok (.aload_n 0, 1) := by decide +kernel
theorem dX9_side_10 : decode cX9_side 10 = .ok (.getfield 151, 3) := by decide +kernel
theorem dX9_side_13 : decode cX9_side 13 = .ok (.if_icmp .ge 103, 3) := by decide +kernel
theorem dX9_side_16 : decode cX9_side 16 = .ok (.aload_n 0, 1) := by decide +kernel
theorem dX9_side_17 : decode cX9_side 17 = .ok (.getfield 50, 3) := by decide +kernel
theorem dX9_side_20 : decode cX9_side 20 = .ok (.iload 4, 2) := by decide +kernel
theorem dX9_side_22 : decode cX9_side 22 = .ok (.baload, 1) := by decide +kernel
theorem dX9_side_23 : decode cX9_side 23 = .ok (.ifCond .ne 87, 3) := by decide +kernel
theorem dX9_side_26 : decode cX9_side 26 = .ok (.aload_n 0, 1) := by decide +kernel
theorem dX9_side_27 : decode cX9_side 27 = .ok (.iload 4, 2) := by decide +kernel
theorem dX9_side_29 : decode cX9_side 29 = .ok (.iload_n 1, 1) := by decide +kernel
theorem dX9_side_30 : decode cX9_side 30 = .ok (.invokevirtual 165, 3) := by decide +kernel
theorem dX9_side_33 : decode cX9_side 33 = .ok (.ifCond .eq 77, 3) := by decide +kernel
theorem dX9_side_36 : decode cX9_side 36 = .ok (.iload_n 2, 1) := by decide +kernel
theorem dX9_side_37 : decode cX9_side 37 = .ok (.ifCond .eq 34, 3) := by decide +kernel
theorem dX9_side_40 : decode cX9_side 40 = .ok (.aload_n 0, 1) := by decide +kernel
theorem dX9_side_41 : decode cX9_side 41 = .ok (.getfield 47, 3) := by decide +kernel
theorem dX9_side_44 : decode cX9_side 44 = .ok (.iload 4, 2) := by decide +kernel
theorem dX9_side_46 : decode cX9_side 46 = .ok (.iaload, 1) := by decide +kernel
theorem dX9_side_47 : decode cX9_side 47 = .ok (.ifCond .ne 24, 3) := by decide +kernel
theorem dX9_side_50 : decode cX9_side 50 = .ok (.aload_n 0, 1) := by decide +kernel
theorem dX9_side_51 : decode cX9_side 51 = .ok (.getfield 60, 3) := by decide +kernel
theorem dX9_side_54 : decode cX9_side 54 = .ok (.bipush 12, 2) := by decide +kernel
theorem dX9_side_56 : decode cX9_side 56 = .ok (.iload 4, 2) := by decide +kernel
theorem dX9_side_58 : decode cX9_side 58 = .ok (.imul, 1) := by decide +kernel
theorem dX9_side_59 : decode cX9_side 59 = .ok (.iload_n 1, 1) := by decide +kernel
theorem dX9_side_60 : decode cX9_side 60 = .ok (.iadd, 1) := by decide +kernel
theorem dX9_side_61 : decode cX9_side 61 = .ok (.laload, 1) := by decide +kernel
theorem dX9_side_62 : decode cX9_side 62 = .ok (.lconst 0, 1) := by decide +kernel
theorem dX9_side_63 : decode cX9_side 63 = .ok (.lcmp, 1) := by decide +kernel
theorem dX9_side_64 : decode cX9_side 64 = .ok (.ifCond .le 7, 3) := by decide +kernel
theorem dX9_side_67 : decode cX9_side 67 = .ok (.iconst 1, 1) := by decide +kernel
theorem dX9_side_68 : decode cX9_side 68 = .ok (.goto 4, 3) := by decide +kernel
theorem dX9_side_71 : decode cX9_side 71 = .ok (.iconst 0, 1) := by decide +kernel
theorem dX9_side_72 : decode cX9_side 72 = .ok (.istore_n 2, 1) := by decide +kernel
theorem dX9_side_73 : decode cX9_side 73 = .ok (.iload_n 3, 1) := by decide +kernel
theorem dX9_side_74 : decode cX9_side 74 = .ok (.ifCond .eq 34, 3) := by decide +kernel
theorem dX9_side_77 : decode cX9_side 77 = .ok (.aload_n 0, 1) := by decide +kernel
theorem dX9_side_78 : decode cX9_side 78 = .ok (.getfield 47, 3) := by decide +kernel
theorem dX9_side_81 : decode cX9_side 81 = .ok (.iload 4, 2) := by decide +kernel
theorem dX9_side_83 : decode cX9_side 83 = .ok (.iaload, 1) := by decide +kernel
theorem dX9_side_84 : decode cX9_side 84 = .ok (.ifCond .ne 24, 3) := by decide +kernel
theorem dX9_side_87 : decode cX9_side 87 = .ok (.aload_n 0, 1) := by decide +kernel
theorem dX9_side_88 : decode cX9_side 88 = .ok (.getfield 60, 3) := by decide +kernel
theorem dX9_side_91 : decode cX9_side 91 = .ok (.bipush 12, 2) := by decide +kernel
theorem dX9_side_93 : decode cX9_side 93 = .ok (.iload 4, 2) := by decide +kernel
theorem dX9_side_95 : decode cX9_side 95 = .ok (.imul, 1) := by decide +kernel
theorem dX9_side_96 : decode cX9_side 96 = .ok (.iload_n 1, 1) := by decide +kernel
theorem dX9_side_97 : decode cX9_side 97 = .ok (.iadd, 1) := by decide +kernel
theorem dX9_side_98 : decode cX9_side 98 = .ok (.laload, 1) := by decide +kernel
theorem dX9_side_99 : decode cX9_side 99 = .ok (.lconst 0, 1) := by decide +kernel
theorem dX9_side_100 : decode cX9_side 100 = .ok (.lcmp, 1) := by decide +kernel
theorem dX9_side_101 : decode cX9_side 101 = .ok (.ifCond .ge 7, 3) := by decide +kernel
theorem dX9_side_104 : decode cX9_side 104 = .ok (.iconst 1, 1) := by decide +kernel
theorem dX9_side_105 : decode cX9_side 105 = .ok (.goto 4, 3) := by decide +kernel
theorem dX9_side_108 : decode cX9_side 108 = .ok (.iconst 0, 1) := by decide +kernel
theorem dX9_side_109 : decode cX9_side 109 = .ok (.istore_n 3, 1) := by decide +kernel
theorem dX9_side_110 : decode cX9_side 110 = .ok (.iinc 4 1, 3) := by decide +kernel
theorem dX9_side_113 : decode cX9_side 113 = .ok (.goto (-106), 3) := by decide +kernel
theorem dX9_side_116 : decode cX9_side 116 = .ok (.iconst 1, 1) := by decide +kernel
theorem dX9_side_117 : decode cX9_side 117 = .ok (.aload_n 0, 1) := by decide +kernel
theorem dX9_side_118 : decode cX9_side 118 = .ok (.getfield 151, 3) := by decide +kernel
theorem dX9_side_121 : decode cX9_side 121 = .ok (.ishl, 1) := by decide +kernel
theorem dX9_side_122 : decode cX9_side 122 = .ok (.iconst 1, 1) := by decide +kernel
theorem dX9_side_123 : decode cX9_side 123 = .ok (.isub, 1) := by decide +kernel
theorem dX9_side_124 : decode cX9_side 124 = .ok (.istore 4, 2) := by decide +kernel
theorem dX9_side_126 : decode cX9_side 126 = .ok (.aload_n 0, 1) := by decide +kernel
theorem dX9_side_127 : decode cX9_side 127 = .ok (.getfield 31, 3) := by decide +kernel
theorem dX9_side_130 : decode cX9_side 130 = .ok (.iload_n 1, 1) := by decide +kernel
theorem dX9_side_131 : decode cX9_side 131 = .ok (.iaload, 1) := by decide +kernel
theorem dX9_side_132 : decode cX9_side 132 = .ok (.aload_n 0, 1) := by decide +kernel
theorem dX9_side_133 : decode cX9_side 133 = .ok (.getfield 34, 3) := by decide +kernel
theorem dX9_side_136 : decode cX9_side 136 = .ok (.iload_n 1, 1) := by decide +kernel
theorem dX9_side_137 : decode cX9_side 137 = .ok (.iaload, 1) := by decide +kernel
theorem dX9_side_138 : decode cX9_side 138 = .ok (.if_icmp .ne 4, 3) := by decide +kernel
theorem dX9_side_141 : decode cX9_side 141 = .ok (.return_, 1) := by decide +kernel
theorem dX9_side_142 : decode cX9_side 142 = .ok (.aload_n 0, 1) := by decide +kernel
theorem dX9_side_143 : decode cX9_side 143 = .ok (.getfield 43, 3) := by decide +kernel
theorem dX9_side_146 : decode cX9_side 146 = .ok (.iload_n 1, 1) := by decide +kernel
theorem dX9_side_147 : decode cX9_side 147 = .ok (.laload, 1) := by decide +kernel
theorem dX9_side_148 : decode cX9_side 148 = .ok (.lconst 0, 1) := by decide +kernel
theorem dX9_side_149 : decode cX9_side 149 = .ok (.lcmp, 1) := by decide +kernel
theorem dX9_side_150 : decode cX9_side 150 = .ok (.ifCond .lt 27, 3) := by decide +kernel
theorem dX9_side_153 : decode cX9_side 153 = .ok (.iload_n 2, 1) := by decide +kernel
theorem dX9_side_154 : decode cX9_side 154 = .ok (.ifCond .eq 23, 3) := by decide +kernel
theorem dX9_side_157 : decode cX9_side 157 = .ok (.aload_n 0, 1) := by decide +kernel
theorem dX9_side_158 : decode cX9_side 158 = .ok (.bipush 8, 2) := by decide +kernel
theorem dX9_side_160 : decode cX9_side 160 = .ok (.iconst (-1), 1) := by decide +kernel
theorem dX9_side_161 : decode cX9_side 161 = .ok (.iload_n 1, 1) := by decide +kernel
theorem dX9_side_162 : decode cX9_side 162 = .ok (.aload_n 0, 1) := by decide +kernel
theorem dX9_side_163 : decode cX9_side 163 = .ok (.getfield 31, 3) := by decide +kernel
theorem dX9_side_166 : decode cX9_side 166 = .ok (.iload_n 1, 1) := by decide +kernel
theorem dX9_side_167 : decode cX9_side 167 = .ok (.iaload, 1) := by decide +kernel
theorem dX9_side_168 : decode cX9_side 168 = .ok (.i2l, 1) := by decide +kernel
theorem dX9_side_169 : decode cX9_side 169 = .ok (.iload 4, 2) := by decide +kernel
theorem dX9_side_171 : decode cX9_side 171 = .ok (.invokevirtual 207, 3) := by decide +kernel
theorem dX9_side_174 : decode cX9_side 174 = .ok (.goto 35, 3) := by decide +kernel
theorem dX9_side_177 : decode cX9_side 177 = .ok (.aload_n 0, 1) := by decide +kernel
theorem dX9_side_178 : decode cX9_side 178 = .ok (.getfield 43, 3) := by decide +kernel
theorem dX9_side_181 : decode cX9_side 181 = .ok (.iload_n 1, 1) := by decide +kernel
theorem dX9_side_182 : decode cX9_side 182 = .ok (.laload, 1) := by decide +kernel
theorem dX9_side_183 : decode cX9_side 183 = .ok (.lconst 0, 1) := by decide +kernel
theorem dX9_side_184 : decode cX9_side 184 = .ok (.lcmp, 1) := by decide +kernel
theorem dX9_side_185 : decode cX9_side 185 = .ok (.ifCond .gt 24, 3) := by decide +kernel
theorem dX9_side_188 : decode cX9_side 188 = .ok (.iload_n 3, 1) := by decide +kernel
theorem dX9_side_189 : decode cX9_side 189 = .ok (.ifCond .eq 20, 3) := by decide +kernel
theorem dX9_side_192 : decode cX9_side 192 = .ok (.aload_n 0, 1) := by decide +kernel
theorem dX9_side_193 : decode cX9_side 193 = .ok (.bipush 8, 2) := by decide +kernel
theorem dX9_side_195 : decode cX9_side 195 = .ok (.iconst (-1), 1) := by decide +kernel
theorem dX9_side_196 : decode cX9_side 196 = .ok (.iload_n 1, 1) := by decide +kernel
theorem dX9_side_197 : decode cX9_side 197 = .ok (.aload_n 0, 1) := by decide +kernel
theorem dX9_side_198 : decode cX9_side 198 = .ok (.getfield 34, 3) := by decide +kernel
theorem dX9_side_201 : decode cX9_side 201 = .ok (.iload_n 1, 1) := by decide +kernel
theorem dX9_side_202 : decode cX9_side 202 = .ok (.iaload, 1) := by decide +kernel
theorem dX9_side_203 : decode cX9_side 203 = .ok (.i2l, 1) := by decide +kernel
theorem dX9_side_204 : decode cX9_side 204 = .ok (.iload 4, 2) := by decide +kernel
theorem dX9_side_206 : decode cX9_side 206 = .ok (.invokevirtual 203, 3) := by decide +kernel
theorem dX9_side_209 : decode cX9_side 209 = .ok (.return_, 1) := by decide +kernel
theorem dX9_isUnit_0 : decode cX9_isUnit 0 = .ok (.lload_n 0, 1) := by decide +kernel
theorem dX9_isUnit_1 : decode cX9_isUnit 1 = .ok (.lconst 1, 1) := by decide +kernel
theorem dX9_isUnit_2 : decode cX9_isUnit 2 = .ok (.lcmp, 1) := by decide +kernel
theorem dX9_isUnit_3 : decode cX9_isUnit 3 = .ok (.ifCond .eq 11, 3) := by decide +kernel
theorem dX9_isUnit_6 : decode cX9_isUnit 6 = .ok (.lload_n 0, 1) := by decide +kernel
theorem dX9_isUnit_7 : decode cX9_isUnit 7 = .ok (.ldc2_w 198, 3) := by decide +kernel
theorem dX9_isUnit_10 : decode cX9_isUnit 10 = .ok (.lcmp, 1) := by decide +kernel
theorem dX9_isUnit_11 : decode cX9_isUnit 11 = .ok (.ifCond .ne 7, 3) := by decide +kernel
theorem dX9_isUnit_14 : decode cX9_isUnit 14 = .ok (.iconst 1, 1) := by decide +kernel
theorem dX9_isUnit_15 : decode cX9_isUnit 15 = .ok (.goto 4, 3) := by decide +kernel
theorem dX9_isUnit_18 : decode cX9_isUnit 18 = .ok (.iconst 0, 1) := by decide +kernel
theorem dX9_isUnit_19 : decode cX9_isUnit 19 = .ok (.ireturn, 1) := by decide +kernel
theorem dX9_isCoefficient_0 : decode cX9_isCoefficient 0 = .ok (.lload_n 0, 1) := by decide +kernel
theorem dX9_isCoefficient_1 : decode cX9_isCoefficient 1 = .ok (.ldc2_w 154, 3) := by decide +kernel
theorem dX9_isCoefficient_4 : decode cX9_isCoefficient 4 = .ok (.ldc2_w 156, 3) := by decide +kernel
theorem dX9_isCoefficient_7 : decode cX9_isCoefficient 7 = .ok (.invokestatic 133, 3) := by decide +kernel
theorem dX9_isCoefficient_10 : decode cX9_isCoefficient 10 = .ok (.ireturn, 1) := by decide +kernel
theorem dX9_mayPut_0 : decode cX9_mayPut 0 = .ok (.aload_n 0, 1) := by decide +kernel
theorem dX9_mayPut_1 : decode cX9_mayPut 1 = .ok (.getfield 43, 3) := by decide +kernel
theorem dX9_mayPut_4 : decode cX9_mayPut 4 = .ok (.iload_n 3, 1) := by decide +kernel
theorem dX9_mayPut_5 : decode cX9_mayPut 5 = .ok (.laload, 1) := by decide +kernel
theorem dX9_mayPut_6 : decode cX9_mayPut 6 = .ok (.lload 4, 2) := by decide +kernel
theorem dX9_mayPut_8 : decode cX9_mayPut 8 = .ok (.aload_n 0, 1) := by decide +kernel
theorem dX9_mayPut_9 : decode cX9_mayPut 9 = .ok (.getfield 43, 3) := by decide +kernel
theorem dX9_mayPut_12 : decode cX9_mayPut 12 = .ok (.iload_n 2, 1) := by decide +kernel
theorem dX9_mayPut_13 : decode cX9_mayPut 13 = .ok (.laload, 1) := by decide +kernel
theorem dX9_mayPut_14 : decode cX9_mayPut 14 = .ok (.lmul, 1) := by decide +kernel
theorem dX9_mayPut_15 : decode cX9_mayPut 15 = .ok (.ladd, 1) := by decide +kernel
theorem dX9_mayPut_16 : decode cX9_mayPut 16 = .ok (.invokestatic 252, 3) := by decide +kernel
theorem dX9_mayPut_19 : decode cX9_mayPut 19 = .ok (.ifCond .eq 28, 3) := by decide +kernel
theorem dX9_mayPut_22 : decode cX9_mayPut 22 = .ok (.lload 6, 2) := by decide +kernel
theorem dX9_mayPut_24 : decode cX9_mayPut 24 = .ok (.aload_n 0, 1) := by decide +kernel
theorem dX9_mayPut_25 : decode cX9_mayPut 25 = .ok (.getfield 43, 3) := by decide +kernel
theorem dX9_mayPut_28 : decode cX9_mayPut 28 = .ok (.iload_n 2, 1) := by decide +kernel
theorem dX9_mayPut_29 : decode cX9_mayPut 29 = .ok (.laload, 1) := by decide +kernel
theorem dX9_mayPut_30 : decode cX9_mayPut 30 = .ok (.lmul, 1) := by decide +kernel
theorem dX9_mayPut_31 : decode cX9_mayPut 31 = .ok (.ldc2_w 255, 3) := by decide +kernel
theorem dX9_mayPut_34 : decode cX9_mayPut 34 = .ok (.ldc2_w 257, 3) := by decide +kernel
theorem dX9_mayPut_37 : decode cX9_mayPut 37 = .ok (.invokestatic 133, 3) := by decide +kernel
theorem dX9_mayPut_40 : decode cX9_mayPut 40 = .ok (.ifCond .eq 7, 3) := by decide +kernel
theorem dX9_mayPut_43 : decode cX9_mayPut 43 = .ok (.iconst 1, 1) := by decide +kernel
theorem dX9_mayPut_44 : decode cX9_mayPut 44 = .ok (.goto 4, 3) := by decide +kernel
theorem dX9_mayPut_47 : decode cX9_mayPut 47 = .ok (.iconst 0, 1) := by decide +kernel
theorem dX9_mayPut_48 : decode cX9_mayPut 48 = .ok (.istore 8, 2) := by decide +kernel
theorem dX9_mayPut_50 : decode cX9_mayPut 50 = .ok (.iconst 0, 1) := by decide +kernel
theorem dX9_mayPut_51 : decode cX9_mayPut 51 = .ok (.istore 9, 2) := by decide +kernel
theorem dX9_mayPut_53 : decode cX9_mayPut 53 = .ok (.iload 9, 2) := by decide +kernel
theorem dX9_mayPut_55 : decode cX9_mayPut 55 = .ok (.aload_n 0, 1) := by decide +kernel
theorem dX9_mayPut_56 : decode cX9_mayPut 56 = .ok (.getfield 151, 3) := by decide +kernel
theorem dX9_mayPut_59 : decode cX9_mayPut 59 = .ok (.if_icmp .ge 110, 3) := by decide +kernel
theorem dX9_mayPut_62 : decode cX9_mayPut 62 = .ok (.iload 9, 2) := by decide +kernel
theorem dX9_mayPut_64 : decode cX9_mayPut 64 = .ok (.iload_n 1, 1) := by decide +kernel
theorem dX9_mayPut_65 : decode cX9_mayPut 65 = .ok (.if_icmp .eq 98, 3) := by decide +kernel
theorem dX9_mayPut_68 : decode cX9_mayPut 68 = .ok (.aload_n 0, 1) := by decide +kernel
theorem dX9_mayPut_69 : decode cX9_mayPut 69 = .ok (.getfield 50, 3) := by decide +kernel
theorem dX9_mayPut_72 : decode cX9_mayPut 72 = .ok (.iload 9, 2) := by decide +kernel
theorem dX9_mayPut_74 : decode cX9_mayPut 74 = .ok (.baload, 1) := by decide +kernel
theorem dX9_mayPut_75 : decode cX9_mayPut 75 = .ok (.ifCond .ne 88, 3) := by decide +kernel
theorem dX9_mayPut_78 : decode cX9_mayPut 78 = .ok (.aload_n 0, 1) := by decide +kernel
theorem dX9_mayPut_79 : decode cX9_mayPut 79 = .ok (.iload 9, 2) := by decide +kernel
theorem dX9_mayPut_81 : decode cX9_mayPut 81 = .ok (.iload_n 2, 1) := by decide +kernel
theorem dX9_mayPut_82 : decode cX9_mayPut 82 = .ok (.invokevirtual 165, 3) := by decide +kernel
theorem dX9_mayPut_85 : decode cX9_mayPut 85 = .ok (.ifCond .eq 78, 3) := by decide +kernel
theorem dX9_mayPut_88 : decode cX9_mayPut 88 = .ok (.aload_n 0, 1) := by decide +kernel
theorem dX9_mayPut_89 : decode cX9_mayPut 89 = .ok (.getfield 60, 3) := by decide +kernel
theorem dX9_mayPut_92 : decode cX9_mayPut 92 = .ok (.bipush 12, 2) := by decide +kernel
theorem dX9_mayPut_94 : decode cX9_mayPut 94 = .ok (.iload 9, 2) := by decide +kernel
theorem dX9_mayPut_96 : decode cX9_mayPut 96 = .ok (.imul, 1) := by decide +kernel
theorem dX9_mayPut_97 : decode cX9_mayPut 97 = .ok (.iload_n 2, 1) := by decide +kernel
theorem dX9_mayPut_98 : decode cX9_mayPut 98 = .ok (.iadd, 1) := by decide +kernel
theorem dX9_mayPut_99 : decode cX9_mayPut 99 = .ok (.laload, 1) := by decide +kernel
theorem dX9_mayPut_100 : decode cX9_mayPut 100 = .ok (.lstore 10, 2) := by decide +kernel
theorem dX9_mayPut_102 : decode cX9_mayPut 102 = .ok (.iload 8, 2) := by decide +kernel
theorem dX9_mayPut_104 : decode cX9_mayPut 104 = .ok (.ifCond .eq 56, 3) := by decide +kernel
theorem dX9_mayPut_107 : decode cX9_mayPut 107 = .ok (.aload_n 0, 1) := by decide +kernel
theorem dX9_mayPut_108 : decode cX9_mayPut 108 = .ok (.getfield 60, 3) := by decide +kernel
theorem dX9_mayPut_111 : decode cX9_mayPut 111 = .ok (.bipush 12, 2) := by decide +kernel
theorem dX9_mayPut_113 : decode cX9_mayPut 113 = .ok (.iload 9, 2) := by decide +kernel
theorem dX9_mayPut_115 : decode cX9_mayPut 115 = .ok (.imul, 1) := by decide +kernel
theorem dX9_mayPut_116 : decode cX9_mayPut 116 = .ok (.iload_n 3, 1) := by decide +kernel
theorem dX9_mayPut_117 : decode cX9_mayPut 117 = .ok (.iadd, 1) := by decide +kernel
theorem dX9_mayPut_118 : decode cX9_mayPut 118 = .ok (.laload, 1) := by decide +kernel
theorem dX9_mayPut_119 : decode cX9_mayPut 119 = .ok (.lload 10, 2) := by decide +kernel
theorem dX9_mayPut_121 : decode cX9_mayPut 121 = .ok (.lload 4, 2) := by decide +kernel
theorem dX9_mayPut_123 : decode cX9_mayPut 123 = .ok (.lmul, 1) := by decide +kernel
theorem dX9_mayPut_124 : decode cX9_mayPut 124 = .ok (.ladd, 1) := by decide +kernel
theorem dX9_mayPut_125 : decode cX9_mayPut 125 = .ok (.invokestatic 252, 3) := by decide +kernel
theorem dX9_mayPut_128 : decode cX9_mayPut 128 = .ok (.ifCond .eq 32, 3) := by decide +kernel
theorem dX9_mayPut_131 : decode cX9_mayPut 131 = .ok (.aload_n 0, 1) := by decide +kernel
theorem dX9_mayPut_132 : decode cX9_mayPut 132 = .ok (.getfield 54, 3) := by decide +kernel
theorem dX9_mayPut_135 : decode cX9_mayPut 135 = .ok (.iload 9, 2) := by decide +kernel
theorem dX9_mayPut_137 : decode cX9_mayPut 137 = .ok (.laload, 1) := by decide +kernel
theorem dX9_mayPut_138 : decode cX9_mayPut 138 = .ok (.lload 10, 2) := by decide +kernel
theorem dX9_mayPut_140 : decode cX9_mayPut 140 = .ok (.lload 6, 2) := by decide +kernel
theorem dX9_mayPut_142 : decode cX9_mayPut 142 = .ok (.lmul, 1) := by decide +kernel
theorem dX9_mayPut_143 : decode cX9_mayPut 143 = .ok (.lsub, 1) := by decide +kernel
theorem dX9_mayPut_144 : decode cX9_mayPut 144 = .ok (.ldc2_w 259, 3) := by decide +kernel
theorem dX9_mayPut_147 : decode cX9_mayPut 147 = .ok (.ldc2_w 261, 3) := by decide +kernel
theorem dX9_mayPut_150 : decode cX9_mayPut 150 = .ok (.invokestatic 133, 3) := by decide +kernel
theorem dX9_mayPut_153 : decode cX9_mayPut 153 = .ok (.ifCond .eq 7, 3) := by decide +kernel
theorem dX9_mayPut_156 : decode cX9_mayPut 156 = .ok (.iconst 1, 1) := by decide +kernel
theorem dX9_mayPut_157 : decode cX9_mayPut 157 = .ok (.goto 4, 3) := by decide +kernel
theorem dX9_mayPut_160 : decode cX9_mayPut 160 = .ok (.iconst 0, 1) := by decide +kernel
theorem dX9_mayPut_161 : decode cX9_mayPut 161 = .ok (.istore 8, 2) := by decide +kernel
theorem dX9_mayPut_163 : decode cX9_mayPut 163 = .ok (.iinc 9 1, 3) := by decide +kernel
theorem dX9_mayPut_166 : decode cX9_mayPut 166 = .ok (.goto (-113), 3) := by decide +kernel
theorem dX9_mayPut_169 : decode cX9_mayPut 169 = .ok (.iload 8, 2) := by decide +kernel
theorem dX9_mayPut_171 : decode cX9_mayPut 171 = .ok (.ireturn, 1) := by decide +kernel
theorem dX9_byBounds_0 : decode cX9_byBounds 0 = .ok (.aload_n 0, 1) := by decide +kernel
theorem dX9_byBounds_1 : decode cX9_byBounds 1 = .ok (.getfield 31, 3) := by decide +kernel
theorem dX9_byBounds_4 : decode cX9_byBounds 4 = .ok (.iload_n 2, 1) := by decide +kernel
theorem dX9_byBounds_5 : decode cX9_byBounds 5 = .ok (.iaload, 1) := by decide +kernel
theorem dX9_byBounds_6 : decode cX9_byBounds 6 = .ok (.i2l, 1) := by decide +kernel
theorem dX9_byBounds_7 : decode cX9_byBounds 7 = .ok (.lload 6, 2) := by decide +kernel
theorem dX9_byBounds_9 : decode cX9_byBounds 9 = .ok (.lsub, 1) := by decide +kernel
theorem dX9_byBounds_10 : decode cX9_byBounds 10 = .ok (.lstore 8, 2) := by decide +kernel
theorem dX9_byBounds_12 : decode cX9_byBounds 12 = .ok (.aload_n 0, 1) := by decide +kernel
theorem dX9_byBounds_13 : decode cX9_byBounds 13 = .ok (.getfield 34, 3) := by decide +kernel
theorem dX9_byBounds_16 : decode cX9_byBounds 16 = .ok (.iload_n 2, 1) := by decide +kernel
theorem dX9_byBounds_17 : decode cX9_byBounds 17 = .ok (.iaload, 1) := by decide +kernel
theorem dX9_byBounds_18 : decode cX9_byBounds 18 = .ok (.i2l, 1) := by decide +kernel
theorem dX9_byBounds_19 : decode cX9_byBounds 19 = .ok (.lload 6, 2) := by decide +kernel
theorem dX9_byBounds_21 : decode cX9_byBounds 21 = .ok (.lsub, 1) := by decide +kernel
theorem dX9_byBounds_22 : decode cX9_byBounds 22 = .ok (.lstore 10, 2) := by decide +kernel
theorem dX9_byBounds_24 : decode cX9_byBounds 24 = .ok (.aload_n 0, 1) := by decide +kernel
theorem dX9_byBounds_25 : decode cX9_byBounds 25 = .ok (.getfield 57, 3) := by decide +kernel
theorem dX9_byBounds_28 : decode cX9_byBounds 28 = .ok (.iload_n 1, 1) := by decide +kernel
theorem dX9_byBounds_29 : decode cX9_byBounds 29 = .ok (.iaload, 1) := by decide +kernel
theorem dX9_byBounds_30 : decode cX9_byBounds 30 = .ok (.aload_n 0, 1) := by decide +kernel
theorem dX9_byBounds_31 : decode cX9_byBounds 31 = .ok (.getfield 37, 3) := by decide +kernel
theorem dX9_byBounds_34 : decode cX9_byBounds 34 = .ok (.iload_n 2, 1) := by decide +kernel
theorem dX9_byBounds_35 : decode cX9_byBounds 35 = .ok (.iaload, 1) := by decide +kernel
theorem dX9_byBounds_36 : decode cX9_byBounds 36 = .ok (.ior, 1) := by decide +kernel
theorem dX9_byBounds_37 : decode cX9_byBounds 37 = .ok (.istore 12, 2) := by decide +kernel
theorem dX9_byBounds_39 : decode cX9_byBounds 39 = .ok (.aload_n 0, 1) := by decide +kernel
theorem dX9_byBounds_40 : decode cX9_byBounds 40 = .ok (.getfield 57, 3) := by decide +kernel
theorem dX9_byBounds_43 : decode cX9_byBounds 43 = .ok (.iload_n 1, 1) := by decide +kernel
theorem dX9_byBounds_44 : decode cX9_byBounds 44 = .ok (.iaload, 1) := by decide +kernel
theorem dX9_byBounds_45 : decode cX9_byBounds 45 = .ok (.aload_n 0, 1) := by decide +kernel
theorem dX9_byBounds_46 : decode cX9_byBounds 46 = .ok (.getfield 40, 3) := by decide +kernel
theorem dX9_byBounds_49 : decode cX9_byBounds 49 = .ok (.iload_n 2, 1) := by decide +kernel
theorem dX9_byBounds_50 : decode cX9_byBounds 50 = .ok (.iaload, 1) := by decide +kernel
theorem dX9_byBounds_51 : decode cX9_byBounds 51 = .ok (.ior, 1) := by decide +kernel
theorem dX9_byBounds_52 : decode cX9_byBounds 52 = .ok (.istore 13, 2) := by decide +kernel
theorem dX9_byBounds_54 : decode cX9_byBounds 54 = .ok (.lload 4, 2) := by decide +kernel
theorem dX9_byBounds_56 : decode cX9_byBounds 56 = .ok (.lconst 0, 1) := by decide +kernel
theorem dX9_byBounds_57 : decode cX9_byBounds 57 = .ok (.lcmp, 1) := by decide +kernel
theorem dX9_byBounds_58 : decode cX9_byBounds 58 = .ok (.ifCond .le 40, 3) := by decide +kernel
theorem dX9_byBounds_61 : decode cX9_byBounds 61 = .ok (.aload_n 0, 1) := by decide +kernel
theorem dX9_byBounds_62 : decode cX9_byBounds 62 = .ok (.bipush 9, 2) := by decide +kernel
theorem dX9_byBounds_64 : decode cX9_byBounds 64 = .ok (.iload_n 1, 1) := by decide +kernel
theorem dX9_byBounds_65 : decode cX9_byBounds 65 = .ok (.iload_n 3, 1) := by decide +kernel
theorem dX9_byBounds_66 : decode cX9_byBounds 66 = .ok (.lload 8, 2) := by decide +kernel
theorem dX9_byBounds_68 : decode cX9_byBounds 68 = .ok (.lload 4, 2) := by decide +kernel
theorem dX9_byBounds_70 : decode cX9_byBounds 70 = .ok (.invokestatic 200, 3) := by decide +kernel
theorem dX9_byBounds_73 : decode cX9_byBounds 73 = .ok (.iload 12, 2) := by decide +kernel
theorem dX9_byBounds_75 : decode cX9_byBounds 75 = .ok (.invokevirtual 203, 3) := by decide +kernel
theorem dX9_byBounds_78 : decode cX9_byBounds 78 = .ok (.aload_n 0, 1) := by decide +kernel
theorem dX9_byBounds_79 : decode cX9_byBounds 79 = .ok (.bipush 9, 2) := by decide +kernel
theorem dX9_byBounds_81 : decode cX9_byBounds 81 = .ok (.iload_n 1, 1) := by decide +kernel
theorem dX9_byBounds_82 : decode cX9_byBounds 82 = .ok (.iload_n 3, 1) := by decide +kernel
theorem dX9_byBounds_83 : decode cX9_byBounds 83 = .ok (.lload 10, 2) := by decide +kernel
theorem dX9_byBounds_85 : decode cX9_byBounds 85 = .ok (.lload 4, 2) := by decide +kernel
theorem dX9_byBounds_87 : decode cX9_byBounds 87 = .ok (.invokestatic 112, 3) := by decide +kernel
theorem dX9_byBounds_90 : decode cX9_byBounds 90 = .ok (.iload 13, 2) := by decide +kernel
theorem dX9_byBounds_92 : decode cX9_byBounds 92 = .ok (.invokevirtual 207, 3) := by decide +kernel
theorem dX9_byBounds_95 : decode cX9_byBounds 95 = .ok (.goto 37, 3) := by decide +kernel
theorem dX9_byBounds_98 : decode cX9_byBounds 98 = .ok (.aload_n 0, 1) := by decide +kernel
theorem dX9_byBounds_99 : decode cX9_byBounds 99 = .ok (.bipush 9, 2) := by decide +kernel
theorem dX9_byBounds_101 : decode cX9_byBounds 101 = .ok (.iload_n 1, 1) := by decide +kernel
theorem dX9_byBounds_102 : decode cX9_byBounds 102 = .ok (.iload_n 3, 1) := by decide +kernel
theorem dX9_byBounds_103 : decode cX9_byBounds 103 = .ok (.lload 8, 2) := by decide +kernel
theorem dX9_byBounds_105 : decode cX9_byBounds 105 = .ok (.lload 4, 2) := by decide +kernel
theorem dX9_byBounds_107 : decode cX9_byBounds 107 = .ok (.invokestatic 112, 3) := by decide +kernel
theorem dX9_byBounds_110 : decode cX9_byBounds 110 = .ok (.iload 12, 2) := by decide +kernel
theorem dX9_byBounds_112 : decode cX9_byBounds 112 = .ok (.invokevirtual 207, 3) := by decide +kernel
theorem dX9_byBounds_115 : decode cX9_byBounds 115 = .ok (.aload_n 0, 1) := by decide +kernel
theorem dX9_byBounds_116 : decode cX9_byBounds 116 = .ok (.bipush 9, 2) := by decide +kernel
theorem dX9_byBounds_118 : decode cX9_byBounds 118 = .ok (.iload_n 1, 1) := by decide +kernel
theorem dX9_byBounds_119 : decode cX9_byBounds 119 = .ok (.iload_n 3, 1) := by decide +kernel
theorem dX9_byBounds_120 : decode cX9_byBounds 120 = .ok (.lload 10, 2) := by decide +kernel
theorem dX9_byBounds_122 : decode cX9_byBounds 122 = .ok (.lload 4, 2) := by decide +kernel
theorem dX9_byBounds_124 : decode cX9_byBounds 124 = .ok (.invokestatic 200, 3) := by decide +kernel
theorem dX9_byBounds_127 : decode cX9_byBounds 127 = .ok (.iload 13, 2) := by decide +kernel
theorem dX9_byBounds_129 : decode cX9_byBounds 129 = .ok (.invokevirtual 203, 3) := by decide +kernel
theorem dX9_byBounds_132 : decode cX9_byBounds 132 = .ok (.return_, 1) := by decide +kernel
theorem dX9_goes_0 : decode cX9_goes 0 = .ok (.aload_n 0, 1) := by decide +kernel
theorem dX9_goes_1 : decode cX9_goes 1 = .ok (.dup, 1) := by decide +kernel
theorem dX9_goes_2 : decode cX9_goes 2 = .ok (.getfield 222, 3) := by decide +kernel
theorem dX9_goes_5 : decode cX9_goes 5 = .ok (.lload 4, 2) := by decide +kernel
theorem dX9_goes_7 : decode cX9_goes 7 = .ok (.aload_n 0, 1) := by decide +kernel
theorem dX9_goes_8 : decode cX9_goes 8 = .ok (.getfield 43, 3) := by decide +kernel
theorem dX9_goes_11 : decode cX9_goes 11 = .ok (.iload_n 3, 1) := by decide +kernel
theorem dX9_goes_12 : decode cX9_goes 12 = .ok (.laload, 1) := by decide +kernel
theorem dX9_goes_13 : decode cX9_goes 13 = .ok (.lmul, 1) := by decide +kernel
theorem dX9_goes_14 : decode cX9_goes 14 = .ok (.ladd, 1) := by decide +kernel
theorem dX9_goes_15 : decode cX9_goes 15 = .ok (.putfield 222, 3) := by decide +kernel
theorem dX9_goes_18 : decode cX9_goes 18 = .ok (.aload_n 0, 1) := by decide +kernel
theorem dX9_goes_19 : decode cX9_goes 19 = .ok (.getfield 81, 3) := by decide +kernel
theorem dX9_goes_22 : decode cX9_goes 22 = .ok (.iload_n 3, 1) := by decide +kernel
theorem dX9_goes_23 : decode cX9_goes 23 = .ok (.lload 4, 2) := by decide +kernel
theorem dX9_goes_25 : decode cX9_goes 25 = .ok (.lastore, 1) := by decide +kernel
theorem dX9_goes_26 : decode cX9_goes 26 = .ok (.aload_n 0, 1) := by decide +kernel
theorem dX9_goes_27 : decode cX9_goes 27 = .ok (.getfield 78, 3) := by decide +kernel
theorem dX9_goes_30 : decode cX9_goes 30 = .ok (.aload_n 0, 1) := by decide +kernel
theorem dX9_goes_31 : decode cX9_goes 31 = .ok (.getfield 249, 3) := by decide +kernel
theorem dX9_goes_34 : decode cX9_goes 34 = .ok (.iload_n 3, 1) := by decide +kernel
theorem dX9_goes_35 : decode cX9_goes 35 = .ok (.iastore, 1) := by decide +kernel
theorem dX9_goes_36 : decode cX9_goes 36 = .ok (.aload_n 0, 1) := by decide +kernel
theorem dX9_goes_37 : decode cX9_goes 37 = .ok (.dup, 1) := by decide +kernel
theorem dX9_goes_38 : decode cX9_goes 38 = .ok (.getfield 249, 3) := by decide +kernel
theorem dX9_goes_41 : decode cX9_goes 41 = .ok (.iconst 1, 1) := by decide +kernel
theorem dX9_goes_42 : decode cX9_goes 42 = .ok (.iadd, 1) := by decide +kernel
theorem dX9_goes_43 : decode cX9_goes 43 = .ok (.putfield 249, 3) := by decide +kernel
theorem dX9_goes_46 : decode cX9_goes 46 = .ok (.aload_n 0, 1) := by decide +kernel
theorem dX9_goes_47 : decode cX9_goes 47 = .ok (.getfield 28, 3) := by decide +kernel
theorem dX9_goes_50 : decode cX9_goes 50 = .ok (.iload_n 3, 1) := by decide +kernel
theorem dX9_goes_51 : decode cX9_goes 51 = .ok (.iconst 2, 1) := by decide +kernel
theorem dX9_goes_52 : decode cX9_goes 52 = .ok (.iastore, 1) := by decide +kernel
theorem dX9_goes_53 : decode cX9_goes 53 = .ok (.aload_n 0, 1) := by decide +kernel
theorem dX9_goes_54 : decode cX9_goes 54 = .ok (.getfield 50, 3) := by decide +kernel
theorem dX9_goes_57 : decode cX9_goes 57 = .ok (.iload_n 2, 1) := by decide +kernel
theorem dX9_goes_58 : decode cX9_goes 58 = .ok (.iconst 1, 1) := by decide +kernel
theorem dX9_goes_59 : decode cX9_goes 59 = .ok (.bastore, 1) := by decide +kernel
theorem dX9_goes_60 : decode cX9_goes 60 = .ok (.aload_n 0, 1) := by decide +kernel
theorem dX9_goes_61 : decode cX9_goes 61 = .ok (.iload_n 1, 1) := by decide +kernel
theorem dX9_goes_62 : decode cX9_goes 62 = .ok (.iload_n 2, 1) := by decide +kernel
theorem dX9_goes_63 : decode cX9_goes 63 = .ok (.iload_n 3, 1) := by decide +kernel
theorem dX9_goes_64 : decode cX9_goes 64 = .ok (.iconst 5, 1) := by decide +kernel
theorem dX9_goes_65 : decode cX9_goes 65 = .ok (.lload 4, 2) := by decide +kernel
theorem dX9_goes_67 : decode cX9_goes 67 = .ok (.invokevirtual 183, 3) := by decide +kernel
theorem dX9_goes_70 : decode cX9_goes 70 = .ok (.return_, 1) := by decide +kernel
theorem dX9_puts_0 : decode cX9_puts 0 = .ok (.aload_n 0, 1) := by decide +kernel
theorem dX9_puts_1 : decode cX9_puts 1 = .ok (.getfield 47, 3) := by decide +kernel
theorem dX9_puts_4 : decode cX9_puts 4 = .ok (.iload_n 1, 1) := by decide +kernel
theorem dX9_puts_5 : decode cX9_puts 5 = .ok (.iaload, 1) := by decide +kernel
theorem dX9_puts_6 : decode cX9_puts 6 = .ok (.iconst 1, 1) := by decide +kernel
theorem dX9_puts_7 : decode cX9_puts 7 = .ok (.if_icmp .ne 12, 3) := by decide +kernel
theorem dX9_puts_10 : decode cX9_puts 10 = .ok (.aload_n 0, 1) := by decide +kernel
theorem dX9_puts_11 : decode cX9_puts 11 = .ok (.iload_n 1, 1) := by decide +kernel
theorem dX9_puts_12 : decode cX9_puts 12 = .ok (.invokevirtual 187, 3) := by decide +kernel
theorem dX9_puts_15 : decode cX9_puts 15 = .ok (.iconst 2, 1) := by decide +kernel
theorem dX9_puts_16 : decode cX9_puts 16 = .ok (.if_icmp .eq 4, 3) := by decide +kernel
theorem dX9_puts_19 : decode cX9_puts 19 = .ok (.return_, 1) := by decide +kernel
theorem dX9_puts_20 : decode cX9_puts 20 = .ok (.iconst (-1), 1) := by decide +kernel
theorem dX9_puts_21 : decode cX9_puts 21 = .ok (.istore_n 2, 1) := by decide +kernel
theorem dX9_puts_22 : decode cX9_puts 22 = .ok (.iconst (-1), 1) := by decide +kernel
theorem dX9_puts_23 : decode cX9_puts 23 = .ok (.istore_n 3, 1) := by decide +kernel
theorem dX9_puts_24 : decode cX9_puts 24 = .ok (.iconst 0, 1) := by decide +kernel
theorem dX9_puts_25 : decode cX9_puts 25 = .ok (.istore 4, 2) := by decide +kernel
theorem dX9_puts_27 : decode cX9_puts 27 = .ok (.iload 4, 2) := by decide +kernel
theorem dX9_puts_29 : decode cX9_puts 29 = .ok (.aload_n 0, 1) := by decide +kernel
theorem dX9_puts_30 : decode cX9_puts 30 = .ok (.getfield 141, 3) := by decide +kernel
theorem dX9_puts_33 : decode cX9_puts 33 = .ok (.if_icmp .ge 24, 3) := by decide +kernel
theorem dX9_puts_36 : decode cX9_puts 36 = .ok (.aload_n 0, 1) := by decide +kernel
theorem dX9_puts_37 : decode cX9_puts 37 = .ok (.iload_n 1, 1) := by decide +kernel
theorem dX9_puts_38 : decode cX9_puts 38 = .ok (.iload 4, 2) := by decide +kernel
theorem dX9_puts_40 : decode cX9_puts 40 = .ok (.invokevirtual 165, 3) := by decide +kernel
theorem dX9_puts_43 : decode cX9_puts 43 = .ok (.ifCond .eq 8, 3) := by decide +kernel
theorem dX9_puts_46 : decode cX9_puts 46 = .ok (.iload_n 3, 1) := by decide +kernel
theorem dX9_puts_47 : decode cX9_puts 47 = .ok (.istore_n 2, 1) := by decide +kernel
theorem dX9_puts_48 : decode cX9_puts 48 = .ok (.iload 4, 2) := by decide +kernel
theorem dX9_puts_50 : decode cX9_puts 50 = .ok (.istore_n 3, 1) := by decide +kernel
theorem dX9_puts_51 : decode cX9_puts 51 = .ok (.iinc 4 1, 3) := by decide +kernel
theorem dX9_puts_54 : decode cX9_puts 54 = .ok (.goto (-27), 3) := by decide +kernel
theorem dX9_puts_57 : decode cX9_puts 57 = .ok (.aload_n 0, 1) := by decide +kernel
theorem dX9_puts_58 : decode cX9_puts 58 = .ok (.getfield 60, 3) := by decide +kernel
theorem dX9_puts_61 : decode cX9_puts 61 = .ok (.bipush 12, 2) := by decide +kernel
theorem dX9_puts_63 : decode cX9_puts 63 = .ok (.iload_n 1, 1) := by decide +kernel
theorem dX9_puts_64 : decode cX9_puts 64 = .ok (.imul, 1) := by decide +kernel
theorem dX9_puts_65 : decode cX9_puts 65 = .ok (.iload_n 3, 1) := by decide +kernel
theorem dX9_puts_66 : decode cX9_puts 66 = .ok (.iadd, 1) := by decide +kernel
theorem dX9_puts_67 : decode cX9_puts 67 = .ok (.laload, 1) := by decide +kernel
theorem dX9_puts_68 : decode cX9_puts 68 = .ok (.invokestatic 233, 3) := by decide +kernel
theorem dX9_puts_71 : decode cX9_puts 71 = .ok (.ifCond .eq 7, 3) := by decide +kernel
theorem dX9_puts_74 : decode cX9_puts 74 = .ok (.iload_n 3, 1) := by decide +kernel
theorem dX9_puts_75 : decode cX9_puts 75 = .ok (.goto 4, 3) := by decide +kernel
theorem dX9_puts_78 : decode cX9_puts 78 = .ok (.iload_n 2, 1) := by decide +kernel
theorem dX9_puts_79 : decode cX9_puts 79 = .ok (.istore 4, 2) := by decide +kernel
theorem dX9_puts_81 : decode cX9_puts 81 = .ok (.iload_n 2, 1) := by decide +kernel
theorem dX9_puts_82 : decode cX9_puts 82 = .ok (.iload_n 3, 1) := by decide +kernel
theorem dX9_puts_83 : decode cX9_puts 83 = .ok (.iadd, 1) := by decide +kernel
theorem dX9_puts_84 : decode cX9_puts 84 = .ok (.iload 4, 2) := by decide +kernel
theorem dX9_puts_86 : decode cX9_puts 86 = .ok (.isub, 1) := by decide +kernel
theorem dX9_puts_87 : decode cX9_puts 87 = .ok (.istore 5, 2) := by decide +kernel
theorem dX9_puts_89 : decode cX9_puts 89 = .ok (.aload_n 0, 1) := by decide +kernel
theorem dX9_puts_90 : decode cX9_puts 90 = .ok (.getfield 60, 3) := by decide +kernel
theorem dX9_puts_93 : decode cX9_puts 93 = .ok (.bipush 12, 2) := by decide +kernel
theorem dX9_puts_95 : decode cX9_puts 95 = .ok (.iload_n 1, 1) := by decide +kernel
theorem dX9_puts_96 : decode cX9_puts 96 = .ok (.imul, 1) := by decide +kernel
theorem dX9_puts_97 : decode cX9_puts 97 = .ok (.iload 4, 2) := by decide +kernel
theorem dX9_puts_99 : decode cX9_puts 99 = .ok (.iadd, 1) := by decide +kernel
theorem dX9_puts_100 : decode cX9_puts 100 = .ok (.laload, 1) := by decide +kernel
theorem dX9_puts_101 : decode cX9_puts 101 = .ok (.lstore 6, 2) := by decide +kernel
theorem dX9_puts_103 : decode cX9_puts 103 = .ok (.lload 6, 2) := by decide +kernel
theorem dX9_puts_105 : decode cX9_puts 105 = .ok (.invokestatic 233, 3) := by decide +kernel
theorem dX9_puts_108 : decode cX9_puts 108 = .ok (.ifCond .ne 4, 3) := by decide +kernel
theorem dX9_puts_111 : decode cX9_puts 111 = .ok (.return_, 1) := by decide +kernel
theorem dX9_puts_112 : decode cX9_puts 112 = .ok (.lload 6, 2) := by decide +kernel
theorem dX9_puts_114 : decode cX9_puts 114 = .ok (.lneg, 1) := by decide +kernel
theorem dX9_puts_115 : decode cX9_puts 115 = .ok (.aload_n 0, 1) := by decide +kernel
theorem dX9_puts_116 : decode cX9_puts 116 = .ok (.getfield 60, 3) := by decide +kernel
theorem dX9_puts_119 : decode cX9_puts 119 = .ok (.bipush 12, 2) := by decide +kernel
theorem dX9_puts_121 : decode cX9_puts 121 = .ok (.iload_n 1, 1) := by decide +kernel
theorem dX9_puts_122 : decode cX9_puts 122 = .ok (.imul, 1) := by decide +kernel
theorem dX9_puts_123 : decode cX9_puts 123 = .ok (.iload 5, 2) := by decide +kernel
theorem dX9_puts_125 : decode cX9_puts 125 = .ok (.iadd, 1) := by decide +kernel
theorem dX9_puts_126 : decode cX9_puts 126 = .ok (.laload, 1) := by decide +kernel
theorem dX9_puts_127 : decode cX9_puts 127 = .ok (.lmul, 1) := by decide +kernel
theorem dX9_puts_128 : decode cX9_puts 128 = .ok (.lstore 8, 2) := by decide +kernel
theorem dX9_puts_130 : decode cX9_puts 130 = .ok (.lload 6, 2) := by decide +kernel
theorem dX9_puts_132 : decode cX9_puts 132 = .ok (.aload_n 0, 1) := by decide +kernel
theorem dX9_puts_133 : decode cX9_puts 133 = .ok (.getfield 54, 3) := by decide +kernel
theorem dX9_puts_136 : decode cX9_puts 136 = .ok (.iload_n 1, 1) := by decide +kernel
theorem dX9_puts_137 : decode cX9_puts 137 = .ok (.laload, 1) := by decide +kernel
theorem dX9_puts_138 : decode cX9_puts 138 = .ok (.lmul, 1) := by decide +kernel
theorem dX9_puts_139 : decode cX9_puts 139 = .ok (.lstore 10, 2) := by decide +kernel
theorem dX9_puts_141 : decode cX9_puts 141 = .ok (.aload_n 0, 1) := by decide +kernel
theorem dX9_puts_142 : decode cX9_puts 142 = .ok (.iload_n 1, 1) := by decide +kernel
theorem dX9_puts_143 : decode cX9_puts 143 = .ok (.iload 4, 2) := by decide +kernel
theorem dX9_puts_145 : decode cX9_puts 145 = .ok (.iload 5, 2) := by decide +kernel
theorem dX9_puts_147 : decode cX9_puts 147 = .ok (.lload 8, 2) := by decide +kernel
theorem dX9_puts_149 : decode cX9_puts 149 = .ok (.lload 10, 2) := by decide +kernel
theorem dX9_puts_151 : decode cX9_puts 151 = .ok (.invokevirtual 237, 3) := by decide +kernel
theorem dX9_puts_154 : decode cX9_puts 154 = .ok (.ifCond .ne 4, 3) := by decide +kernel
theorem dX9_puts_157 : decode cX9_puts 157 = .ok (.return_, 1) := by decide +kernel
theorem dX9_puts_158 : decode cX9_puts 158 = .ok (.aload_n 0, 1) := by decide +kernel
theorem dX9_puts_159 : decode cX9_puts 159 = .ok (.iload_n 1, 1) := by decide +kernel
theorem dX9_puts_160 : decode cX9_puts 160 = .ok (.iload 4, 2) := by decide +kernel
theorem dX9_puts_162 : decode cX9_puts 162 = .ok (.iload 5, 2) := by decide +kernel
theorem dX9_puts_164 : decode cX9_puts 164 = .ok (.lload 8, 2) := by decide +kernel
theorem dX9_puts_166 : decode cX9_puts 166 = .ok (.lload 10, 2) := by decide +kernel
theorem dX9_puts_168 : decode cX9_puts 168 = .ok (.invokevirtual 241, 3) := by decide +kernel
theorem dX9_puts_171 : decode cX9_puts 171 = .ok (.aload_n 0, 1) := by decide +kernel
theorem dX9_puts_172 : decode cX9_puts 172 = .ok (.invokevirtual 175, 3) := by decide +kernel
theorem dX9_puts_175 : decode cX9_puts 175 = .ok (.ifCond .ne 4, 3) := by decide +kernel
theorem dX9_puts_178 : decode cX9_puts 178 = .ok (.return_, 1) := by decide +kernel
theorem dX9_puts_179 : decode cX9_puts 179 = .ok (.iconst 0, 1) := by decide +kernel
theorem dX9_puts_180 : decode cX9_puts 180 = .ok (.istore 12, 2) := by decide +kernel
theorem dX9_puts_182 : decode cX9_puts 182 = .ok (.iload 12, 2) := by decide +kernel
theorem dX9_puts_184 : decode cX9_puts 184 = .ok (.aload_n 0, 1) := by decide +kernel
theorem dX9_puts_185 : decode cX9_puts 185 = .ok (.getfield 151, 3) := by decide +kernel
theorem dX9_puts_188 : decode cX9_puts 188 = .ok (.if_icmp .ge 103, 3) := by decide +kernel
theorem dX9_puts_191 : decode cX9_puts 191 = .ok (.iload 12, 2) := by decide +kernel
theorem dX9_puts_193 : decode cX9_puts 193 = .ok (.iload_n 1, 1) := by decide +kernel
theorem dX9_puts_194 : decode cX9_puts 194 = .ok (.if_icmp .eq 91, 3) := by decide +kernel
theorem dX9_puts_197 : decode cX9_puts 197 = .ok (.aload_n 0, 1) := by decide +kernel
theorem dX9_puts_198 : decode cX9_puts 198 = .ok (.getfield 50, 3) := by decide +kernel
theorem dX9_puts_201 : decode cX9_puts 201 = .ok (.iload 12, 2) := by decide +kernel
theorem dX9_puts_203 : decode cX9_puts 203 = .ok (.baload, 1) := by decide +kernel
theorem dX9_puts_204 : decode cX9_puts 204 = .ok (.ifCond .ne 81, 3) := by decide +kernel
theorem dX9_puts_207 : decode cX9_puts 207 = .ok (.aload_n 0, 1) := by decide +kernel
theorem dX9_puts_208 : decode cX9_puts 208 = .ok (.iload 12, 2) := by decide +kernel
theorem dX9_puts_210 : decode cX9_puts 210 = .ok (.iload 4, 2) := by decide +kernel
theorem dX9_puts_212 : decode cX9_puts 212 = .ok (.invokevirtual 165, 3) := by decide +kernel
theorem dX9_puts_215 : decode cX9_puts 215 = .ok (.ifCond .eq 70, 3) := by decide +kernel
theorem dX9_puts_218 : decode cX9_puts 218 = .ok (.aload_n 0, 1) := by decide +kernel
theorem dX9_puts_219 : decode cX9_puts 219 = .ok (.getfield 60, 3) := by decide +kernel
theorem dX9_puts_222 : decode cX9_puts 222 = .ok (.bipush 12, 2) := by decide +kernel
theorem dX9_puts_224 : decode cX9_puts 224 = .ok (.iload 12, 2) := by decide +kernel
theorem dX9_puts_226 : decode cX9_puts 226 = .ok (.imul, 1) := by decide +kernel
theorem dX9_puts_227 : decode cX9_puts 227 = .ok (.iload 4, 2) := by decide +kernel
theorem dX9_puts_229 : decode cX9_puts 229 = .ok (.iadd, 1) := by decide +kernel
theorem dX9_puts_230 : decode cX9_puts 230 = .ok (.laload, 1) := by decide +kernel
theorem dX9_puts_231 : decode cX9_puts 231 = .ok (.lstore 13, 2) := by decide +kernel
theorem dX9_puts_233 : decode cX9_puts 233 = .ok (.aload_n 0, 1) := by decide +kernel
theorem dX9_puts_234 : decode cX9_puts 234 = .ok (.getfield 60, 3) := by decide +kernel
theorem dX9_puts_237 : decode cX9_puts 237 = .ok (.bipush 12, 2) := by decide +kernel
theorem dX9_puts_239 : decode cX9_puts 239 = .ok (.iload 12, 2) := by decide +kernel
theorem dX9_puts_241 : decode cX9_puts 241 = .ok (.imul, 1) := by decide +kernel
theorem dX9_puts_242 : decode cX9_puts 242 = .ok (.iload 5, 2) := by decide +kernel
theorem dX9_puts_244 : decode cX9_puts 244 = .ok (.iadd, 1) := by decide +kernel
theorem dX9_puts_245 : decode cX9_puts 245 = .ok (.dup2, 1) := by decide +kernel
theorem dX9_puts_246 : decode cX9_puts 246 = .ok (.laload, 1) := by decide +kernel
theorem dX9_puts_247 : decode cX9_puts 247 = .ok (.lload 13, 2) := by decide +kernel
theorem dX9_puts_249 : decode cX9_puts 249 = .ok (.lload 8, 2) := by decide +kernel
theorem dX9_puts_251 : decode cX9_puts 251 = .ok (.lmul, 1) := by decide +kernel
theorem dX9_puts_252 : decode cX9_puts 252 = .ok (.ladd, 1) := by decide +kernel
theorem dX9_puts_253 : decode cX9_puts 253 = .ok (.lastore, 1) := by decide +kernel
theorem dX9_puts_254 : decode cX9_puts 254 = .ok (.aload_n 0, 1) := by decide +kernel
theorem dX9_puts_255 : decode cX9_puts 255 = .ok (.getfield 54, 3) := by decide +kernel
theorem dX9_puts_258 : decode cX9_puts 258 = .ok (.iload 12, 2) := by decide +kernel
theorem dX9_puts_260 : decode cX9_puts 260 = .ok (.dup2, 1) := by decide +kernel
theorem dX9_puts_261 : decode cX9_puts 261 = .ok (.laload, 1) := by decide +kernel
theorem dX9_puts_262 : decode cX9_puts 262 = .ok (.lload 13, 2) := by decide +kernel
theorem dX9_puts_264 : decode cX9_puts 264 = .ok (.lload 10, 2) := by decide +kernel
theorem dX9_puts_266 : decode cX9_puts 266 = .ok (.lmul, 1) := by decide +kernel
theorem dX9_puts_267 : decode cX9_puts 267 = .ok (.lsub, 1) := by decide +kernel
theorem dX9_puts_268 : decode cX9_puts 268 = .ok (.lastore, 1) := by decide +kernel
theorem dX9_puts_269 : decode cX9_puts 269 = .ok (.aload_n 0, 1) := by decide +kernel
theorem dX9_puts_270 : decode cX9_puts 270 = .ok (.getfield 57, 3) := by decide +kernel
theorem dX9_puts_273 : decode cX9_puts 273 = .ok (.iload 12, 2) := by decide +kernel
theorem dX9_puts_275 : decode cX9_puts 275 = .ok (.dup2, 1) := by decide +kernel
theorem dX9_puts_276 : decode cX9_puts 276 = .ok (.iaload, 1) := by decide +kernel
theorem dX9_puts_277 : decode cX9_puts 277 = .ok (.aload_n 0, 1) := by decide +kernel
theorem dX9_puts_278 : decode cX9_puts 278 = .ok (.getfield 57, 3) := by decide +kernel
theorem dX9_puts_281 : decode cX9_puts 281 = .ok (.iload_n 1, 1) := by decide +kernel
theorem dX9_puts_282 : decode cX9_puts 282 = .ok (.iaload, 1) := by decide +kernel
theorem dX9_puts_283 : decode cX9_puts 283 = .ok (.ior, 1) := by decide +kernel
theorem dX9_puts_284 : decode cX9_puts 284 = .ok (.iastore, 1) := by decide +kernel
theorem dX9_puts_285 : decode cX9_puts 285 = .ok (.iinc 12 1, 3) := by decide +kernel
theorem dX9_puts_288 : decode cX9_puts 288 = .ok (.goto (-106), 3) := by decide +kernel
theorem dX9_puts_291 : decode cX9_puts 291 = .ok (.aload_n 0, 1) := by decide +kernel
theorem dX9_puts_292 : decode cX9_puts 292 = .ok (.getfield 43, 3) := by decide +kernel
theorem dX9_puts_295 : decode cX9_puts 295 = .ok (.iload 5, 2) := by decide +kernel
theorem dX9_puts_297 : decode cX9_puts 297 = .ok (.dup2, 1) := by decide +kernel
theorem dX9_puts_298 : decode cX9_puts 298 = .ok (.laload, 1) := by decide +kernel
theorem dX9_puts_299 : decode cX9_puts 299 = .ok (.lload 8, 2) := by decide +kernel
theorem dX9_puts_301 : decode cX9_puts 301 = .ok (.aload_n 0, 1) := by decide +kernel
theorem dX9_puts_302 : decode cX9_puts 302 = .ok (.getfield 43, 3) := by decide +kernel
theorem dX9_puts_305 : decode cX9_puts 305 = .ok (.iload 4, 2) := by decide +kernel
theorem dX9_puts_307 : decode cX9_puts 307 = .ok (.laload, 1) := by decide +kernel
theorem dX9_puts_308 : decode cX9_puts 308 = .ok (.lmul, 1) := by decide +kernel
theorem dX9_puts_309 : decode cX9_puts 309 = .ok (.ladd, 1) := by decide +kernel
theorem dX9_puts_310 : decode cX9_puts 310 = .ok (.lastore, 1) := by decide +kernel
theorem dX9_puts_311 : decode cX9_puts 311 = .ok (.iconst 0, 1) := by decide +kernel
theorem dX9_puts_312 : decode cX9_puts 312 = .ok (.istore 12, 2) := by decide +kernel
theorem dX9_puts_314 : decode cX9_puts 314 = .ok (.iload 12, 2) := by decide +kernel
theorem dX9_puts_316 : decode cX9_puts 316 = .ok (.aload_n 0, 1) := by decide +kernel
theorem dX9_puts_317 : decode cX9_puts 317 = .ok (.getfield 141, 3) := by decide +kernel
theorem dX9_puts_320 : decode cX9_puts 320 = .ok (.if_icmp .ge 35, 3) := by decide +kernel
theorem dX9_puts_323 : decode cX9_puts 323 = .ok (.aload_n 0, 1) := by decide +kernel
theorem dX9_puts_324 : decode cX9_puts 324 = .ok (.getfield 84, 3) := by decide +kernel
theorem dX9_puts_327 : decode cX9_puts 327 = .ok (.bipush 12, 2) := by decide +kernel
theorem dX9_puts_329 : decode cX9_puts 329 = .ok (.iload 4, 2) := by decide +kernel
theorem dX9_puts_331 : decode cX9_puts 331 = .ok (.imul, 1) := by decide +kernel
theorem dX9_puts_332 : decode cX9_puts 332 = .ok (.iload 12, 2) := by decide +kernel
theorem dX9_puts_334 : decode cX9_puts 334 = .ok (.iadd, 1) := by decide +kernel
theorem dX9_puts_335 : decode cX9_puts 335 = .ok (.iload 12, 2) := by decide +kernel
theorem dX9_puts_337 : decode cX9_puts 337 = .ok (.iload 5, 2) := by decide +kernel
theorem dX9_puts_339 : decode cX9_puts 339 = .ok (.if_icmp .ne 8, 3) := by decide +kernel
theorem dX9_puts_342 : decode cX9_puts 342 = .ok (.lload 8, 2) := by decide +kernel
theorem dX9_puts_344 : decode cX9_puts 344 = .ok (.goto 4, 3) := by decide +kernel
theorem dX9_puts_347 : decode cX9_puts 347 = .ok (.lconst 0, 1) := by decide +kernel
theorem dX9_puts_348 : decode cX9_puts 348 = .ok (.lastore, 1) := by decide +kernel
theorem dX9_puts_349 : decode cX9_puts 349 = .ok (.iinc 12 1, 3) := by decide +kernel
theorem dX9_puts_352 : decode cX9_puts 352 = .ok (.goto (-38), 3) := by decide +kernel
theorem dX9_puts_355 : decode cX9_puts 355 = .ok (.aload_n 0, 1) := by decide +kernel
theorem dX9_puts_356 : decode cX9_puts 356 = .ok (.bipush 9, 2) := by decide +kernel
theorem dX9_puts_358 : decode cX9_puts 358 = .ok (.iload_n 1, 1) := by decide +kernel
theorem dX9_puts_359 : decode cX9_puts 359 = .ok (.iload 4, 2) := by decide +kernel
theorem dX9_puts_361 : decode cX9_puts 361 = .ok (.lload 10, 2) := by decide +kernel
theorem dX9_puts_363 : decode cX9_puts 363 = .ok (.invokevirtual 245, 3) := by decide +kernel
theorem dX9_puts_366 : decode cX9_puts 366 = .ok (.return_, 1) := by decide +kernel
theorem dX9_less_0 : decode cX9_less 0 = .ok (.iconst 0, 1) := by decide +kernel
theorem dX9_less_1 : decode cX9_less 1 = .ok (.istore_n 2, 1) := by decide +kernel
theorem dX9_less_2 : decode cX9_less 2 = .ok (.iload_n 2, 1) := by decide +kernel
theorem dX9_less_3 : decode cX9_less 3 = .ok (.aload_n 0, 1) := by decide +kernel
theorem dX9_less_4 : decode cX9_less 4 = .ok (.getfield 141, 3) := by decide +kernel
theorem dX9_less_7 : decode cX9_less 7 = .ok (.if_icmp .ge 261, 3) := by decide +kernel
theorem dX9_less_10 : decode cX9_less 10 = .ok (.aload_n 0, 1) := by decide +kernel
theorem dX9_less_11 : decode cX9_less 11 = .ok (.getfield 47, 3) := by decide +kernel
theorem dX9_less_14 : decode cX9_less 14 = .ok (.iload_n 1, 1) := by decide +kernel
theorem dX9_less_15 : decode cX9_less 15 = .ok (.iaload, 1) := by decide +kernel
theorem dX9_less_16 : decode cX9_less 16 = .ok (.ifCond .ne 252, 3) := by decide +kernel
theorem dX9_less_19 : decode cX9_less 19 = .ok (.aload_n 0, 1) := by decide +kernel
theorem dX9_less_20 : decode cX9_less 20 = .ok (.iload_n 1, 1) := by decide +kernel
theorem dX9_less_21 : decode cX9_less 21 = .ok (.iload_n 2, 1) := by decide +kernel
theorem dX9_less_22 : decode cX9_less 22 = .ok (.invokevirtual 165, 3) := by decide +kernel
theorem dX9_less_25 : decode cX9_less 25 = .ok (.ifCond .eq 237, 3) := by decide +kernel
theorem dX9_less_28 : decode cX9_less 28 = .ok (.aload_n 0, 1) := by decide +kernel
theorem dX9_less_29 : decode cX9_less 29 = .ok (.getfield 31, 3) := by decide +kernel
theorem dX9_less_32 : decode cX9_less 32 = .ok (.iload_n 2, 1) := by decide +kernel
theorem dX9_less_33 : decode cX9_less 33 = .ok (.iaload, 1) := by decide +kernel
theorem dX9_less_34 : decode cX9_less 34 = .ok (.ifCond .ne 228, 3) := by decide +kernel
theorem dX9_less_37 : decode cX9_less 37 = .ok (.aload_n 0, 1) := by decide +kernel
theorem dX9_less_38 : decode cX9_less 38 = .ok (.getfield 34, 3) := by decide +kernel
theorem dX9_less_41 : decode cX9_less 41 = .ok (.iload_n 2, 1) := by decide +kernel
theorem dX9_less_42 : decode cX9_less 42 = .ok (.iaload, 1) := by decide +kernel
theorem dX9_less_43 : decode cX9_less 43 = .ok (.iconst 1, 1) := by decide +kernel
theorem dX9_less_44 : decode cX9_less 44 = .ok (.if_icmp .ne 218, 3) := by decide +kernel
theorem dX9_less_47 : decode cX9_less 47 = .ok (.aload_n 0, 1) := by decide +kernel
theorem dX9_less_48 : decode cX9_less 48 = .ok (.getfield 60, 3) := by decide +kernel
theorem dX9_less_51 : decode cX9_less 51 = .ok (.bipush 12, 2) := by decide +kernel
theorem dX9_less_53 : decode cX9_less 53 = .ok (.iload_n 1, 1) := by decide +kernel
theorem dX9_less_54 : decode cX9_less 54 = .ok (.imul, 1) := by decide +kernel
theorem dX9_less_55 : decode cX9_less 55 = .ok (.iload_n 2, 1) := by decide +kernel
theorem dX9_less_56 : decode cX9_less 56 = .ok (.iadd, 1) := by decide +kernel
theorem dX9_less_57 : decode cX9_less 57 = .ok (.laload, 1) := by decide +kernel
theorem dX9_less_58 : decode cX9_less 58 = .ok (.lstore_n 3, 1) := by decide +kernel
theorem dX9_less_59 : decode cX9_less 59 = .ok (.aload_n 0, 1) := by decide +kernel
theorem dX9_less_60 : decode cX9_less 60 = .ok (.iload_n 1, 1) := by decide +kernel
theorem dX9_less_61 : decode cX9_less 61 = .ok (.iload_n 2, 1) := by decide +kernel
theorem dX9_less_62 : decode cX9_less 62 = .ok (.iconst 1, 1) := by decide +kernel
theorem dX9_less_63 : decode cX9_less 63 = .ok (.invokevirtual 210, 3) := by decide +kernel
theorem dX9_less_66 : decode cX9_less 66 = .ok (.lstore 5, 2) := by decide +kernel
theorem dX9_less_68 : decode cX9_less 68 = .ok (.lload_n 3, 1) := by decide +kernel
theorem dX9_less_69 : decode cX9_less 69 = .ok (.lconst 0, 1) := by decide +kernel
theorem dX9_less_70 : decode cX9_less 70 = .ok (.lcmp, 1) := by decide +kernel
theorem dX9_less_71 : decode cX9_less 71 = .ok (.ifCond .le 33, 3) := by decide +kernel
theorem dX9_less_74 : decode cX9_less 74 = .ok (.lload 5, 2) := by decide +kernel
theorem dX9_less_76 : decode cX9_less 76 = .ok (.aload_n 0, 1) := by decide +kernel
theorem dX9_less_77 : decode cX9_less 77 = .ok (.getfield 54, 3) := by decide +kernel
theorem dX9_less_80 : decode cX9_less 80 = .ok (.iload_n 1, 1) := by decide +kernel
theorem dX9_less_81 : decode cX9_less 81 = .ok (.laload, 1) := by decide +kernel
theorem dX9_less_82 : decode cX9_less 82 = .ok (.lcmp, 1) := by decide +kernel
theorem dX9_less_83 : decode cX9_less 83 = .ok (.ifCond .ge 21, 3) := by decide +kernel
theorem dX9_less_86 : decode cX9_less 86 = .ok (.lload 5, 2) := by decide +kernel
theorem dX9_less_88 : decode cX9_less 88 = .ok (.lload_n 3, 1) := by decide +kernel
theorem dX9_less_89 : decode cX9_less 89 = .ok (.ladd, 1) := by decide +kernel
theorem dX9_less_90 : decode cX9_less 90 = .ok (.aload_n 0, 1) := by decide +kernel
theorem dX9_less_91 : decode cX9_less 91 = .ok (.getfield 54, 3) := by decide +kernel
theorem dX9_less_94 : decode cX9_less 94 = .ok (.iload_n 1, 1) := by decide +kernel
theorem dX9_less_95 : decode cX9_less 95 = .ok (.laload, 1) := by decide +kernel
theorem dX9_less_96 : decode cX9_less 96 = .ok (.lcmp, 1) := by decide +kernel
theorem dX9_less_97 : decode cX9_less 97 = .ok (.ifCond .le 7, 3) := by decide +kernel
theorem dX9_less_100 : decode cX9_less 100 = .ok (.iconst 1, 1) := by decide +kernel
theorem dX9_less_101 : decode cX9_less 101 = .ok (.goto 4, 3) := by decide +kernel
theorem dX9_less_104 : decode cX9_less 104 = .ok (.iconst 0, 1) := by decide +kernel
theorem dX9_less_105 : decode cX9_less 105 = .ok (.istore 7, 2) := by decide +kernel
theorem dX9_less_107 : decode cX9_less 107 = .ok (.lload_n 3, 1) := by decide +kernel
theorem dX9_less_108 : decode cX9_less 108 = .ok (.lconst 0, 1) := by decide +kernel
theorem dX9_less_109 : decode cX9_less 109 = .ok (.lcmp, 1) := by decide +kernel
theorem dX9_less_110 : decode cX9_less 110 = .ok (.ifCond .ge 33, 3) := by decide +kernel
theorem dX9_less_113 : decode cX9_less 113 = .ok (.lload 5, 2) := by decide +kernel
theorem dX9_less_115 : decode cX9_less 115 = .ok (.lload_n 3, 1) := by decide +kernel
theorem dX9_less_116 : decode cX9_less 116 = .ok (.ladd, 1) := by decide +kernel
theorem dX9_less_117 : decode cX9_less 117 = .ok (.aload_n 0, 1) := by decide +kernel
theorem dX9_less_118 : decode cX9_less 118 = .ok (.getfield 54, 3) := by decide +kernel
theorem dX9_less_121 : decode cX9_less 121 = .ok (.iload_n 1, 1) := by decide +kernel
theorem dX9_less_122 : decode cX9_less 122 = .ok (.laload, 1) := by decide +kernel
theorem dX9_less_123 : decode cX9_less 123 = .ok (.lcmp, 1) := by decide +kernel
theorem dX9_less_124 : decode cX9_less 124 = .ok (.ifCond .ge 19, 3) := by decide +kernel
theorem dX9_less_127 : decode cX9_less 127 = .ok (.lload 5, 2) := by decide +kernel
theorem dX9_less_129 : decode cX9_less 129 = .ok (.aload_n 0, 1) := by decide +kernel
theorem dX9_less_130 : decode cX9_less 130 = .ok (.getfield 54, 3) := by decide +kernel
theorem dX9_less_133 : decode cX9_less 133 = .ok (.iload_n 1, 1) := by decide +kernel
theorem dX9_less_134 : decode cX9_less 134 = .ok (.laload, 1) := by decide +kernel
theorem dX9_less_135 : decode cX9_less 135 = .ok (.lcmp, 1) := by decide +kernel
theorem dX9_less_136 : decode cX9_less 136 = .ok (.ifCond .le 7, 3) := by decide +kernel
theorem dX9_less_139 : decode cX9_less 139 = .ok (.iconst 1, 1) := by decide +kernel
theorem dX9_less_140 : decode cX9_less 140 = .ok (.goto 4, 3) := by decide +kernel
theorem dX9_less_143 : decode cX9_less 143 = .ok (.iconst 0, 1) := by decide +kernel
theorem dX9_less_144 : decode cX9_less 144 = .ok (.istore 8, 2) := by decide +kernel
theorem dX9_less_146 : decode cX9_less 146 = .ok (.iload 7, 2) := by decide +kernel
theorem dX9_less_148 : decode cX9_less 148 = .ok (.ifCond .ne 8, 3) := by decide +kernel
theorem dX9_less_151 : decode cX9_less 151 = .ok (.iload 8, 2) := by decide +kernel
theorem dX9_less_153 : decode cX9_less 153 = .ok (.ifCond .eq 109, 3) := by decide +kernel
theorem dX9_less_156 : decode cX9_less 156 = .ok (.aload_n 0, 1) := by decide +kernel
theorem dX9_less_157 : decode cX9_less 157 = .ok (.getfield 57, 3) := by decide +kernel
theorem dX9_less_160 : decode cX9_less 160 = .ok (.iload_n 1, 1) := by decide +kernel
theorem dX9_less_161 : decode cX9_less 161 = .ok (.dup2, 1) := by decide +kernel
theorem dX9_less_162 : decode cX9_less 162 = .ok (.iaload, 1) := by decide +kernel
theorem dX9_less_163 : decode cX9_less 163 = .ok (.aload_n 0, 1) := by decide +kernel
theorem dX9_less_164 : decode cX9_less 164 = .ok (.iload_n 1, 1) := by decide +kernel
theorem dX9_less_165 : decode cX9_less 165 = .ok (.iload_n 2, 1) := by decide +kernel
theorem dX9_less_166 : decode cX9_less 166 = .ok (.iconst 1, 1) := by decide +kernel
theorem dX9_less_167 : decode cX9_less 167 = .ok (.invokevirtual 214, 3) := by decide +kernel
theorem dX9_less_170 : decode cX9_less 170 = .ok (.aload_n 0, 1) := by decide +kernel
theorem dX9_less_171 : decode cX9_less 171 = .ok (.getfield 37, 3) := by decide +kernel
theorem dX9_less_174 : decode cX9_less 174 = .ok (.iload_n 2, 1) := by decide +kernel
theorem dX9_less_175 : decode cX9_less 175 = .ok (.iaload, 1) := by decide +kernel
theorem dX9_less_176 : decode cX9_less 176 = .ok (.ior, 1) := by decide +kernel
theorem dX9_less_177 : decode cX9_less 177 = .ok (.aload_n 0, 1) := by decide +kernel
theorem dX9_less_178 : decode cX9_less 178 = .ok (.getfield 40, 3) := by decide +kernel
theorem dX9_less_181 : decode cX9_less 181 = .ok (.iload_n 2, 1) := by decide +kernel
theorem dX9_less_182 : decode cX9_less 182 = .ok (.iaload, 1) := by decide +kernel
theorem dX9_less_183 : decode cX9_less 183 = .ok (.ior, 1) := by decide +kernel
theorem dX9_less_184 : decode cX9_less 184 = .ok (.ior, 1) := by decide +kernel
theorem dX9_less_185 : decode cX9_less 185 = .ok (.iastore, 1) := by decide +kernel
theorem dX9_less_186 : decode cX9_less 186 = .ok (.aload_n 0, 1) := by decide +kernel
theorem dX9_less_187 : decode cX9_less 187 = .ok (.getfield 60, 3) := by decide +kernel
theorem dX9_less_190 : decode cX9_less 190 = .ok (.bipush 12, 2) := by decide +kernel
theorem dX9_less_192 : decode cX9_less 192 = .ok (.iload_n 1, 1) := by decide +kernel
theorem dX9_less_193 : decode cX9_less 193 = .ok (.imul, 1) := by decide +kernel
theorem dX9_less_194 : decode cX9_less 194 = .ok (.iload_n 2, 1) := by decide +kernel
theorem dX9_less_195 : decode cX9_less 195 = .ok (.iadd, 1) := by decide +kernel
theorem dX9_less_196 : decode cX9_less 196 = .ok (.iload 7, 2) := by decide +kernel
theorem dX9_less_198 : decode cX9_less 198 = .ok (.ifCond .eq 17, 3) := by decide +kernel
theorem dX9_less_201 : decode cX9_less 201 = .ok (.lload_n 3, 1) := by decide +kernel
theorem dX9_less_202 : decode cX9_less 202 = .ok (.aload_n 0, 1) := by decide +kernel
theorem dX9_less_203 : decode cX9_less 203 = .ok (.getfield 54, 3) := by decide +kernel
theorem dX9_less_206 : decode cX9_less 206 = .ok (.iload_n 1, 1) := by decide +kernel
theorem dX9_less_207 : decode cX9_less 207 = .ok (.laload, 1) := by decide +kernel
theorem dX9_less_208 : decode cX9_less 208 = .ok (.lload 5, 2) := by decide +kernel
theorem dX9_less_210 : decode cX9_less 210 = .ok (.lsub, 1) := by decide +kernel
theorem dX9_less_211 : decode cX9_less 211 = .ok (.lsub, 1) := by decide +kernel
theorem dX9_less_212 : decode cX9_less 212 = .ok (.goto 12, 3) := by decide +kernel
theorem dX9_less_215 : decode cX9_less 215 = .ok (.aload_n 0, 1) := by decide +kernel
theorem dX9_less_216 : decode cX9_less 216 = .ok (.getfield 54, 3) := by decide +kernel
theorem dX9_less_219 : decode cX9_less 219 = .ok (.iload_n 1, 1) := by decide +kernel
theorem dX9_less_220 : decode cX9_less 220 = .ok (.laload, 1) := by decide +kernel
theorem dX9_less_221 : decode cX9_less 221 = .ok (.lload 5, 2) := by decide +kernel
theorem dX9_less_223 : decode cX9_less 223 = .ok (.lsub, 1) := by decide +kernel
theorem dX9_less_224 : decode cX9_less 224 = .ok (.lastore, 1) := by decide +kernel
theorem dX9_less_225 : decode cX9_less 225 = .ok (.aload_n 0, 1) := by decide +kernel
theorem dX9_less_226 : decode cX9_less 226 = .ok (.getfield 54, 3) := by decide +kernel
theorem dX9_less_229 : decode cX9_less 229 = .ok (.iload_n 1, 1) := by decide +kernel
theorem dX9_less_230 : decode cX9_less 230 = .ok (.iload 7, 2) := by decide +kernel
theorem dX9_less_232 : decode cX9_less 232 = .ok (.ifCond .eq 8, 3) := by decide +kernel
theorem dX9_less_235 : decode cX9_less 235 = .ok (.lload 5, 2) := by decide +kernel
theorem dX9_less_237 : decode cX9_less 237 = .ok (.goto 9, 3) := by decide +kernel
theorem dX9_less_240 : decode cX9_less 240 = .ok (.aload_n 0, 1) := by decide +kernel
theorem dX9_less_241 : decode cX9_less 241 = .ok (.getfield 54, 3) := by decide +kernel
theorem dX9_less_244 : decode cX9_less 244 = .ok (.iload_n 1, 1) := by decide +kernel
theorem dX9_less_245 : decode cX9_less 245 = .ok (.laload, 1) := by decide +kernel
theorem dX9_less_246 : decode cX9_less 246 = .ok (.lastore, 1) := by decide +kernel
theorem dX9_less_247 : decode cX9_less 247 = .ok (.aload_n 0, 1) := by decide +kernel
theorem dX9_less_248 : decode cX9_less 248 = .ok (.bipush 10, 2) := by decide +kernel
theorem dX9_less_250 : decode cX9_less 250 = .ok (.iload_n 1, 1) := by decide +kernel
theorem dX9_less_251 : decode cX9_less 251 = .ok (.iconst (-1), 1) := by decide +kernel
theorem dX9_less_252 : decode cX9_less 252 = .ok (.iconst 3, 1) := by decide +kernel
theorem dX9_less_253 : decode cX9_less 253 = .ok (.aload_n 0, 1) := by decide +kernel
theorem dX9_less_254 : decode cX9_less 254 = .ok (.getfield 54, 3) := by decide +kernel
theorem dX9_less_257 : decode cX9_less 257 = .ok (.iload_n 1, 1) := by decide +kernel
theorem dX9_less_258 : decode cX9_less 258 = .ok (.laload, 1) := by decide +kernel
theorem dX9_less_259 : decode cX9_less 259 = .ok (.invokevirtual 183, 3) := by decide +kernel
theorem dX9_less_262 : decode cX9_less 262 = .ok (.iinc 2 1, 3) := by decide +kernel
theorem dX9_less_265 : decode cX9_less 265 = .ok (.goto (-263), 3) := by decide +kernel
theorem dX9_less_268 : decode cX9_less 268 = .ok (.return_, 1) := by decide +kernel
theorem dX9_free_0 : decode cX9_free 0 = .ok (.iconst (-1), 1) := by decide +kernel
theorem dX9_free_1 : decode cX9_free 1 = .ok (.istore_n 2, 1) := by decide +kernel
theorem dX9_free_2 : decode cX9_free 2 = .ok (.iconst 0, 1) := by decide +kernel
theorem dX9_free_3 : decode cX9_free 3 = .ok (.istore_n 3, 1) := by decide +kernel
theorem dX9_free_4 : decode cX9_free 4 = .ok (.iconst 0, 1) := by decide +kernel
theorem dX9_free_5 : decode cX9_free 5 = .ok (.istore 4, 2) := by decide +kernel
theorem dX9_free_7 : decode cX9_free 7 = .ok (.iload 4, 2) := by decide +kernel
theorem dX9_free_9 : decode cX9_free 9 = .ok (.aload_n 0, 1) := by decide +kernel
theorem dX9_free_10 : decode cX9_free 10 = .ok (.getfield 151, 3) := by decide +kernel
theorem dX9_free_13 : decode cX9_free 13 = .ok (.if_icmp .ge 35, 3) := by decide +kernel
theorem dX9_free_16 : decode cX9_free 16 = .ok (.aload_n 0, 1) := by decide +kernel
theorem dX9_free_17 : decode cX9_free 17 = .ok (.getfield 50, 3) := by decide +kernel
theorem dX9_free_20 : decode cX9_free 20 = .ok (.iload 4, 2) := by decide +kernel
theorem dX9_free_22 : decode cX9_free 22 = .ok (.baload, 1) := by decide +kernel
theorem dX9_free_23 : decode cX9_free 23 = .ok (.ifCond .ne 19, 3) := by decide +kernel
theorem dX9_free_26 : decode cX9_free 26 = .ok (.aload_n 0, 1) := by decide +kernel
theorem dX9_free_27 : decode cX9_free 27 = .ok (.iload 4, 2) := by decide +kernel
theorem dX9_free_29 : decode cX9_free 29 = .ok (.iload_n 1, 1) := by decide +kernel
theorem dX9_free_30 : decode cX9_free 30 = .ok (.invokevirtual 165, 3) := by decide +kernel
theorem dX9_free_33 : decode cX9_free 33 = .ok (.ifCond .eq 9, 3) := by decide +kernel
theorem dX9_free_36 : decode cX9_free 36 = .ok (.iload 4, 2) := by decide +kernel
theorem dX9_free_38 : decode cX9_free 38 = .ok (.istore_n 2, 1) := by decide +kernel
theorem dX9_free_39 : decode cX9_free 39 = .ok (.iinc 3 1, 3) := by decide +kernel
theorem dX9_free_42 : decode cX9_free 42 = .ok (.iinc 4 1, 3) := by decide +kernel
theorem dX9_free_45 : decode cX9_free 45 = .ok (.goto (-38), 3) := by decide +kernel
theorem dX9_free_48 : decode cX9_free 48 = .ok (.iload_n 3, 1) := by decide +kernel
theorem dX9_free_49 : decode cX9_free 49 = .ok (.iconst 1, 1) := by decide +kernel
theorem dX9_free_50 : decode cX9_free 50 = .ok (.if_icmp .ne 39, 3) := by decide +kernel
theorem dX9_free_53 : decode cX9_free 53 = .ok (.aload_n 0, 1) := by decide +kernel
theorem dX9_free_54 : decode cX9_free 54 = .ok (.getfield 47, 3) := by decide +kernel
theorem dX9_free_57 : decode cX9_free 57 = .ok (.iload_n 2, 1) := by decide +kernel
theorem dX9_free_58 : decode cX9_free 58 = .ok (.iaload, 1) := by decide +kernel
theorem dX9_free_59 : decode cX9_free 59 = .ok (.iconst 1, 1) := by decide +kernel
theorem dX9_free_60 : decode cX9_free 60 = .ok (.if_icmp .ne 29, 3) := by decide +kernel
theorem dX9_free_63 : decode cX9_free 63 = .ok (.aload_n 0, 1) := by decide +kernel
theorem dX9_free_64 : decode cX9_free 64 = .ok (.iload_n 2, 1) := by decide +kernel
theorem dX9_free_65 : decode cX9_free 65 = .ok (.invokevirtual 187, 3) := by decide +kernel
theorem dX9_free_68 : decode cX9_free 68 = .ok (.iconst 2, 1) := by decide +kernel
theorem dX9_free_69 : decode cX9_free 69 = .ok (.if_icmp .lt 20, 3) := by decide +kernel
theorem dX9_free_72 : decode cX9_free 72 = .ok (.aload_n 0, 1) := by decide +kernel
theorem dX9_free_73 : decode cX9_free 73 = .ok (.getfield 60, 3) := by decide +kernel
theorem dX9_free_76 : decode cX9_free 76 = .ok (.bipush 12, 2) := by decide +kernel
theorem dX9_free_78 : decode cX9_free 78 = .ok (.iload_n 2, 1) := by decide +kernel
theorem dX9_free_79 : decode cX9_free 79 = .ok (.imul, 1) := by decide +kernel
theorem dX9_free_80 : decode cX9_free 80 = .ok (.iload_n 1, 1) := by decide +kernel
theorem dX9_free_81 : decode cX9_free 81 = .ok (.iadd, 1) := by decide +kernel
theorem dX9_free_82 : decode cX9_free 82 = .ok (.laload, 1) := by decide +kernel
theorem dX9_free_83 : decode cX9_free 83 = .ok (.invokestatic 233, 3) := by decide +kernel
theorem dX9_free_86 : decode cX9_free 86 = .ok (.ifCond .ne 4, 3) := by decide +kernel
theorem dX9_free_89 : decode cX9_free 89 = .ok (.return_, 1) := by decide +kernel
theorem dX9_free_90 : decode cX9_free 90 = .ok (.aload_n 0, 1) := by decide +kernel
theorem dX9_free_91 : decode cX9_free 91 = .ok (.getfield 60, 3) := by decide +kernel
theorem dX9_free_94 : decode cX9_free 94 = .ok (.bipush 12, 2) := by decide +kernel
theorem dX9_free_96 : decode cX9_free 96 = .ok (.iload_n 2, 1) := by decide +kernel
theorem dX9_free_97 : decode cX9_free 97 = .ok (.imul, 1) := by decide +kernel
theorem dX9_free_98 : decode cX9_free 98 = .ok (.iload_n 1, 1) := by decide +kernel
theorem dX9_free_99 : decode cX9_free 99 = .ok (.iadd, 1) := by decide +kernel
theorem dX9_free_100 : decode cX9_free 100 = .ok (.laload, 1) := by decide +kernel
theorem dX9_free_101 : decode cX9_free 101 = .ok (.lstore 4, 2) := by decide +kernel
theorem dX9_free_103 : decode cX9_free 103 = .ok (.aload_n 0, 1) := by decide +kernel
theorem dX9_free_104 : decode cX9_free 104 = .ok (.iload_n 2, 1) := by decide +kernel
theorem dX9_free_105 : decode cX9_free 105 = .ok (.iload_n 1, 1) := by decide +kernel
theorem dX9_free_106 : decode cX9_free 106 = .ok (.iconst 0, 1) := by decide +kernel
theorem dX9_free_107 : decode cX9_free 107 = .ok (.invokevirtual 210, 3) := by decide +kernel
theorem dX9_free_110 : decode cX9_free 110 = .ok (.lstore 6, 2) := by decide +kernel
theorem dX9_free_112 : decode cX9_free 112 = .ok (.aload_n 0, 1) := by decide +kernel
theorem dX9_free_113 : decode cX9_free 113 = .ok (.iload_n 2, 1) := by decide +kernel
theorem dX9_free_114 : decode cX9_free 114 = .ok (.iload_n 1, 1) := by decide +kernel
theorem dX9_free_115 : decode cX9_free 115 = .ok (.iconst 1, 1) := by decide +kernel
theorem dX9_free_116 : decode cX9_free 116 = .ok (.invokevirtual 210, 3) := by decide +kernel
theorem dX9_free_119 : decode cX9_free 119 = .ok (.lstore 8, 2) := by decide +kernel
theorem dX9_free_121 : decode cX9_free 121 = .ok (.lload 4, 2) := by decide +kernel
theorem dX9_free_123 : decode cX9_free 123 = .ok (.lconst 1, 1) := by decide +kernel
theorem dX9_free_124 : decode cX9_free 124 = .ok (.lcmp, 1) := by decide +kernel
theorem dX9_free_125 : decode cX9_free 125 = .ok (.ifCond .ne 15, 3) := by decide +kernel
theorem dX9_free_128 : decode cX9_free 128 = .ok (.aload_n 0, 1) := by decide +kernel
theorem dX9_free_129 : decode cX9_free 129 = .ok (.getfield 54, 3) := by decide +kernel
theorem dX9_free_132 : decode cX9_free 132 = .ok (.iload_n 2, 1) := by decide +kernel
theorem dX9_free_133 : decode cX9_free 133 = .ok (.laload, 1) := by decide +kernel
theorem dX9_free_134 : decode cX9_free 134 = .ok (.lload 8, 2) := by decide +kernel
theorem dX9_free_136 : decode cX9_free 136 = .ok (.lsub, 1) := by decide +kernel
theorem dX9_free_137 : decode cX9_free 137 = .ok (.goto 12, 3) := by decide +kernel
theorem dX9_free_140 : decode cX9_free 140 = .ok (.lload 6, 2) := by decide +kernel
theorem dX9_free_142 : decode cX9_free 142 = .ok (.aload_n 0, 1) := by decide +kernel
theorem dX9_free_143 : decode cX9_free 143 = .ok (.getfield 54, 3) := by decide +kernel
theorem dX9_free_146 : decode cX9_free 146 = .ok (.iload_n 2, 1) := by decide +kernel
theorem dX9_free_147 : decode cX9_free 147 = .ok (.laload, 1) := by decide +kernel
theorem dX9_free_148 : decode cX9_free 148 = .ok (.lsub, 1) := by decide +kernel
