theorem dX4_divideShared_83 : decode cX4_divideShared 83 = .ok (.invokevirtual 36, 3) := by decide +kernel
theorem dX4_divideShared_86 : decode cX4_divideShared 86 = .ok (.ireturn, 1) := by decide +kernel
theorem dX4_divideShared_87 : decode cX4_divideShared 87 = .ok (.iload 5, 2) := by decide +kernel
theorem dX4_divideShared_89 : decode cX4_divideShared 89 = .ok (.ifCond .eq 23, 3) := by decide +kernel
theorem dX4_divideShared_92 : decode cX4_divideShared 92 = .ok (.aload_n 0, 1) := by decide +kernel
theorem dX4_divideShared_93 : decode cX4_divideShared 93 = .ok (.getfield 21, 3) := by decide +kernel
theorem dX4_divideShared_96 : decode cX4_divideShared 96 = .ok (.getfield 55, 3) := by decide +kernel
theorem dX4_divideShared_99 : decode cX4_divideShared 99 = .ok (.iload_n 1, 1) := by decide +kernel
theorem dX4_divideShared_100 : decode cX4_divideShared 100 = .ok (.aaload, 1) := by decide +kernel
theorem dX4_divideShared_101 : decode cX4_divideShared 101 = .ok (.iload_n 2, 1) := by decide +kernel
theorem dX4_divideShared_102 : decode cX4_divideShared 102 = .ok (.laload, 1) := by decide +kernel
theorem dX4_divideShared_103 : decode cX4_divideShared 103 = .ok (.lconst 0, 1) := by decide +kernel
theorem dX4_divideShared_104 : decode cX4_divideShared 104 = .ok (.lcmp, 1) := by decide +kernel
theorem dX4_divideShared_105 : decode cX4_divideShared 105 = .ok (.ifCond .ge 7, 3) := by decide +kernel
theorem dX4_divideShared_108 : decode cX4_divideShared 108 = .ok (.iconst 1, 1) := by decide +kernel
theorem dX4_divideShared_109 : decode cX4_divideShared 109 = .ok (.goto 4, 3) := by decide +kernel
theorem dX4_divideShared_112 : decode cX4_divideShared 112 = .ok (.iconst 0, 1) := by decide +kernel
theorem dX4_divideShared_113 : decode cX4_divideShared 113 = .ok (.istore 6, 2) := by decide +kernel
theorem dX4_divideShared_115 : decode cX4_divideShared 115 = .ok (.lload_n 3, 1) := by decide +kernel
theorem dX4_divideShared_116 : decode cX4_divideShared 116 = .ok (.lconst 1, 1) := by decide +kernel
theorem dX4_divideShared_117 : decode cX4_divideShared 117 = .ok (.lcmp, 1) := by decide +kernel
theorem dX4_divideShared_118 : decode cX4_divideShared 118 = .ok (.ifCond .le 9, 3) := by decide +kernel
theorem dX4_divideShared_121 : decode cX4_divideShared 121 = .ok (.aload_n 0, 1) := by decide +kernel
theorem dX4_divideShared_122 : decode cX4_divideShared 122 = .ok (.iload_n 1, 1) := by decide +kernel
theorem dX4_divideShared_123 : decode cX4_divideShared 123 = .ok (.lload_n 3, 1) := by decide +kernel
theorem dX4_divideShared_124 : decode cX4_divideShared 124 = .ok (.invokevirtual 59, 3) := by decide +kernel
theorem dX4_divideShared_127 : decode cX4_divideShared 127 = .ok (.iload 6, 2) := by decide +kernel
theorem dX4_divideShared_129 : decode cX4_divideShared 129 = .ok (.ifCond .eq 8, 3) := by decide +kernel
theorem dX4_divideShared_132 : decode cX4_divideShared 132 = .ok (.aload_n 0, 1) := by decide +kernel
theorem dX4_divideShared_133 : decode cX4_divideShared 133 = .ok (.iload_n 1, 1) := by decide +kernel
theorem dX4_divideShared_134 : decode cX4_divideShared 134 = .ok (.invokevirtual 63, 3) := by decide +kernel
theorem dX4_divideShared_137 : decode cX4_divideShared 137 = .ok (.lload_n 3, 1) := by decide +kernel
theorem dX4_divideShared_138 : decode cX4_divideShared 138 = .ok (.lconst 1, 1) := by decide +kernel
theorem dX4_divideShared_139 : decode cX4_divideShared 139 = .ok (.lcmp, 1) := by decide +kernel
theorem dX4_divideShared_140 : decode cX4_divideShared 140 = .ok (.ifCond .gt 8, 3) := by decide +kernel
theorem dX4_divideShared_143 : decode cX4_divideShared 143 = .ok (.iload 6, 2) := by decide +kernel
theorem dX4_divideShared_145 : decode cX4_divideShared 145 = .ok (.ifCond .eq 11, 3) := by decide +kernel
theorem dX4_divideShared_148 : decode cX4_divideShared 148 = .ok (.aload_n 0, 1) := by decide +kernel
theorem dX4_divideShared_149 : decode cX4_divideShared 149 = .ok (.getfield 9, 3) := by decide +kernel
theorem dX4_divideShared_152 : decode cX4_divideShared 152 = .ok (.iload_n 1, 1) := by decide +kernel
theorem dX4_divideShared_153 : decode cX4_divideShared 153 = .ok (.invokevirtual 66, 3) := by decide +kernel
theorem dX4_divideShared_156 : decode cX4_divideShared 156 = .ok (.iconst 1, 1) := by decide +kernel
theorem dX4_divideShared_157 : decode cX4_divideShared 157 = .ok (.ireturn, 1) := by decide +kernel
theorem dX4_leaveSingle_0 : decode cX4_leaveSingle 0 = .ok (.aload_n 0, 1) := by decide +kernel
theorem dX4_leaveSingle_1 : decode cX4_leaveSingle 1 = .ok (.getfield 21, 3) := by decide +kernel
theorem dX4_leaveSingle_4 : decode cX4_leaveSingle 4 = .ok (.iload_n 1, 1) := by decide +kernel
theorem dX4_leaveSingle_5 : decode cX4_leaveSingle 5 = .ok (.invokevirtual 86, 3) := by decide +kernel
theorem dX4_leaveSingle_8 : decode cX4_leaveSingle 8 = .ok (.iconst 1, 1) := by decide +kernel
theorem dX4_leaveSingle_9 : decode cX4_leaveSingle 9 = .ok (.if_icmp .eq 5, 3) := by decide +kernel
theorem dX4_leaveSingle_12 : decode cX4_leaveSingle 12 = .ok (.iconst 1, 1) := by decide +kernel
theorem dX4_leaveSingle_13 : decode cX4_leaveSingle 13 = .ok (.ireturn, 1) := by decide +kernel
theorem dX4_leaveSingle_14 : decode cX4_leaveSingle 14 = .ok (.aload_n 0, 1) := by decide +kernel
theorem dX4_leaveSingle_15 : decode cX4_leaveSingle 15 = .ok (.getfield 21, 3) := by decide +kernel
theorem dX4_leaveSingle_18 : decode cX4_leaveSingle 18 = .ok (.iload_n 1, 1) := by decide +kernel
theorem dX4_leaveSingle_19 : decode cX4_leaveSingle 19 = .ok (.iconst 0, 1) := by decide +kernel
theorem dX4_leaveSingle_20 : decode cX4_leaveSingle 20 = .ok (.invokevirtual 22, 3) := by decide +kernel
theorem dX4_leaveSingle_23 : decode cX4_leaveSingle 23 = .ok (.istore_n 2, 1) := by decide +kernel
theorem dX4_leaveSingle_24 : decode cX4_leaveSingle 24 = .ok (.iload_n 2, 1) := by decide +kernel
theorem dX4_leaveSingle_25 : decode cX4_leaveSingle 25 = .ok (.iconst (-1), 1) := by decide +kernel
theorem dX4_leaveSingle_26 : decode cX4_leaveSingle 26 = .ok (.if_icmp .ne 5, 3) := by decide +kernel
theorem dX4_leaveSingle_29 : decode cX4_leaveSingle 29 = .ok (.iconst 1, 1) := by decide +kernel
theorem dX4_leaveSingle_30 : decode cX4_leaveSingle 30 = .ok (.ireturn, 1) := by decide +kernel
theorem dX4_leaveSingle_31 : decode cX4_leaveSingle 31 = .ok (.aload_n 0, 1) := by decide +kernel
theorem dX4_leaveSingle_32 : decode cX4_leaveSingle 32 = .ok (.getfield 21, 3) := by decide +kernel
theorem dX4_leaveSingle_35 : decode cX4_leaveSingle 35 = .ok (.getfield 55, 3) := by decide +kernel
theorem dX4_leaveSingle_38 : decode cX4_leaveSingle 38 = .ok (.iload_n 1, 1) := by decide +kernel
theorem dX4_leaveSingle_39 : decode cX4_leaveSingle 39 = .ok (.aaload, 1) := by decide +kernel
theorem dX4_leaveSingle_40 : decode cX4_leaveSingle 40 = .ok (.iload_n 2, 1) := by decide +kernel
theorem dX4_leaveSingle_41 : decode cX4_leaveSingle 41 = .ok (.laload, 1) := by decide +kernel
theorem dX4_leaveSingle_42 : decode cX4_leaveSingle 42 = .ok (.lstore_n 3, 1) := by decide +kernel
theorem dX4_leaveSingle_43 : decode cX4_leaveSingle 43 = .ok (.aload_n 0, 1) := by decide +kernel
theorem dX4_leaveSingle_44 : decode cX4_leaveSingle 44 = .ok (.getfield 21, 3) := by decide +kernel
theorem dX4_leaveSingle_47 : decode cX4_leaveSingle 47 = .ok (.getfield 51, 3) := by decide +kernel
theorem dX4_leaveSingle_50 : decode cX4_leaveSingle 50 = .ok (.iload_n 1, 1) := by decide +kernel
theorem dX4_leaveSingle_51 : decode cX4_leaveSingle 51 = .ok (.laload, 1) := by decide +kernel
theorem dX4_leaveSingle_52 : decode cX4_leaveSingle 52 = .ok (.lstore 5, 2) := by decide +kernel
theorem dX4_leaveSingle_54 : decode cX4_leaveSingle 54 = .ok (.aload_n 0, 1) := by decide +kernel
theorem dX4_leaveSingle_55 : decode cX4_leaveSingle 55 = .ok (.getfield 9, 3) := by decide +kernel
theorem dX4_leaveSingle_58 : decode cX4_leaveSingle 58 = .ok (.getfield 32, 3) := by decide +kernel
theorem dX4_leaveSingle_61 : decode cX4_leaveSingle 61 = .ok (.iload_n 1, 1) := by decide +kernel
theorem dX4_leaveSingle_62 : decode cX4_leaveSingle 62 = .ok (.iaload, 1) := by decide +kernel
theorem dX4_leaveSingle_63 : decode cX4_leaveSingle 63 = .ok (.istore 7, 2) := by decide +kernel
theorem dX4_leaveSingle_65 : decode cX4_leaveSingle 65 = .ok (.aload_n 0, 1) := by decide +kernel
theorem dX4_leaveSingle_66 : decode cX4_leaveSingle 66 = .ok (.getfield 21, 3) := by decide +kernel
theorem dX4_leaveSingle_69 : decode cX4_leaveSingle 69 = .ok (.getfield 48, 3) := by decide +kernel
theorem dX4_leaveSingle_72 : decode cX4_leaveSingle 72 = .ok (.iload_n 1, 1) := by decide +kernel
theorem dX4_leaveSingle_73 : decode cX4_leaveSingle 73 = .ok (.iaload, 1) := by decide +kernel
theorem dX4_leaveSingle_74 : decode cX4_leaveSingle 74 = .ok (.iconst 1, 1) := by decide +kernel
theorem dX4_leaveSingle_75 : decode cX4_leaveSingle 75 = .ok (.if_icmp .ne 7, 3) := by decide +kernel
theorem dX4_leaveSingle_78 : decode cX4_leaveSingle 78 = .ok (.iconst 1, 1) := by decide +kernel
theorem dX4_leaveSingle_79 : decode cX4_leaveSingle 79 = .ok (.goto 4, 3) := by decide +kernel
theorem dX4_leaveSingle_82 : decode cX4_leaveSingle 82 = .ok (.iconst 0, 1) := by decide +kernel
theorem dX4_leaveSingle_83 : decode cX4_leaveSingle 83 = .ok (.istore 8, 2) := by decide +kernel
theorem dX4_leaveSingle_85 : decode cX4_leaveSingle 85 = .ok (.iload 8, 2) := by decide +kernel
theorem dX4_leaveSingle_87 : decode cX4_leaveSingle 87 = .ok (.ifCond .eq 28, 3) := by decide +kernel
theorem dX4_leaveSingle_90 : decode cX4_leaveSingle 90 = .ok (.lload_n 3, 1) := by decide +kernel
theorem dX4_leaveSingle_91 : decode cX4_leaveSingle 91 = .ok (.lconst 0, 1) := by decide +kernel
theorem dX4_leaveSingle_92 : decode cX4_leaveSingle 92 = .ok (.lcmp, 1) := by decide +kernel
theorem dX4_leaveSingle_93 : decode cX4_leaveSingle 93 = .ok (.ifCond .eq 22, 3) := by decide +kernel
theorem dX4_leaveSingle_96 : decode cX4_leaveSingle 96 = .ok (.lload 5, 2) := by decide +kernel
theorem dX4_leaveSingle_98 : decode cX4_leaveSingle 98 = .ok (.lload_n 3, 1) := by decide +kernel
theorem dX4_leaveSingle_99 : decode cX4_leaveSingle 99 = .ok (.lrem, 1) := by decide +kernel
theorem dX4_leaveSingle_100 : decode cX4_leaveSingle 100 = .ok (.lconst 0, 1) := by decide +kernel
theorem dX4_leaveSingle_101 : decode cX4_leaveSingle 101 = .ok (.lcmp, 1) := by decide +kernel
theorem dX4_leaveSingle_102 : decode cX4_leaveSingle 102 = .ok (.ifCond .eq 13, 3) := by decide +kernel
theorem dX4_leaveSingle_105 : decode cX4_leaveSingle 105 = .ok (.aload_n 0, 1) := by decide +kernel
theorem dX4_leaveSingle_106 : decode cX4_leaveSingle 106 = .ok (.getfield 9, 3) := by decide +kernel
theorem dX4_leaveSingle_109 : decode cX4_leaveSingle 109 = .ok (.iload 7, 2) := by decide +kernel
theorem dX4_leaveSingle_111 : decode cX4_leaveSingle 111 = .ok (.invokevirtual 36, 3) := by decide +kernel
theorem dX4_leaveSingle_114 : decode cX4_leaveSingle 114 = .ok (.ireturn, 1) := by decide +kernel
theorem dX4_leaveSingle_115 : decode cX4_leaveSingle 115 = .ok (.iload 8, 2) := by decide +kernel
theorem dX4_leaveSingle_117 : decode cX4_leaveSingle 117 = .ok (.ifCond .ne 9, 3) := by decide +kernel
theorem dX4_leaveSingle_120 : decode cX4_leaveSingle 120 = .ok (.lload_n 3, 1) := by decide +kernel
theorem dX4_leaveSingle_121 : decode cX4_leaveSingle 121 = .ok (.lconst 0, 1) := by decide +kernel
theorem dX4_leaveSingle_122 : decode cX4_leaveSingle 122 = .ok (.lcmp, 1) := by decide +kernel
theorem dX4_leaveSingle_123 : decode cX4_leaveSingle 123 = .ok (.ifCond .ge 23, 3) := by decide +kernel
theorem dX4_leaveSingle_126 : decode cX4_leaveSingle 126 = .ok (.aload_n 0, 1) := by decide +kernel
theorem dX4_leaveSingle_127 : decode cX4_leaveSingle 127 = .ok (.getfield 9, 3) := by decide +kernel
theorem dX4_leaveSingle_130 : decode cX4_leaveSingle 130 = .ok (.iload_n 1, 1) := by decide +kernel
theorem dX4_leaveSingle_131 : decode cX4_leaveSingle 131 = .ok (.iload_n 2, 1) := by decide +kernel
theorem dX4_leaveSingle_132 : decode cX4_leaveSingle 132 = .ok (.iconst 0, 1) := by decide +kernel
theorem dX4_leaveSingle_133 : decode cX4_leaveSingle 133 = .ok (.lload 5, 2) := by decide +kernel
theorem dX4_leaveSingle_135 : decode cX4_leaveSingle 135 = .ok (.lload_n 3, 1) := by decide +kernel
theorem dX4_leaveSingle_136 : decode cX4_leaveSingle 136 = .ok (.iload 7, 2) := by decide +kernel
theorem dX4_leaveSingle_138 : decode cX4_leaveSingle 138 = .ok (.invokevirtual 90, 3) := by decide +kernel
theorem dX4_leaveSingle_141 : decode cX4_leaveSingle 141 = .ok (.ifCond .ne 5, 3) := by decide +kernel
theorem dX4_leaveSingle_144 : decode cX4_leaveSingle 144 = .ok (.iconst 0, 1) := by decide +kernel
theorem dX4_leaveSingle_145 : decode cX4_leaveSingle 145 = .ok (.ireturn, 1) := by decide +kernel
theorem dX4_leaveSingle_146 : decode cX4_leaveSingle 146 = .ok (.iload 8, 2) := by decide +kernel
theorem dX4_leaveSingle_148 : decode cX4_leaveSingle 148 = .ok (.ifCond .ne 9, 3) := by decide +kernel
theorem dX4_leaveSingle_151 : decode cX4_leaveSingle 151 = .ok (.lload_n 3, 1) := by decide +kernel
theorem dX4_leaveSingle_152 : decode cX4_leaveSingle 152 = .ok (.lconst 0, 1) := by decide +kernel
theorem dX4_leaveSingle_153 : decode cX4_leaveSingle 153 = .ok (.lcmp, 1) := by decide +kernel
theorem dX4_leaveSingle_154 : decode cX4_leaveSingle 154 = .ok (.ifCond .le 23, 3) := by decide +kernel
theorem dX4_leaveSingle_157 : decode cX4_leaveSingle 157 = .ok (.aload_n 0, 1) := by decide +kernel
theorem dX4_leaveSingle_158 : decode cX4_leaveSingle 158 = .ok (.getfield 9, 3) := by decide +kernel
theorem dX4_leaveSingle_161 : decode cX4_leaveSingle 161 = .ok (.iload_n 1, 1) := by decide +kernel
theorem dX4_leaveSingle_162 : decode cX4_leaveSingle 162 = .ok (.iload_n 2, 1) := by decide +kernel
theorem dX4_leaveSingle_163 : decode cX4_leaveSingle 163 = .ok (.iconst 1, 1) := by decide +kernel
theorem dX4_leaveSingle_164 : decode cX4_leaveSingle 164 = .ok (.lload 5, 2) := by decide +kernel
theorem dX4_leaveSingle_166 : decode cX4_leaveSingle 166 = .ok (.lload_n 3, 1) := by decide +kernel
theorem dX4_leaveSingle_167 : decode cX4_leaveSingle 167 = .ok (.iload 7, 2) := by decide +kernel
theorem dX4_leaveSingle_169 : decode cX4_leaveSingle 169 = .ok (.invokevirtual 90, 3) := by decide +kernel
theorem dX4_leaveSingle_172 : decode cX4_leaveSingle 172 = .ok (.ifCond .ne 5, 3) := by decide +kernel
theorem dX4_leaveSingle_175 : decode cX4_leaveSingle 175 = .ok (.iconst 0, 1) := by decide +kernel
theorem dX4_leaveSingle_176 : decode cX4_leaveSingle 176 = .ok (.ireturn, 1) := by decide +kernel
theorem dX4_leaveSingle_177 : decode cX4_leaveSingle 177 = .ok (.aload_n 0, 1) := by decide +kernel
theorem dX4_leaveSingle_178 : decode cX4_leaveSingle 178 = .ok (.getfield 9, 3) := by decide +kernel
theorem dX4_leaveSingle_181 : decode cX4_leaveSingle 181 = .ok (.iload_n 1, 1) := by decide +kernel
theorem dX4_leaveSingle_182 : decode cX4_leaveSingle 182 = .ok (.invokevirtual 40, 3) := by decide +kernel
theorem dX4_leaveSingle_185 : decode cX4_leaveSingle 185 = .ok (.iconst 1, 1) := by decide +kernel
theorem dX4_leaveSingle_186 : decode cX4_leaveSingle 186 = .ok (.ireturn, 1) := by decide +kernel
theorem dX4_holdAtEnd_0 : decode cX4_holdAtEnd 0 = .ok (.aload_n 0, 1) := by decide +kernel
theorem dX4_holdAtEnd_1 : decode cX4_holdAtEnd 1 = .ok (.getfield 9, 3) := by decide +kernel
theorem dX4_holdAtEnd_4 : decode cX4_holdAtEnd 4 = .ok (.getfield 32, 3) := by decide +kernel
theorem dX4_holdAtEnd_7 : decode cX4_holdAtEnd 7 = .ok (.iload_n 1, 1) := by decide +kernel
theorem dX4_holdAtEnd_8 : decode cX4_holdAtEnd 8 = .ok (.iaload, 1) := by decide +kernel
theorem dX4_holdAtEnd_9 : decode cX4_holdAtEnd 9 = .ok (.aload_n 0, 1) := by decide +kernel
theorem dX4_holdAtEnd_10 : decode cX4_holdAtEnd 10 = .ok (.getfield 9, 3) := by decide +kernel
theorem dX4_holdAtEnd_13 : decode cX4_holdAtEnd 13 = .ok (.iload_n 1, 1) := by decide +kernel
theorem dX4_holdAtEnd_14 : decode cX4_holdAtEnd 14 = .ok (.iconst (-1), 1) := by decide +kernel
theorem dX4_holdAtEnd_15 : decode cX4_holdAtEnd 15 = .ok (.iload_n 2, 1) := by decide +kernel
theorem dX4_holdAtEnd_16 : decode cX4_holdAtEnd 16 = .ok (.invokevirtual 98, 3) := by decide +kernel
theorem dX4_holdAtEnd_19 : decode cX4_holdAtEnd 19 = .ok (.ior, 1) := by decide +kernel
theorem dX4_holdAtEnd_20 : decode cX4_holdAtEnd 20 = .ok (.istore_n 3, 1) := by decide +kernel
theorem dX4_holdAtEnd_21 : decode cX4_holdAtEnd 21 = .ok (.iconst 0, 1) := by decide +kernel
theorem dX4_holdAtEnd_22 : decode cX4_holdAtEnd 22 = .ok (.istore 4, 2) := by decide +kernel
theorem dX4_holdAtEnd_24 : decode cX4_holdAtEnd 24 = .ok (.iload 4, 2) := by decide +kernel
theorem dX4_holdAtEnd_26 : decode cX4_holdAtEnd 26 = .ok (.aload_n 0, 1) := by decide +kernel
theorem dX4_holdAtEnd_27 : decode cX4_holdAtEnd 27 = .ok (.getfield 21, 3) := by decide +kernel
theorem dX4_holdAtEnd_30 : decode cX4_holdAtEnd 30 = .ok (.getfield 69, 3) := by decide +kernel
theorem dX4_holdAtEnd_33 : decode cX4_holdAtEnd 33 = .ok (.if_icmp .ge 112, 3) := by decide +kernel
theorem dX4_holdAtEnd_36 : decode cX4_holdAtEnd 36 = .ok (.aload_n 0, 1) := by decide +kernel
theorem dX4_holdAtEnd_37 : decode cX4_holdAtEnd 37 = .ok (.getfield 21, 3) := by decide +kernel
theorem dX4_holdAtEnd_40 : decode cX4_holdAtEnd 40 = .ok (.getfield 55, 3) := by decide +kernel
theorem dX4_holdAtEnd_43 : decode cX4_holdAtEnd 43 = .ok (.iload_n 1, 1) := by decide +kernel
theorem dX4_holdAtEnd_44 : decode cX4_holdAtEnd 44 = .ok (.aaload, 1) := by decide +kernel
theorem dX4_holdAtEnd_45 : decode cX4_holdAtEnd 45 = .ok (.iload 4, 2) := by decide +kernel
theorem dX4_holdAtEnd_47 : decode cX4_holdAtEnd 47 = .ok (.laload, 1) := by decide +kernel
theorem dX4_holdAtEnd_48 : decode cX4_holdAtEnd 48 = .ok (.lstore 5, 2) := by decide +kernel
theorem dX4_holdAtEnd_50 : decode cX4_holdAtEnd 50 = .ok (.lload 5, 2) := by decide +kernel
theorem dX4_holdAtEnd_52 : decode cX4_holdAtEnd 52 = .ok (.lconst 0, 1) := by decide +kernel
theorem dX4_holdAtEnd_53 : decode cX4_holdAtEnd 53 = .ok (.lcmp, 1) := by decide +kernel
theorem dX4_holdAtEnd_54 : decode cX4_holdAtEnd 54 = .ok (.ifCond .eq 85, 3) := by decide +kernel
theorem dX4_holdAtEnd_57 : decode cX4_holdAtEnd 57 = .ok (.lload 5, 2) := by decide +kernel
theorem dX4_holdAtEnd_59 : decode cX4_holdAtEnd 59 = .ok (.lconst 0, 1) := by decide +kernel
theorem dX4_holdAtEnd_60 : decode cX4_holdAtEnd 60 = .ok (.lcmp, 1) := by decide +kernel
theorem dX4_holdAtEnd_61 : decode cX4_holdAtEnd 61 = .ok (.ifCond .le 7, 3) := by decide +kernel
theorem dX4_holdAtEnd_64 : decode cX4_holdAtEnd 64 = .ok (.iconst 1, 1) := by decide +kernel
theorem dX4_holdAtEnd_65 : decode cX4_holdAtEnd 65 = .ok (.goto 4, 3) := by decide +kernel
theorem dX4_holdAtEnd_68 : decode cX4_holdAtEnd 68 = .ok (.iconst 0, 1) := by decide +kernel
theorem dX4_holdAtEnd_69 : decode cX4_holdAtEnd 69 = .ok (.iload_n 2, 1) := by decide +kernel
theorem dX4_holdAtEnd_70 : decode cX4_holdAtEnd 70 = .ok (.if_icmp .ne 7, 3) := by decide +kernel
theorem dX4_holdAtEnd_73 : decode cX4_holdAtEnd 73 = .ok (.iconst 1, 1) := by decide +kernel
theorem dX4_holdAtEnd_74 : decode cX4_holdAtEnd 74 = .ok (.goto 4, 3) := by decide +kernel
theorem dX4_holdAtEnd_77 : decode cX4_holdAtEnd 77 = .ok (.iconst 0, 1) := by decide +kernel
theorem dX4_holdAtEnd_78 : decode cX4_holdAtEnd 78 = .ok (.istore 7, 2) := by decide +kernel
theorem dX4_holdAtEnd_80 : decode cX4_holdAtEnd 80 = .ok (.iload 7, 2) := by decide +kernel
theorem dX4_holdAtEnd_82 : decode cX4_holdAtEnd 82 = .ok (.ifCond .eq 16, 3) := by decide +kernel
theorem dX4_holdAtEnd_85 : decode cX4_holdAtEnd 85 = .ok (.aload_n 0, 1) := by decide +kernel
theorem dX4_holdAtEnd_86 : decode cX4_holdAtEnd 86 = .ok (.getfield 21, 3) := by decide +kernel
theorem dX4_holdAtEnd_89 : decode cX4_holdAtEnd 89 = .ok (.getfield 106, 3) := by decide +kernel
theorem dX4_holdAtEnd_92 : decode cX4_holdAtEnd 92 = .ok (.iload 4, 2) := by decide +kernel
theorem dX4_holdAtEnd_94 : decode cX4_holdAtEnd 94 = .ok (.laload, 1) := by decide +kernel
theorem dX4_holdAtEnd_95 : decode cX4_holdAtEnd 95 = .ok (.goto 13, 3) := by decide +kernel
theorem dX4_holdAtEnd_98 : decode cX4_holdAtEnd 98 = .ok (.aload_n 0, 1) := by decide +kernel
theorem dX4_holdAtEnd_99 : decode cX4_holdAtEnd 99 = .ok (.getfield 21, 3) := by decide +kernel
theorem dX4_holdAtEnd_102 : decode cX4_holdAtEnd 102 = .ok (.getfield 109, 3) := by decide +kernel
theorem dX4_holdAtEnd_105 : decode cX4_holdAtEnd 105 = .ok (.iload 4, 2) := by decide +kernel
theorem dX4_holdAtEnd_107 : decode cX4_holdAtEnd 107 = .ok (.laload, 1) := by decide +kernel
theorem dX4_holdAtEnd_108 : decode cX4_holdAtEnd 108 = .ok (.lstore 8, 2) := by decide +kernel
theorem dX4_holdAtEnd_110 : decode cX4_holdAtEnd 110 = .ok (.aload_n 0, 1) := by decide +kernel
theorem dX4_holdAtEnd_111 : decode cX4_holdAtEnd 111 = .ok (.getfield 9, 3) := by decide +kernel
theorem dX4_holdAtEnd_114 : decode cX4_holdAtEnd 114 = .ok (.iload_n 1, 1) := by decide +kernel
theorem dX4_holdAtEnd_115 : decode cX4_holdAtEnd 115 = .ok (.iload 4, 2) := by decide +kernel
theorem dX4_holdAtEnd_117 : decode cX4_holdAtEnd 117 = .ok (.iload 7, 2) := by decide +kernel
theorem dX4_holdAtEnd_119 : decode cX4_holdAtEnd 119 = .ok (.ifCond .ne 7, 3) := by decide +kernel
theorem dX4_holdAtEnd_122 : decode cX4_holdAtEnd 122 = .ok (.iconst 1, 1) := by decide +kernel
theorem dX4_holdAtEnd_123 : decode cX4_holdAtEnd 123 = .ok (.goto 4, 3) := by decide +kernel
theorem dX4_holdAtEnd_126 : decode cX4_holdAtEnd 126 = .ok (.iconst 0, 1) := by decide +kernel
theorem dX4_holdAtEnd_127 : decode cX4_holdAtEnd 127 = .ok (.lload 8, 2) := by decide +kernel
theorem dX4_holdAtEnd_129 : decode cX4_holdAtEnd 129 = .ok (.lconst 1, 1) := by decide +kernel
theorem dX4_holdAtEnd_130 : decode cX4_holdAtEnd 130 = .ok (.iload_n 3, 1) := by decide +kernel
theorem dX4_holdAtEnd_131 : decode cX4_holdAtEnd 131 = .ok (.invokevirtual 90, 3) := by decide +kernel
theorem dX4_holdAtEnd_134 : decode cX4_holdAtEnd 134 = .ok (.ifCond .ne 5, 3) := by decide +kernel
theorem dX4_holdAtEnd_137 : decode cX4_holdAtEnd 137 = .ok (.iconst 0, 1) := by decide +kernel
theorem dX4_holdAtEnd_138 : decode cX4_holdAtEnd 138 = .ok (.ireturn, 1) := by decide +kernel
theorem dX4_holdAtEnd_139 : decode cX4_holdAtEnd 139 = .ok (.iinc 4 1, 3) := by decide +kernel
theorem dX4_holdAtEnd_142 : decode cX4_holdAtEnd 142 = .ok (.goto (-118), 3) := by decide +kernel
theorem dX4_holdAtEnd_145 : decode cX4_holdAtEnd 145 = .ok (.aload_n 0, 1) := by decide +kernel
theorem dX4_holdAtEnd_146 : decode cX4_holdAtEnd 146 = .ok (.getfield 9, 3) := by decide +kernel
theorem dX4_holdAtEnd_149 : decode cX4_holdAtEnd 149 = .ok (.iload_n 1, 1) := by decide +kernel
theorem dX4_holdAtEnd_150 : decode cX4_holdAtEnd 150 = .ok (.invokevirtual 40, 3) := by decide +kernel
theorem dX4_holdAtEnd_153 : decode cX4_holdAtEnd 153 = .ok (.iconst 1, 1) := by decide +kernel
theorem dX4_holdAtEnd_154 : decode cX4_holdAtEnd 154 = .ok (.ireturn, 1) := by decide +kernel
theorem dX4_lookAtSpan_0 : decode cX4_lookAtSpan 0 = .ok (.aload_n 0, 1) := by decide +kernel
theorem dX4_lookAtSpan_1 : decode cX4_lookAtSpan 1 = .ok (.getfield 21, 3) := by decide +kernel
theorem dX4_lookAtSpan_4 : decode cX4_lookAtSpan 4 = .ok (.getfield 51, 3) := by decide +kernel
theorem dX4_lookAtSpan_7 : decode cX4_lookAtSpan 7 = .ok (.iload_n 1, 1) := by decide +kernel
theorem dX4_lookAtSpan_8 : decode cX4_lookAtSpan 8 = .ok (.laload, 1) := by decide +kernel
theorem dX4_lookAtSpan_9 : decode cX4_lookAtSpan 9 = .ok (.lstore_n 2, 1) := by decide +kernel
theorem dX4_lookAtSpan_10 : decode cX4_lookAtSpan 10 = .ok (.aload_n 0, 1) := by decide +kernel
theorem dX4_lookAtSpan_11 : decode cX4_lookAtSpan 11 = .ok (.getfield 21, 3) := by decide +kernel
theorem dX4_lookAtSpan_14 : decode cX4_lookAtSpan 14 = .ok (.getfield 48, 3) := by decide +kernel
theorem dX4_lookAtSpan_17 : decode cX4_lookAtSpan 17 = .ok (.iload_n 1, 1) := by decide +kernel
theorem dX4_lookAtSpan_18 : decode cX4_lookAtSpan 18 = .ok (.iaload, 1) := by decide +kernel
theorem dX4_lookAtSpan_19 : decode cX4_lookAtSpan 19 = .ok (.iconst 1, 1) := by decide +kernel
theorem dX4_lookAtSpan_20 : decode cX4_lookAtSpan 20 = .ok (.if_icmp .ne 7, 3) := by decide +kernel
theorem dX4_lookAtSpan_23 : decode cX4_lookAtSpan 23 = .ok (.iconst 1, 1) := by decide +kernel
theorem dX4_lookAtSpan_24 : decode cX4_lookAtSpan 24 = .ok (.goto 4, 3) := by decide +kernel
theorem dX4_lookAtSpan_27 : decode cX4_lookAtSpan 27 = .ok (.iconst 0, 1) := by decide +kernel
theorem dX4_lookAtSpan_28 : decode cX4_lookAtSpan 28 = .ok (.istore 4, 2) := by decide +kernel
theorem dX4_lookAtSpan_30 : decode cX4_lookAtSpan 30 = .ok (.aload_n 0, 1) := by decide +kernel
theorem dX4_lookAtSpan_31 : decode cX4_lookAtSpan 31 = .ok (.getfield 9, 3) := by decide +kernel
theorem dX4_lookAtSpan_34 : decode cX4_lookAtSpan 34 = .ok (.iload_n 1, 1) := by decide +kernel
theorem dX4_lookAtSpan_35 : decode cX4_lookAtSpan 35 = .ok (.iconst (-1), 1) := by decide +kernel
theorem dX4_lookAtSpan_36 : decode cX4_lookAtSpan 36 = .ok (.iconst 0, 1) := by decide +kernel
theorem dX4_lookAtSpan_37 : decode cX4_lookAtSpan 37 = .ok (.invokevirtual 94, 3) := by decide +kernel
theorem dX4_lookAtSpan_40 : decode cX4_lookAtSpan 40 = .ok (.lstore 5, 2) := by decide +kernel
theorem dX4_lookAtSpan_42 : decode cX4_lookAtSpan 42 = .ok (.aload_n 0, 1) := by decide +kernel
theorem dX4_lookAtSpan_43 : decode cX4_lookAtSpan 43 = .ok (.getfield 9, 3) := by decide +kernel
theorem dX4_lookAtSpan_46 : decode cX4_lookAtSpan 46 = .ok (.iload_n 1, 1) := by decide +kernel
theorem dX4_lookAtSpan_47 : decode cX4_lookAtSpan 47 = .ok (.iconst (-1), 1) := by decide +kernel
theorem dX4_lookAtSpan_48 : decode cX4_lookAtSpan 48 = .ok (.iconst 1, 1) := by decide +kernel
theorem dX4_lookAtSpan_49 : decode cX4_lookAtSpan 49 = .ok (.invokevirtual 94, 3) := by decide +kernel
theorem dX4_lookAtSpan_52 : decode cX4_lookAtSpan 52 = .ok (.lstore 7, 2) := by decide +kernel
theorem dX4_lookAtSpan_54 : decode cX4_lookAtSpan 54 = .ok (.lload 5, 2) := by decide +kernel
theorem dX4_lookAtSpan_56 : decode cX4_lookAtSpan 56 = .ok (.lload_n 2, 1) := by decide +kernel
theorem dX4_lookAtSpan_57 : decode cX4_lookAtSpan 57 = .ok (.lcmp, 1) := by decide +kernel
theorem dX4_lookAtSpan_58 : decode cX4_lookAtSpan 58 = .ok (.ifCond .le 31, 3) := by decide +kernel
theorem dX4_lookAtSpan_61 : decode cX4_lookAtSpan 61 = .ok (.aload_n 0, 1) := by decide +kernel
theorem dX4_lookAtSpan_62 : decode cX4_lookAtSpan 62 = .ok (.getfield 9, 3) := by decide +kernel
theorem dX4_lookAtSpan_65 : decode cX4_lookAtSpan 65 = .ok (.aload_n 0, 1) := by decide +kernel
theorem dX4_lookAtSpan_66 : decode cX4_lookAtSpan 66 = .ok (.getfield 9, 3) := by decide +kernel
theorem dX4_lookAtSpan_69 : decode cX4_lookAtSpan 69 = .ok (.getfield 32, 3) := by decide +kernel
theorem dX4_lookAtSpan_72 : decode cX4_lookAtSpan 72 = .ok (.iload_n 1, 1) := by decide +kernel
theorem dX4_lookAtSpan_73 : decode cX4_lookAtSpan 73 = .ok (.iaload, 1) := by decide +kernel
theorem dX4_lookAtSpan_74 : decode cX4_lookAtSpan 74 = .ok (.aload_n 0, 1) := by decide +kernel
theorem dX4_lookAtSpan_75 : decode cX4_lookAtSpan 75 = .ok (.getfield 9, 3) := by decide +kernel
theorem dX4_lookAtSpan_78 : decode cX4_lookAtSpan 78 = .ok (.iload_n 1, 1) := by decide +kernel
theorem dX4_lookAtSpan_79 : decode cX4_lookAtSpan 79 = .ok (.iconst (-1), 1) := by decide +kernel
theorem dX4_lookAtSpan_80 : decode cX4_lookAtSpan 80 = .ok (.iconst 0, 1) := by decide +kernel
theorem dX4_lookAtSpan_81 : decode cX4_lookAtSpan 81 = .ok (.invokevirtual 98, 3) := by decide +kernel
theorem dX4_lookAtSpan_84 : decode cX4_lookAtSpan 84 = .ok (.ior, 1) := by decide +kernel
theorem dX4_lookAtSpan_85 : decode cX4_lookAtSpan 85 = .ok (.invokevirtual 36, 3) := by decide +kernel
theorem dX4_lookAtSpan_88 : decode cX4_lookAtSpan 88 = .ok (.ireturn, 1) := by decide +kernel
theorem dX4_lookAtSpan_89 : decode cX4_lookAtSpan 89 = .ok (.iload 4, 2) := by decide +kernel
theorem dX4_lookAtSpan_91 : decode cX4_lookAtSpan 91 = .ok (.ifCond .eq 38, 3) := by decide +kernel
theorem dX4_lookAtSpan_94 : decode cX4_lookAtSpan 94 = .ok (.lload 7, 2) := by decide +kernel
theorem dX4_lookAtSpan_96 : decode cX4_lookAtSpan 96 = .ok (.lload_n 2, 1) := by decide +kernel
theorem dX4_lookAtSpan_97 : decode cX4_lookAtSpan 97 = .ok (.lcmp, 1) := by decide +kernel
theorem dX4_lookAtSpan_98 : decode cX4_lookAtSpan 98 = .ok (.ifCond .ge 31, 3) := by decide +kernel
theorem dX4_lookAtSpan_101 : decode cX4_lookAtSpan 101 = .ok (.aload_n 0, 1) := by decide +kernel
theorem dX4_lookAtSpan_102 : decode cX4_lookAtSpan 102 = .ok (.getfield 9, 3) := by decide +kernel
theorem dX4_lookAtSpan_105 : decode cX4_lookAtSpan 105 = .ok (.aload_n 0, 1) := by decide +kernel
theorem dX4_lookAtSpan_106 : decode cX4_lookAtSpan 106 = .ok (.getfield 9, 3) := by decide +kernel
theorem dX4_lookAtSpan_109 : decode cX4_lookAtSpan 109 = .ok (.getfield 32, 3) := by decide +kernel
theorem dX4_lookAtSpan_112 : decode cX4_lookAtSpan 112 = .ok (.iload_n 1, 1) := by decide +kernel
theorem dX4_lookAtSpan_113 : decode cX4_lookAtSpan 113 = .ok (.iaload, 1) := by decide +kernel
theorem dX4_lookAtSpan_114 : decode cX4_lookAtSpan 114 = .ok (.aload_n 0, 1) := by decide +kernel
theorem dX4_lookAtSpan_115 : decode cX4_lookAtSpan 115 = .ok (.getfield 9, 3) := by decide +kernel
theorem dX4_lookAtSpan_118 : decode cX4_lookAtSpan 118 = .ok (.iload_n 1, 1) := by decide +kernel
theorem dX4_lookAtSpan_119 : decode cX4_lookAtSpan 119 = .ok (.iconst (-1), 1) := by decide +kernel
theorem dX4_lookAtSpan_120 : decode cX4_lookAtSpan 120 = .ok (.iconst 1, 1) := by decide +kernel
theorem dX4_lookAtSpan_121 : decode cX4_lookAtSpan 121 = .ok (.invokevirtual 98, 3) := by decide +kernel
theorem dX4_lookAtSpan_124 : decode cX4_lookAtSpan 124 = .ok (.ior, 1) := by decide +kernel
theorem dX4_lookAtSpan_125 : decode cX4_lookAtSpan 125 = .ok (.invokevirtual 36, 3) := by decide +kernel
theorem dX4_lookAtSpan_128 : decode cX4_lookAtSpan 128 = .ok (.ireturn, 1) := by decide +kernel
theorem dX4_lookAtSpan_129 : decode cX4_lookAtSpan 129 = .ok (.iload 4, 2) := by decide +kernel
theorem dX4_lookAtSpan_131 : decode cX4_lookAtSpan 131 = .ok (.ifCond .ne 20, 3) := by decide +kernel
theorem dX4_lookAtSpan_134 : decode cX4_lookAtSpan 134 = .ok (.lload 7, 2) := by decide +kernel
theorem dX4_lookAtSpan_136 : decode cX4_lookAtSpan 136 = .ok (.lload_n 2, 1) := by decide +kernel
theorem dX4_lookAtSpan_137 : decode cX4_lookAtSpan 137 = .ok (.lcmp, 1) := by decide +kernel
theorem dX4_lookAtSpan_138 : decode cX4_lookAtSpan 138 = .ok (.ifCond .gt 13, 3) := by decide +kernel
theorem dX4_lookAtSpan_141 : decode cX4_lookAtSpan 141 = .ok (.aload_n 0, 1) := by decide +kernel
theorem dX4_lookAtSpan_142 : decode cX4_lookAtSpan 142 = .ok (.getfield 9, 3) := by decide +kernel
theorem dX4_lookAtSpan_145 : decode cX4_lookAtSpan 145 = .ok (.iload_n 1, 1) := by decide +kernel
theorem dX4_lookAtSpan_146 : decode cX4_lookAtSpan 146 = .ok (.invokevirtual 40, 3) := by decide +kernel
theorem dX4_lookAtSpan_149 : decode cX4_lookAtSpan 149 = .ok (.iconst 1, 1) := by decide +kernel
theorem dX4_lookAtSpan_150 : decode cX4_lookAtSpan 150 = .ok (.ireturn, 1) := by decide +kernel
theorem dX4_lookAtSpan_151 : decode cX4_lookAtSpan 151 = .ok (.lload 5, 2) := by decide +kernel
theorem dX4_lookAtSpan_153 : decode cX4_lookAtSpan 153 = .ok (.lload_n 2, 1) := by decide +kernel
theorem dX4_lookAtSpan_154 : decode cX4_lookAtSpan 154 = .ok (.lcmp, 1) := by decide +kernel
theorem dX4_lookAtSpan_155 : decode cX4_lookAtSpan 155 = .ok (.ifCond .ne 10, 3) := by decide +kernel
theorem dX4_lookAtSpan_158 : decode cX4_lookAtSpan 158 = .ok (.aload_n 0, 1) := by decide +kernel
theorem dX4_lookAtSpan_159 : decode cX4_lookAtSpan 159 = .ok (.iload_n 1, 1) := by decide +kernel
theorem dX4_lookAtSpan_160 : decode cX4_lookAtSpan 160 = .ok (.iconst 0, 1) := by decide +kernel
theorem dX4_lookAtSpan_161 : decode cX4_lookAtSpan 161 = .ok (.invokevirtual 102, 3) := by decide +kernel
theorem dX4_lookAtSpan_164 : decode cX4_lookAtSpan 164 = .ok (.ireturn, 1) := by decide +kernel
theorem dX4_lookAtSpan_165 : decode cX4_lookAtSpan 165 = .ok (.iload 4, 2) := by decide +kernel
theorem dX4_lookAtSpan_167 : decode cX4_lookAtSpan 167 = .ok (.ifCond .eq 17, 3) := by decide +kernel
theorem dX4_lookAtSpan_170 : decode cX4_lookAtSpan 170 = .ok (.lload 7, 2) := by decide +kernel
theorem dX4_lookAtSpan_172 : decode cX4_lookAtSpan 172 = .ok (.lload_n 2, 1) := by decide +kernel
theorem dX4_lookAtSpan_173 : decode cX4_lookAtSpan 173 = .ok (.lcmp, 1) := by decide +kernel
theorem dX4_lookAtSpan_174 : decode cX4_lookAtSpan 174 = .ok (.ifCond .ne 10, 3) := by decide +kernel
theorem dX4_lookAtSpan_177 : decode cX4_lookAtSpan 177 = .ok (.aload_n 0, 1) := by decide +kernel
theorem dX4_lookAtSpan_178 : decode cX4_lookAtSpan 178 = .ok (.iload_n 1, 1) := by decide +kernel
theorem dX4_lookAtSpan_179 : decode cX4_lookAtSpan 179 = .ok (.iconst 1, 1) := by decide +kernel
theorem dX4_lookAtSpan_180 : decode cX4_lookAtSpan 180 = .ok (.invokevirtual 102, 3) := by decide +kernel
theorem dX4_lookAtSpan_183 : decode cX4_lookAtSpan 183 = .ok (.ireturn, 1) := by decide +kernel
theorem dX4_lookAtSpan_184 : decode cX4_lookAtSpan 184 = .ok (.iconst 1, 1) := by decide +kernel
theorem dX4_lookAtSpan_185 : decode cX4_lookAtSpan 185 = .ok (.ireturn, 1) := by decide +kernel
theorem dX4_tightenTerm_0 : decode cX4_tightenTerm 0 = .ok (.aload_n 0, 1) := by decide +kernel
theorem dX4_tightenTerm_1 : decode cX4_tightenTerm 1 = .ok (.getfield 21, 3) := by decide +kernel
theorem dX4_tightenTerm_4 : decode cX4_tightenTerm 4 = .ok (.getfield 55, 3) := by decide +kernel
theorem dX4_tightenTerm_7 : decode cX4_tightenTerm 7 = .ok (.iload_n 1, 1) := by decide +kernel
theorem dX4_tightenTerm_8 : decode cX4_tightenTerm 8 = .ok (.aaload, 1) := by decide +kernel
theorem dX4_tightenTerm_9 : decode cX4_tightenTerm 9 = .ok (.iload_n 2, 1) := by decide +kernel
theorem dX4_tightenTerm_10 : decode cX4_tightenTerm 10 = .ok (.laload, 1) := by decide +kernel
theorem dX4_tightenTerm_11 : decode cX4_tightenTerm 11 = .ok (.lstore 4, 2) := by decide +kernel
theorem dX4_tightenTerm_13 : decode cX4_tightenTerm 13 = .ok (.aload_n 0, 1) := by decide +kernel
theorem dX4_tightenTerm_14 : decode cX4_tightenTerm 14 = .ok (.getfield 21, 3) := by decide +kernel
theorem dX4_tightenTerm_17 : decode cX4_tightenTerm 17 = .ok (.getfield 51, 3) := by decide +kernel
theorem dX4_tightenTerm_20 : decode cX4_tightenTerm 20 = .ok (.iload_n 1, 1) := by decide +kernel
theorem dX4_tightenTerm_21 : decode cX4_tightenTerm 21 = .ok (.laload, 1) := by decide +kernel
theorem dX4_tightenTerm_22 : decode cX4_tightenTerm 22 = .ok (.aload_n 0, 1) := by decide +kernel
theorem dX4_tightenTerm_23 : decode cX4_tightenTerm 23 = .ok (.getfield 9, 3) := by decide +kernel
theorem dX4_tightenTerm_26 : decode cX4_tightenTerm 26 = .ok (.iload_n 1, 1) := by decide +kernel
theorem dX4_tightenTerm_27 : decode cX4_tightenTerm 27 = .ok (.iload_n 2, 1) := by decide +kernel
theorem dX4_tightenTerm_28 : decode cX4_tightenTerm 28 = .ok (.iload_n 3, 1) := by decide +kernel
theorem dX4_tightenTerm_29 : decode cX4_tightenTerm 29 = .ok (.invokevirtual 94, 3) := by decide +kernel
theorem dX4_tightenTerm_32 : decode cX4_tightenTerm 32 = .ok (.lsub, 1) := by decide +kernel
theorem dX4_tightenTerm_33 : decode cX4_tightenTerm 33 = .ok (.lstore 6, 2) := by decide +kernel
theorem dX4_tightenTerm_35 : decode cX4_tightenTerm 35 = .ok (.aload_n 0, 1) := by decide +kernel
theorem dX4_tightenTerm_36 : decode cX4_tightenTerm 36 = .ok (.getfield 9, 3) := by decide +kernel
theorem dX4_tightenTerm_39 : decode cX4_tightenTerm 39 = .ok (.getfield 32, 3) := by decide +kernel
theorem dX4_tightenTerm_42 : decode cX4_tightenTerm 42 = .ok (.iload_n 1, 1) := by decide +kernel
theorem dX4_tightenTerm_43 : decode cX4_tightenTerm 43 = .ok (.iaload, 1) := by decide +kernel
theorem dX4_tightenTerm_44 : decode cX4_tightenTerm 44 = .ok (.aload_n 0, 1) := by decide +kernel
theorem dX4_tightenTerm_45 : decode cX4_tightenTerm 45 = .ok (.getfield 9, 3) := by decide +kernel
theorem dX4_tightenTerm_48 : decode cX4_tightenTerm 48 = .ok (.iload_n 1, 1) := by decide +kernel
theorem dX4_tightenTerm_49 : decode cX4_tightenTerm 49 = .ok (.iload_n 2, 1) := by decide +kernel
theorem dX4_tightenTerm_50 : decode cX4_tightenTerm 50 = .ok (.iload_n 3, 1) := by decide +kernel
theorem dX4_tightenTerm_51 : decode cX4_tightenTerm 51 = .ok (.invokevirtual 98, 3) := by decide +kernel
theorem dX4_tightenTerm_54 : decode cX4_tightenTerm 54 = .ok (.ior, 1) := by decide +kernel
theorem dX4_tightenTerm_55 : decode cX4_tightenTerm 55 = .ok (.istore 8, 2) := by decide +kernel
theorem dX4_tightenTerm_57 : decode cX4_tightenTerm 57 = .ok (.aload_n 0, 1) := by decide +kernel
theorem dX4_tightenTerm_58 : decode cX4_tightenTerm 58 = .ok (.getfield 9, 3) := by decide +kernel
theorem dX4_tightenTerm_61 : decode cX4_tightenTerm 61 = .ok (.iload_n 1, 1) := by decide +kernel
theorem dX4_tightenTerm_62 : decode cX4_tightenTerm 62 = .ok (.iload_n 2, 1) := by decide +kernel
theorem dX4_tightenTerm_63 : decode cX4_tightenTerm 63 = .ok (.lload 4, 2) := by decide +kernel
theorem dX4_tightenTerm_65 : decode cX4_tightenTerm 65 = .ok (.lconst 0, 1) := by decide +kernel
theorem dX4_tightenTerm_66 : decode cX4_tightenTerm 66 = .ok (.lcmp, 1) := by decide +kernel
theorem dX4_tightenTerm_67 : decode cX4_tightenTerm 67 = .ok (.ifCond .le 7, 3) := by decide +kernel
theorem dX4_tightenTerm_70 : decode cX4_tightenTerm 70 = .ok (.iconst 1, 1) := by decide +kernel
theorem dX4_tightenTerm_71 : decode cX4_tightenTerm 71 = .ok (.goto 4, 3) := by decide +kernel
theorem dX4_tightenTerm_74 : decode cX4_tightenTerm 74 = .ok (.iconst 0, 1) := by decide +kernel
theorem dX4_tightenTerm_75 : decode cX4_tightenTerm 75 = .ok (.iload_n 3, 1) := by decide +kernel
theorem dX4_tightenTerm_76 : decode cX4_tightenTerm 76 = .ok (.if_icmp .eq 7, 3) := by decide +kernel
theorem dX4_tightenTerm_79 : decode cX4_tightenTerm 79 = .ok (.iconst 1, 1) := by decide +kernel
theorem dX4_tightenTerm_80 : decode cX4_tightenTerm 80 = .ok (.goto 4, 3) := by decide +kernel
theorem dX4_tightenTerm_83 : decode cX4_tightenTerm 83 = .ok (.iconst 0, 1) := by decide +kernel
theorem dX4_tightenTerm_84 : decode cX4_tightenTerm 84 = .ok (.lload 6, 2) := by decide +kernel
theorem dX4_tightenTerm_86 : decode cX4_tightenTerm 86 = .ok (.lload 4, 2) := by decide +kernel
theorem dX4_tightenTerm_88 : decode cX4_tightenTerm 88 = .ok (.iload 8, 2) := by decide +kernel
theorem dX4_tightenTerm_90 : decode cX4_tightenTerm 90 = .ok (.invokevirtual 90, 3) := by decide +kernel
theorem dX4_tightenTerm_93 : decode cX4_tightenTerm 93 = .ok (.ireturn, 1) := by decide +kernel
theorem dX4_tighten_0 : decode cX4_tighten 0 = .ok (.aload_n 0, 1) := by decide +kernel
theorem dX4_tighten_1 : decode cX4_tighten 1 = .ok (.getfield 21, 3) := by decide +kernel
theorem dX4_tighten_4 : decode cX4_tighten 4 = .ok (.getfield 48, 3) := by decide +kernel
theorem dX4_tighten_7 : decode cX4_tighten 7 = .ok (.iload_n 1, 1) := by decide +kernel
theorem dX4_tighten_8 : decode cX4_tighten 8 = .ok (.iaload, 1) := by decide +kernel
theorem dX4_tighten_9 : decode cX4_tighten 9 = .ok (.iconst 1, 1) := by decide +kernel
theorem dX4_tighten_10 : decode cX4_tighten 10 = .ok (.if_icmp .ne 7, 3) := by decide +kernel
theorem dX4_tighten_13 : decode cX4_tighten 13 = .ok (.iconst 1, 1) := by decide +kernel
theorem dX4_tighten_14 : decode cX4_tighten 14 = .ok (.goto 4, 3) := by decide +kernel
theorem dX4_tighten_17 : decode cX4_tighten 17 = .ok (.iconst 0, 1) := by decide +kernel
theorem dX4_tighten_18 : decode cX4_tighten 18 = .ok (.istore_n 2, 1) := by decide +kernel
theorem dX4_tighten_19 : decode cX4_tighten 19 = .ok (.iconst 0, 1) := by decide +kernel
theorem dX4_tighten_20 : decode cX4_tighten 20 = .ok (.istore_n 3, 1) := by decide +kernel
theorem dX4_tighten_21 : decode cX4_tighten 21 = .ok (.iload_n 3, 1) := by decide +kernel
theorem dX4_tighten_22 : decode cX4_tighten 22 = .ok (.aload_n 0, 1) := by decide +kernel
theorem dX4_tighten_23 : decode cX4_tighten 23 = .ok (.getfield 21, 3) := by decide +kernel
theorem dX4_tighten_26 : decode cX4_tighten 26 = .ok (.getfield 69, 3) := by decide +kernel
theorem dX4_tighten_29 : decode cX4_tighten 29 = .ok (.if_icmp .ge 51, 3) := by decide +kernel
theorem dX4_tighten_32 : decode cX4_tighten 32 = .ok (.aload_n 0, 1) := by decide +kernel
theorem dX4_tighten_33 : decode cX4_tighten 33 = .ok (.getfield 21, 3) := by decide +kernel
theorem dX4_tighten_36 : decode cX4_tighten 36 = .ok (.getfield 55, 3) := by decide +kernel
theorem dX4_tighten_39 : decode cX4_tighten 39 = .ok (.iload_n 1, 1) := by decide +kernel
theorem dX4_tighten_40 : decode cX4_tighten 40 = .ok (.aaload, 1) := by decide +kernel
theorem dX4_tighten_41 : decode cX4_tighten 41 = .ok (.iload_n 3, 1) := by decide +kernel
theorem dX4_tighten_42 : decode cX4_tighten 42 = .ok (.laload, 1) := by decide +kernel
theorem dX4_tighten_43 : decode cX4_tighten 43 = .ok (.lconst 0, 1) := by decide +kernel
theorem dX4_tighten_44 : decode cX4_tighten 44 = .ok (.lcmp, 1) := by decide +kernel
theorem dX4_tighten_45 : decode cX4_tighten 45 = .ok (.ifCond .eq 29, 3) := by decide +kernel
theorem dX4_tighten_48 : decode cX4_tighten 48 = .ok (.aload_n 0, 1) := by decide +kernel
theorem dX4_tighten_49 : decode cX4_tighten 49 = .ok (.iload_n 1, 1) := by decide +kernel
theorem dX4_tighten_50 : decode cX4_tighten 50 = .ok (.iload_n 3, 1) := by decide +kernel
theorem dX4_tighten_51 : decode cX4_tighten 51 = .ok (.iconst 0, 1) := by decide +kernel
theorem dX4_tighten_52 : decode cX4_tighten 52 = .ok (.invokevirtual 112, 3) := by decide +kernel
theorem dX4_tighten_55 : decode cX4_tighten 55 = .ok (.ifCond .eq 17, 3) := by decide +kernel
theorem dX4_tighten_58 : decode cX4_tighten 58 = .ok (.iload_n 2, 1) := by decide +kernel
theorem dX4_tighten_59 : decode cX4_tighten 59 = .ok (.ifCond .eq 15, 3) := by decide +kernel
theorem dX4_tighten_62 : decode cX4_tighten 62 = .ok (.aload_n 0, 1) := by decide +kernel
theorem dX4_tighten_63 : decode cX4_tighten 63 = .ok (.iload_n 1, 1) := by decide +kernel
theorem dX4_tighten_64 : decode cX4_tighten 64 = .ok (.iload_n 3, 1) := by decide +kernel
theorem dX4_tighten_65 : decode cX4_tighten 65 = .ok (.iconst 1, 1) := by decide +kernel
theorem dX4_tighten_66 : decode cX4_tighten 66 = .ok (.invokevirtual 112, 3) := by decide +kernel
theorem dX4_tighten_69 : decode cX4_tighten 69 = .ok (.ifCond .ne 5, 3) := by decide +kernel
theorem dX4_tighten_72 : decode cX4_tighten 72 = .ok (.iconst 0, 1) := by decide +kernel
theorem dX4_tighten_73 : decode cX4_tighten 73 = .ok (.ireturn, 1) := by decide +kernel
theorem dX4_tighten_74 : decode cX4_tighten 74 = .ok (.iinc 3 1, 3) := by decide +kernel
theorem dX4_tighten_77 : decode cX4_tighten 77 = .ok (.goto (-56), 3) := by decide +kernel
theorem dX4_tighten_80 : decode cX4_tighten 80 = .ok (.iconst 1, 1) := by decide +kernel
theorem dX4_tighten_81 : decode cX4_tighten 81 = .ok (.ireturn, 1) := by decide +kernel
theorem dX4_areTimes_0 : decode cX4_areTimes 0 = .ok (.iconst 0, 1) := by decide +kernel
theorem dX4_areTimes_1 : decode cX4_areTimes 1 = .ok (.istore 4, 2) := by decide +kernel
theorem dX4_areTimes_3 : decode cX4_areTimes 3 = .ok (.iload 4, 2) := by decide +kernel
theorem dX4_areTimes_5 : decode cX4_areTimes 5 = .ok (.aload_n 0, 1) := by decide +kernel
theorem dX4_areTimes_6 : decode cX4_areTimes 6 = .ok (.getfield 21, 3) := by decide +kernel
theorem dX4_areTimes_9 : decode cX4_areTimes 9 = .ok (.getfield 69, 3) := by decide +kernel
theorem dX4_areTimes_12 : decode cX4_areTimes 12 = .ok (.if_icmp .ge 42, 3) := by decide +kernel
theorem dX4_areTimes_15 : decode cX4_areTimes 15 = .ok (.aload_n 0, 1) := by decide +kernel
theorem dX4_areTimes_16 : decode cX4_areTimes 16 = .ok (.getfield 21, 3) := by decide +kernel
theorem dX4_areTimes_19 : decode cX4_areTimes 19 = .ok (.getfield 55, 3) := by decide +kernel
theorem dX4_areTimes_22 : decode cX4_areTimes 22 = .ok (.iload_n 1, 1) := by decide +kernel
theorem dX4_areTimes_23 : decode cX4_areTimes 23 = .ok (.aaload, 1) := by decide +kernel
theorem dX4_areTimes_24 : decode cX4_areTimes 24 = .ok (.iload 4, 2) := by decide +kernel
theorem dX4_areTimes_26 : decode cX4_areTimes 26 = .ok (.laload, 1) := by decide +kernel
theorem dX4_areTimes_27 : decode cX4_areTimes 27 = .ok (.iload_n 3, 1) := by decide +kernel
theorem dX4_areTimes_28 : decode cX4_areTimes 28 = .ok (.i2l, 1) := by decide +kernel
theorem dX4_areTimes_29 : decode cX4_areTimes 29 = .ok (.aload_n 0, 1) := by decide +kernel
theorem dX4_areTimes_30 : decode cX4_areTimes 30 = .ok (.getfield 21, 3) := by decide +kernel
theorem dX4_areTimes_33 : decode cX4_areTimes 33 = .ok (.getfield 55, 3) := by decide +kernel
theorem dX4_areTimes_36 : decode cX4_areTimes 36 = .ok (.iload_n 2, 1) := by decide +kernel
theorem dX4_areTimes_37 : decode cX4_areTimes 37 = .ok (.aaload, 1) := by decide +kernel
theorem dX4_areTimes_38 : decode cX4_areTimes 38 = .ok (.iload 4, 2) := by decide +kernel
theorem dX4_areTimes_40 : decode cX4_areTimes 40 = .ok (.laload, 1) := by decide +kernel
theorem dX4_areTimes_41 : decode cX4_areTimes 41 = .ok (.lmul, 1) := by decide +kernel
theorem dX4_areTimes_42 : decode cX4_areTimes 42 = .ok (.lcmp, 1) := by decide +kernel
theorem dX4_areTimes_43 : decode cX4_areTimes 43 = .ok (.ifCond .eq 5, 3) := by decide +kernel
theorem dX4_areTimes_46 : decode cX4_areTimes 46 = .ok (.iconst 0, 1) := by decide +kernel
theorem dX4_areTimes_47 : decode cX4_areTimes 47 = .ok (.ireturn, 1) := by decide +kernel
theorem dX4_areTimes_48 : decode cX4_areTimes 48 = .ok (.iinc 4 1, 3) := by decide +kernel
theorem dX4_areTimes_51 : decode cX4_areTimes 51 = .ok (.goto (-48), 3) := by decide +kernel
theorem dX4_areTimes_54 : decode cX4_areTimes 54 = .ok (.iconst 1, 1) := by decide +kernel
theorem dX4_areTimes_55 : decode cX4_areTimes 55 = .ok (.ireturn, 1) := by decide +kernel
theorem dX4_leaveAlike_0 : decode cX4_leaveAlike 0 = .ok (.aload_n 0, 1) := by decide +kernel
theorem dX4_leaveAlike_1 : decode cX4_leaveAlike 1 = .ok (.getfield 21, 3) := by decide +kernel
theorem dX4_leaveAlike_4 : decode cX4_leaveAlike 4 = .ok (.getfield 51, 3) := by decide +kernel
theorem dX4_leaveAlike_7 : decode cX4_leaveAlike 7 = .ok (.iload_n 1, 1) := by decide +kernel
theorem dX4_leaveAlike_8 : decode cX4_leaveAlike 8 = .ok (.laload, 1) := by decide +kernel
theorem dX4_leaveAlike_9 : decode cX4_leaveAlike 9 = .ok (.lstore_n 3, 1) := by decide +kernel
theorem dX4_leaveAlike_10 : decode cX4_leaveAlike 10 = .ok (.aload_n 0, 1) := by decide +kernel
theorem dX4_leaveAlike_11 : decode cX4_leaveAlike 11 = .ok (.getfield 21, 3) := by decide +kernel
theorem dX4_leaveAlike_14 : decode cX4_leaveAlike 14 = .ok (.getfield 51, 3) := by decide +kernel
theorem dX4_leaveAlike_17 : decode cX4_leaveAlike 17 = .ok (.iload_n 2, 1) := by decide +kernel
theorem dX4_leaveAlike_18 : decode cX4_leaveAlike 18 = .ok (.laload, 1) := by decide +kernel
theorem dX4_leaveAlike_19 : decode cX4_leaveAlike 19 = .ok (.lstore 5, 2) := by decide +kernel
theorem dX4_leaveAlike_21 : decode cX4_leaveAlike 21 = .ok (.aload_n 0, 1) := by decide +kernel
theorem dX4_leaveAlike_22 : decode cX4_leaveAlike 22 = .ok (.getfield 21, 3) := by decide +kernel
theorem dX4_leaveAlike_25 : decode cX4_leaveAlike 25 = .ok (.getfield 48, 3) := by decide +kernel
theorem dX4_leaveAlike_28 : decode cX4_leaveAlike 28 = .ok (.iload_n 1, 1) := by decide +kernel
theorem dX4_leaveAlike_29 : decode cX4_leaveAlike 29 = .ok (.iaload, 1) := by decide +kernel
theorem dX4_leaveAlike_30 : decode cX4_leaveAlike 30 = .ok (.ifCond .ne 36, 3) := by decide +kernel
theorem dX4_leaveAlike_33 : decode cX4_leaveAlike 33 = .ok (.aload_n 0, 1) := by decide +kernel
theorem dX4_leaveAlike_34 : decode cX4_leaveAlike 34 = .ok (.getfield 21, 3) := by decide +kernel
theorem dX4_leaveAlike_37 : decode cX4_leaveAlike 37 = .ok (.getfield 48, 3) := by decide +kernel
theorem dX4_leaveAlike_40 : decode cX4_leaveAlike 40 = .ok (.iload_n 2, 1) := by decide +kernel
theorem dX4_leaveAlike_41 : decode cX4_leaveAlike 41 = .ok (.iaload, 1) := by decide +kernel
theorem dX4_leaveAlike_42 : decode cX4_leaveAlike 42 = .ok (.ifCond .ne 24, 3) := by decide +kernel
theorem dX4_leaveAlike_45 : decode cX4_leaveAlike 45 = .ok (.aload_n 0, 1) := by decide +kernel
theorem dX4_leaveAlike_46 : decode cX4_leaveAlike 46 = .ok (.getfield 9, 3) := by decide +kernel
theorem dX4_leaveAlike_49 : decode cX4_leaveAlike 49 = .ok (.lload_n 3, 1) := by decide +kernel
theorem dX4_leaveAlike_50 : decode cX4_leaveAlike 50 = .ok (.lload 5, 2) := by decide +kernel
theorem dX4_leaveAlike_52 : decode cX4_leaveAlike 52 = .ok (.lcmp, 1) := by decide +kernel
theorem dX4_leaveAlike_53 : decode cX4_leaveAlike 53 = .ok (.ifCond .le 7, 3) := by decide +kernel
theorem dX4_leaveAlike_56 : decode cX4_leaveAlike 56 = .ok (.iload_n 1, 1) := by decide +kernel
theorem dX4_leaveAlike_57 : decode cX4_leaveAlike 57 = .ok (.goto 4, 3) := by decide +kernel
theorem dX4_leaveAlike_60 : decode cX4_leaveAlike 60 = .ok (.iload_n 2, 1) := by decide +kernel
theorem dX4_leaveAlike_61 : decode cX4_leaveAlike 61 = .ok (.invokevirtual 40, 3) := by decide +kernel
theorem dX4_leaveAlike_64 : decode cX4_leaveAlike 64 = .ok (.iconst 1, 1) := by decide +kernel
theorem dX4_leaveAlike_65 : decode cX4_leaveAlike 65 = .ok (.ireturn, 1) := by decide +kernel
theorem dX4_leaveAlike_66 : decode cX4_leaveAlike 66 = .ok (.aload_n 0, 1) := by decide +kernel
theorem dX4_leaveAlike_67 : decode cX4_leaveAlike 67 = .ok (.getfield 21, 3) := by decide +kernel
theorem dX4_leaveAlike_70 : decode cX4_leaveAlike 70 = .ok (.getfield 48, 3) := by decide +kernel
theorem dX4_leaveAlike_73 : decode cX4_leaveAlike 73 = .ok (.iload_n 1, 1) := by decide +kernel
theorem dX4_leaveAlike_74 : decode cX4_leaveAlike 74 = .ok (.iaload, 1) := by decide +kernel
theorem dX4_leaveAlike_75 : decode cX4_leaveAlike 75 = .ok (.ifCond .ne 20, 3) := by decide +kernel
theorem dX4_leaveAlike_78 : decode cX4_leaveAlike 78 = .ok (.lload_n 3, 1) := by decide +kernel
theorem dX4_leaveAlike_79 : decode cX4_leaveAlike 79 = .ok (.lload 5, 2) := by decide +kernel
theorem dX4_leaveAlike_81 : decode cX4_leaveAlike 81 = .ok (.lcmp, 1) := by decide +kernel
theorem dX4_leaveAlike_82 : decode cX4_leaveAlike 82 = .ok (.ifCond .lt 7, 3) := by decide +kernel
theorem dX4_leaveAlike_85 : decode cX4_leaveAlike 85 = .ok (.iconst 1, 1) := by decide +kernel
theorem dX4_leaveAlike_86 : decode cX4_leaveAlike 86 = .ok (.goto 4, 3) := by decide +kernel
theorem dX4_leaveAlike_89 : decode cX4_leaveAlike 89 = .ok (.iconst 0, 1) := by decide +kernel
theorem dX4_leaveAlike_90 : decode cX4_leaveAlike 90 = .ok (.istore 7, 2) := by decide +kernel
theorem dX4_leaveAlike_92 : decode cX4_leaveAlike 92 = .ok (.goto 46, 3) := by decide +kernel
theorem dX4_leaveAlike_95 : decode cX4_leaveAlike 95 = .ok (.aload_n 0, 1) := by decide +kernel
theorem dX4_leaveAlike_96 : decode cX4_leaveAlike 96 = .ok (.getfield 21, 3) := by decide +kernel
theorem dX4_leaveAlike_99 : decode cX4_leaveAlike 99 = .ok (.getfield 48, 3) := by decide +kernel
theorem dX4_leaveAlike_102 : decode cX4_leaveAlike 102 = .ok (.iload_n 2, 1) := by decide +kernel
theorem dX4_leaveAlike_103 : decode cX4_leaveAlike 103 = .ok (.iaload, 1) := by decide +kernel
theorem dX4_leaveAlike_104 : decode cX4_leaveAlike 104 = .ok (.ifCond .ne 20, 3) := by decide +kernel
theorem dX4_leaveAlike_107 : decode cX4_leaveAlike 107 = .ok (.lload 5, 2) := by decide +kernel
theorem dX4_leaveAlike_109 : decode cX4_leaveAlike 109 = .ok (.lload_n 3, 1) := by decide +kernel
theorem dX4_leaveAlike_110 : decode cX4_leaveAlike 110 = .ok (.lcmp, 1) := by decide +kernel
theorem dX4_leaveAlike_111 : decode cX4_leaveAlike 111 = .ok (.ifCond .lt 7, 3) := by decide +kernel
theorem dX4_leaveAlike_114 : decode cX4_leaveAlike 114 = .ok (.iconst 1, 1) := by decide +kernel
theorem dX4_leaveAlike_115 : decode cX4_leaveAlike 115 = .ok (.goto 4, 3) := by decide +kernel
theorem dX4_leaveAlike_118 : decode cX4_leaveAlike 118 = .ok (.iconst 0, 1) := by decide +kernel
theorem dX4_leaveAlike_119 : decode cX4_leaveAlike 119 = .ok (.istore 7, 2) := by decide +kernel
theorem dX4_leaveAlike_121 : decode cX4_leaveAlike 121 = .ok (.goto 17, 3) := by decide +kernel
theorem dX4_leaveAlike_124 : decode cX4_leaveAlike 124 = .ok (.lload_n 3, 1) := by decide +kernel
theorem dX4_leaveAlike_125 : decode cX4_leaveAlike 125 = .ok (.lload 5, 2) := by decide +kernel
theorem dX4_leaveAlike_127 : decode cX4_leaveAlike 127 = .ok (.lcmp, 1) := by decide +kernel
theorem dX4_leaveAlike_128 : decode cX4_leaveAlike 128 = .ok (.ifCond .ne 7, 3) := by decide +kernel
theorem dX4_leaveAlike_131 : decode cX4_leaveAlike 131 = .ok (.iconst 1, 1) := by decide +kernel
theorem dX4_leaveAlike_132 : decode cX4_leaveAlike 132 = .ok (.goto 4, 3) := by decide +kernel
theorem dX4_leaveAlike_135 : decode cX4_leaveAlike 135 = .ok (.iconst 0, 1) := by decide +kernel
theorem dX4_leaveAlike_136 : decode cX4_leaveAlike 136 = .ok (.istore 7, 2) := by decide +kernel
theorem dX4_leaveAlike_138 : decode cX4_leaveAlike 138 = .ok (.iload 7, 2) := by decide +kernel
theorem dX4_leaveAlike_140 : decode cX4_leaveAlike 140 = .ok (.ifCond .ne 30, 3) := by decide +kernel
theorem dX4_leaveAlike_143 : decode cX4_leaveAlike 143 = .ok (.aload_n 0, 1) := by decide +kernel
theorem dX4_leaveAlike_144 : decode cX4_leaveAlike 144 = .ok (.getfield 9, 3) := by decide +kernel
theorem dX4_leaveAlike_147 : decode cX4_leaveAlike 147 = .ok (.aload_n 0, 1) := by decide +kernel
theorem dX4_leaveAlike_148 : decode cX4_leaveAlike 148 = .ok (.getfield 9, 3) := by decide +kernel
theorem dX4_leaveAlike_151 : decode cX4_leaveAlike 151 = .ok (.getfield 32, 3) := by decide +kernel
theorem dX4_leaveAlike_154 : decode cX4_leaveAlike 154 = .ok (.iload_n 1, 1) := by decide +kernel
theorem dX4_leaveAlike_155 : decode cX4_leaveAlike 155 = .ok (.iaload, 1) := by decide +kernel
theorem dX4_leaveAlike_156 : decode cX4_leaveAlike 156 = .ok (.aload_n 0, 1) := by decide +kernel
theorem dX4_leaveAlike_157 : decode cX4_leaveAlike 157 = .ok (.getfield 9, 3) := by decide +kernel
theorem dX4_leaveAlike_160 : decode cX4_leaveAlike 160 = .ok (.getfield 32, 3) := by decide +kernel
theorem dX4_leaveAlike_163 : decode cX4_leaveAlike 163 = .ok (.iload_n 2, 1) := by decide +kernel
theorem dX4_leaveAlike_164 : decode cX4_leaveAlike 164 = .ok (.iaload, 1) := by decide +kernel
theorem dX4_leaveAlike_165 : decode cX4_leaveAlike 165 = .ok (.ior, 1) := by decide +kernel
theorem dX4_leaveAlike_166 : decode cX4_leaveAlike 166 = .ok (.invokevirtual 36, 3) := by decide +kernel
theorem dX4_leaveAlike_169 : decode cX4_leaveAlike 169 = .ok (.ireturn, 1) := by decide +kernel
theorem dX4_leaveAlike_170 : decode cX4_leaveAlike 170 = .ok (.aload_n 0, 1) := by decide +kernel
theorem dX4_leaveAlike_171 : decode cX4_leaveAlike 171 = .ok (.getfield 9, 3) := by decide +kernel
theorem dX4_leaveAlike_174 : decode cX4_leaveAlike 174 = .ok (.aload_n 0, 1) := by decide +kernel
theorem dX4_leaveAlike_175 : decode cX4_leaveAlike 175 = .ok (.getfield 21, 3) := by decide +kernel
theorem dX4_leaveAlike_178 : decode cX4_leaveAlike 178 = .ok (.getfield 48, 3) := by decide +kernel
theorem dX4_leaveAlike_181 : decode cX4_leaveAlike 181 = .ok (.iload_n 1, 1) := by decide +kernel
theorem dX4_leaveAlike_182 : decode cX4_leaveAlike 182 = .ok (.iaload, 1) := by decide +kernel
theorem dX4_leaveAlike_183 : decode cX4_leaveAlike 183 = .ok (.ifCond .ne 7, 3) := by decide +kernel
theorem dX4_leaveAlike_186 : decode cX4_leaveAlike 186 = .ok (.iload_n 1, 1) := by decide +kernel
theorem dX4_leaveAlike_187 : decode cX4_leaveAlike 187 = .ok (.goto 4, 3) := by decide +kernel
theorem dX4_leaveAlike_190 : decode cX4_leaveAlike 190 = .ok (.iload_n 2, 1) := by decide +kernel
theorem dX4_leaveAlike_191 : decode cX4_leaveAlike 191 = .ok (.invokevirtual 40, 3) := by decide +kernel
theorem dX4_leaveAlike_194 : decode cX4_leaveAlike 194 = .ok (.iconst 1, 1) := by decide +kernel
theorem dX4_leaveAlike_195 : decode cX4_leaveAlike 195 = .ok (.ireturn, 1) := by decide +kernel
theorem dX4_joinTurned_0 : decode cX4_joinTurned 0 = .ok (.aload_n 0, 1) := by decide +kernel
theorem dX4_joinTurned_1 : decode cX4_joinTurned 1 = .ok (.getfield 21, 3) := by decide +kernel
theorem dX4_joinTurned_4 : decode cX4_joinTurned 4 = .ok (.getfield 51, 3) := by decide +kernel
theorem dX4_joinTurned_7 : decode cX4_joinTurned 7 = .ok (.iload_n 1, 1) := by decide +kernel
theorem dX4_joinTurned_8 : decode cX4_joinTurned 8 = .ok (.laload, 1) := by decide +kernel
theorem dX4_joinTurned_9 : decode cX4_joinTurned 9 = .ok (.aload_n 0, 1) := by decide +kernel
theorem dX4_joinTurned_10 : decode cX4_joinTurned 10 = .ok (.getfield 21, 3) := by decide +kernel
theorem dX4_joinTurned_13 : decode cX4_joinTurned 13 = .ok (.getfield 51, 3) := by decide +kernel
theorem dX4_joinTurned_16 : decode cX4_joinTurned 16 = .ok (.iload_n 2, 1) := by decide +kernel
theorem dX4_joinTurned_17 : decode cX4_joinTurned 17 = .ok (.laload, 1) := by decide +kernel
theorem dX4_joinTurned_18 : decode cX4_joinTurned 18 = .ok (.ladd, 1) := by decide +kernel
theorem dX4_joinTurned_19 : decode cX4_joinTurned 19 = .ok (.lstore_n 3, 1) := by decide +kernel
theorem dX4_joinTurned_20 : decode cX4_joinTurned 20 = .ok (.lload_n 3, 1) := by decide +kernel
theorem dX4_joinTurned_21 : decode cX4_joinTurned 21 = .ok (.lconst 0, 1) := by decide +kernel
theorem dX4_joinTurned_22 : decode cX4_joinTurned 22 = .ok (.lcmp, 1) := by decide +kernel
theorem dX4_joinTurned_23 : decode cX4_joinTurned 23 = .ok (.ifCond .ge 30, 3) := by decide +kernel
theorem dX4_joinTurned_26 : decode cX4_joinTurned 26 = .ok (.aload_n 0, 1) := by decide +kernel
theorem dX4_joinTurned_27 : decode cX4_joinTurned 27 = .ok (.getfield 9, 3) := by decide +kernel
theorem dX4_joinTurned_30 : decode cX4_joinTurned 30 = .ok (.aload_n 0, 1) := by decide +kernel
theorem dX4_joinTurned_31 : decode cX4_joinTurned 31 = .ok (.getfield 9, 3) := by decide +kernel
theorem dX4_joinTurned_34 : decode cX4_joinTurned 34 = .ok (.getfield 32, 3) := by decide +kernel
theorem dX4_joinTurned_37 : decode cX4_joinTurned 37 = .ok (.iload_n 1, 1) := by decide +kernel
theorem dX4_joinTurned_38 : decode cX4_joinTurned 38 = .ok (.iaload, 1) := by decide +kernel
theorem dX4_joinTurned_39 : decode cX4_joinTurned 39 = .ok (.aload_n 0, 1) := by decide +kernel
theorem dX4_joinTurned_40 : decode cX4_joinTurned 40 = .ok (.getfield 9, 3) := by decide +kernel
theorem dX4_joinTurned_43 : decode cX4_joinTurned 43 = .ok (.getfield 32, 3) := by decide +kernel
theorem dX4_joinTurned_46 : decode cX4_joinTurned 46 = .ok (.iload_n 2, 1) := by decide +kernel
theorem dX4_joinTurned_47 : decode cX4_joinTurned 47 = .ok (.iaload, 1) := by decide +kernel
theorem dX4_joinTurned_48 : decode cX4_joinTurned 48 = .ok (.ior, 1) := by decide +kernel
theorem dX4_joinTurned_49 : decode cX4_joinTurned 49 = .ok (.invokevirtual 36, 3) := by decide +kernel
theorem dX4_joinTurned_52 : decode cX4_joinTurned 52 = .ok (.ireturn, 1) := by decide +kernel
theorem dX4_joinTurned_53 : decode cX4_joinTurned 53 = .ok (.lload_n 3, 1) := by decide +kernel
theorem dX4_joinTurned_54 : decode cX4_joinTurned 54 = .ok (.lconst 0, 1) := by decide +kernel
theorem dX4_joinTurned_55 : decode cX4_joinTurned 55 = .ok (.lcmp, 1) := by decide +kernel
theorem dX4_joinTurned_56 : decode cX4_joinTurned 56 = .ok (.ifCond .ne 50, 3) := by decide +kernel
theorem dX4_joinTurned_59 : decode cX4_joinTurned 59 = .ok (.aload_n 0, 1) := by decide +kernel
theorem dX4_joinTurned_60 : decode cX4_joinTurned 60 = .ok (.getfield 21, 3) := by decide +kernel
theorem dX4_joinTurned_63 : decode cX4_joinTurned 63 = .ok (.getfield 48, 3) := by decide +kernel
theorem dX4_joinTurned_66 : decode cX4_joinTurned 66 = .ok (.iload_n 1, 1) := by decide +kernel
theorem dX4_joinTurned_67 : decode cX4_joinTurned 67 = .ok (.iconst 1, 1) := by decide +kernel
theorem dX4_joinTurned_68 : decode cX4_joinTurned 68 = .ok (.iastore, 1) := by decide +kernel
theorem dX4_joinTurned_69 : decode cX4_joinTurned 69 = .ok (.aload_n 0, 1) := by decide +kernel
theorem dX4_joinTurned_70 : decode cX4_joinTurned 70 = .ok (.getfield 9, 3) := by decide +kernel
theorem dX4_joinTurned_73 : decode cX4_joinTurned 73 = .ok (.getfield 32, 3) := by decide +kernel
theorem dX4_joinTurned_76 : decode cX4_joinTurned 76 = .ok (.iload_n 1, 1) := by decide +kernel
theorem dX4_joinTurned_77 : decode cX4_joinTurned 77 = .ok (.dup2, 1) := by decide +kernel
theorem dX4_joinTurned_78 : decode cX4_joinTurned 78 = .ok (.iaload, 1) := by decide +kernel
theorem dX4_joinTurned_79 : decode cX4_joinTurned 79 = .ok (.aload_n 0, 1) := by decide +kernel
theorem dX4_joinTurned_80 : decode cX4_joinTurned 80 = .ok (.getfield 9, 3) := by decide +kernel
theorem dX4_joinTurned_83 : decode cX4_joinTurned 83 = .ok (.getfield 32, 3) := by decide +kernel
theorem dX4_joinTurned_86 : decode cX4_joinTurned 86 = .ok (.iload_n 2, 1) := by decide +kernel
theorem dX4_joinTurned_87 : decode cX4_joinTurned 87 = .ok (.iaload, 1) := by decide +kernel
theorem dX4_joinTurned_88 : decode cX4_joinTurned 88 = .ok (.ior, 1) := by decide +kernel
theorem dX4_joinTurned_89 : decode cX4_joinTurned 89 = .ok (.iastore, 1) := by decide +kernel
theorem dX4_joinTurned_90 : decode cX4_joinTurned 90 = .ok (.aload_n 0, 1) := by decide +kernel
theorem dX4_joinTurned_91 : decode cX4_joinTurned 91 = .ok (.getfield 9, 3) := by decide +kernel
theorem dX4_joinTurned_94 : decode cX4_joinTurned 94 = .ok (.iload_n 1, 1) := by decide +kernel
theorem dX4_joinTurned_95 : decode cX4_joinTurned 95 = .ok (.invokevirtual 66, 3) := by decide +kernel
theorem dX4_joinTurned_98 : decode cX4_joinTurned 98 = .ok (.aload_n 0, 1) := by decide +kernel
theorem dX4_joinTurned_99 : decode cX4_joinTurned 99 = .ok (.getfield 9, 3) := by decide +kernel
theorem dX4_joinTurned_102 : decode cX4_joinTurned 102 = .ok (.iload_n 2, 1) := by decide +kernel
theorem dX4_joinTurned_103 : decode cX4_joinTurned 103 = .ok (.invokevirtual 40, 3) := by decide +kernel
theorem dX4_joinTurned_106 : decode cX4_joinTurned 106 = .ok (.iconst 1, 1) := by decide +kernel
theorem dX4_joinTurned_107 : decode cX4_joinTurned 107 = .ok (.ireturn, 1) := by decide +kernel
theorem dX4_comparePair_0 : decode cX4_comparePair 0 = .ok (.aload_n 0, 1) := by decide +kernel
theorem dX4_comparePair_1 : decode cX4_comparePair 1 = .ok (.iload_n 1, 1) := by decide +kernel
theorem dX4_comparePair_2 : decode cX4_comparePair 2 = .ok (.iload_n 2, 1) := by decide +kernel
theorem dX4_comparePair_3 : decode cX4_comparePair 3 = .ok (.iconst 1, 1) := by decide +kernel
theorem dX4_comparePair_4 : decode cX4_comparePair 4 = .ok (.invokevirtual 126, 3) := by decide +kernel
theorem dX4_comparePair_7 : decode cX4_comparePair 7 = .ok (.ifCond .eq 10, 3) := by decide +kernel
theorem dX4_comparePair_10 : decode cX4_comparePair 10 = .ok (.aload_n 0, 1) := by decide +kernel
theorem dX4_comparePair_11 : decode cX4_comparePair 11 = .ok (.iload_n 1, 1) := by decide +kernel
theorem dX4_comparePair_12 : decode cX4_comparePair 12 = .ok (.iload_n 2, 1) := by decide +kernel
theorem dX4_comparePair_13 : decode cX4_comparePair 13 = .ok (.invokevirtual 130, 3) := by decide +kernel
theorem dX4_comparePair_16 : decode cX4_comparePair 16 = .ok (.ireturn, 1) := by decide +kernel
theorem dX4_comparePair_17 : decode cX4_comparePair 17 = .ok (.aload_n 0, 1) := by decide +kernel
theorem dX4_comparePair_18 : decode cX4_comparePair 18 = .ok (.getfield 21, 3) := by decide +kernel
theorem dX4_comparePair_21 : decode cX4_comparePair 21 = .ok (.getfield 48, 3) := by decide +kernel
theorem dX4_comparePair_24 : decode cX4_comparePair 24 = .ok (.iload_n 1, 1) := by decide +kernel
theorem dX4_comparePair_25 : decode cX4_comparePair 25 = .ok (.iaload, 1) := by decide +kernel
theorem dX4_comparePair_26 : decode cX4_comparePair 26 = .ok (.ifCond .ne 32, 3) := by decide +kernel
theorem dX4_comparePair_29 : decode cX4_comparePair 29 = .ok (.aload_n 0, 1) := by decide +kernel
theorem dX4_comparePair_30 : decode cX4_comparePair 30 = .ok (.getfield 21, 3) := by decide +kernel
theorem dX4_comparePair_33 : decode cX4_comparePair 33 = .ok (.getfield 48, 3) := by decide +kernel
theorem dX4_comparePair_36 : decode cX4_comparePair 36 = .ok (.iload_n 2, 1) := by decide +kernel
theorem dX4_comparePair_37 : decode cX4_comparePair 37 = .ok (.iaload, 1) := by decide +kernel
theorem dX4_comparePair_38 : decode cX4_comparePair 38 = .ok (.ifCond .ne 20, 3) := by decide +kernel
theorem dX4_comparePair_41 : decode cX4_comparePair 41 = .ok (.aload_n 0, 1) := by decide +kernel
theorem dX4_comparePair_42 : decode cX4_comparePair 42 = .ok (.iload_n 1, 1) := by decide +kernel
theorem dX4_comparePair_43 : decode cX4_comparePair 43 = .ok (.iload_n 2, 1) := by decide +kernel
theorem dX4_comparePair_44 : decode cX4_comparePair 44 = .ok (.iconst (-1), 1) := by decide +kernel
theorem dX4_comparePair_45 : decode cX4_comparePair 45 = .ok (.invokevirtual 126, 3) := by decide +kernel
theorem dX4_comparePair_48 : decode cX4_comparePair 48 = .ok (.ifCond .eq 10, 3) := by decide +kernel
theorem dX4_comparePair_51 : decode cX4_comparePair 51 = .ok (.aload_n 0, 1) := by decide +kernel
theorem dX4_comparePair_52 : decode cX4_comparePair 52 = .ok (.iload_n 1, 1) := by decide +kernel
theorem dX4_comparePair_53 : decode cX4_comparePair 53 = .ok (.iload_n 2, 1) := by decide +kernel
theorem dX4_comparePair_54 : decode cX4_comparePair 54 = .ok (.invokevirtual 133, 3) := by decide +kernel
theorem dX4_comparePair_57 : decode cX4_comparePair 57 = .ok (.ireturn, 1) := by decide +kernel
theorem dX4_comparePair_58 : decode cX4_comparePair 58 = .ok (.iconst 1, 1) := by decide +kernel
theorem dX4_comparePair_59 : decode cX4_comparePair 59 = .ok (.ireturn, 1) := by decide +kernel
theorem dX4_leaveTwins_0 : decode cX4_leaveTwins 0 = .ok (.aload_n 0, 1) := by decide +kernel
theorem dX4_leaveTwins_1 : decode cX4_leaveTwins 1 = .ok (.getfield 21, 3) := by decide +kernel
theorem dX4_leaveTwins_4 : decode cX4_leaveTwins 4 = .ok (.iload_n 1, 1) := by decide +kernel
theorem dX4_leaveTwins_5 : decode cX4_leaveTwins 5 = .ok (.iconst 0, 1) := by decide +kernel
theorem dX4_leaveTwins_6 : decode cX4_leaveTwins 6 = .ok (.invokevirtual 22, 3) := by decide +kernel
theorem dX4_leaveTwins_9 : decode cX4_leaveTwins 9 = .ok (.iconst (-1), 1) := by decide +kernel
theorem dX4_leaveTwins_10 : decode cX4_leaveTwins 10 = .ok (.if_icmp .ne 5, 3) := by decide +kernel
theorem dX4_leaveTwins_13 : decode cX4_leaveTwins 13 = .ok (.iconst 1, 1) := by decide +kernel
theorem dX4_leaveTwins_14 : decode cX4_leaveTwins 14 = .ok (.ireturn, 1) := by decide +kernel
theorem dX4_leaveTwins_15 : decode cX4_leaveTwins 15 = .ok (.iload_n 1, 1) := by decide +kernel
theorem dX4_leaveTwins_16 : decode cX4_leaveTwins 16 = .ok (.iconst 1, 1) := by decide +kernel
theorem dX4_leaveTwins_17 : decode cX4_leaveTwins 17 = .ok (.iadd, 1) := by decide +kernel
theorem dX4_leaveTwins_18 : decode cX4_leaveTwins 18 = .ok (.istore_n 2, 1) := by decide +kernel
theorem dX4_leaveTwins_19 : decode cX4_leaveTwins 19 = .ok (.iload_n 2, 1) := by decide +kernel
theorem dX4_leaveTwins_20 : decode cX4_leaveTwins 20 = .ok (.aload_n 0, 1) := by decide +kernel
theorem dX4_leaveTwins_21 : decode cX4_leaveTwins 21 = .ok (.getfield 21, 3) := by decide +kernel
theorem dX4_leaveTwins_24 : decode cX4_leaveTwins 24 = .ok (.getfield 116, 3) := by decide +kernel
theorem dX4_leaveTwins_27 : decode cX4_leaveTwins 27 = .ok (.if_icmp .ge 42, 3) := by decide +kernel
theorem dX4_leaveTwins_30 : decode cX4_leaveTwins 30 = .ok (.aload_n 0, 1) := by decide +kernel
theorem dX4_leaveTwins_31 : decode cX4_leaveTwins 31 = .ok (.getfield 21, 3) := by decide +kernel
theorem dX4_leaveTwins_34 : decode cX4_leaveTwins 34 = .ok (.iload_n 1, 1) := by decide +kernel
theorem dX4_leaveTwins_35 : decode cX4_leaveTwins 35 = .ok (.invokevirtual 119, 3) := by decide +kernel
theorem dX4_leaveTwins_38 : decode cX4_leaveTwins 38 = .ok (.ifCond .ne 31, 3) := by decide +kernel
theorem dX4_leaveTwins_41 : decode cX4_leaveTwins 41 = .ok (.aload_n 0, 1) := by decide +kernel
theorem dX4_leaveTwins_42 : decode cX4_leaveTwins 42 = .ok (.getfield 21, 3) := by decide +kernel
theorem dX4_leaveTwins_45 : decode cX4_leaveTwins 45 = .ok (.iload_n 2, 1) := by decide +kernel
theorem dX4_leaveTwins_46 : decode cX4_leaveTwins 46 = .ok (.invokevirtual 119, 3) := by decide +kernel
theorem dX4_leaveTwins_49 : decode cX4_leaveTwins 49 = .ok (.ifCond .ne 14, 3) := by decide +kernel
theorem dX4_leaveTwins_52 : decode cX4_leaveTwins 52 = .ok (.aload_n 0, 1) := by decide +kernel
theorem dX4_leaveTwins_53 : decode cX4_leaveTwins 53 = .ok (.iload_n 1, 1) := by decide +kernel
theorem dX4_leaveTwins_54 : decode cX4_leaveTwins 54 = .ok (.iload_n 2, 1) := by decide +kernel
theorem dX4_leaveTwins_55 : decode cX4_leaveTwins 55 = .ok (.invokevirtual 122, 3) := by decide +kernel
theorem dX4_leaveTwins_58 : decode cX4_leaveTwins 58 = .ok (.ifCond .ne 5, 3) := by decide +kernel
theorem dX4_leaveTwins_61 : decode cX4_leaveTwins 61 = .ok (.iconst 0, 1) := by decide +kernel
theorem dX4_leaveTwins_62 : decode cX4_leaveTwins 62 = .ok (.ireturn, 1) := by decide +kernel
theorem dX4_leaveTwins_63 : decode cX4_leaveTwins 63 = .ok (.iinc 2 1, 3) := by decide +kernel
theorem dX4_leaveTwins_66 : decode cX4_leaveTwins 66 = .ok (.goto (-47), 3) := by decide +kernel
theorem dX4_leaveTwins_69 : decode cX4_leaveTwins 69 = .ok (.iconst 1, 1) := by decide +kernel
theorem dX4_leaveTwins_70 : decode cX4_leaveTwins 70 = .ok (.ireturn, 1) := by decide +kernel
theorem dX4_makeTermLess_0 : decode cX4_makeTermLess 0 = .ok (.aload_n 0, 1) := by decide +kernel
theorem dX4_makeTermLess_1 : decode cX4_makeTermLess 1 = .ok (.getfield 21, 3) := by decide +kernel
theorem dX4_makeTermLess_4 : decode cX4_makeTermLess 4 = .ok (.getfield 55, 3) := by decide +kernel
theorem dX4_makeTermLess_7 : decode cX4_makeTermLess 7 = .ok (.iload_n 1, 1) := by decide +kernel
theorem dX4_makeTermLess_8 : decode cX4_makeTermLess 8 = .ok (.aaload, 1) := by decide +kernel
theorem dX4_makeTermLess_9 : decode cX4_makeTermLess 9 = .ok (.iload_n 2, 1) := by decide +kernel
theorem dX4_makeTermLess_10 : decode cX4_makeTermLess 10 = .ok (.laload, 1) := by decide +kernel
theorem dX4_makeTermLess_11 : decode cX4_makeTermLess 11 = .ok (.lstore_n 3, 1) := by decide +kernel
theorem dX4_makeTermLess_12 : decode cX4_makeTermLess 12 = .ok (.aload_n 0, 1) := by decide +kernel
theorem dX4_makeTermLess_13 : decode cX4_makeTermLess 13 = .ok (.getfield 21, 3) := by decide +kernel
theorem dX4_makeTermLess_16 : decode cX4_makeTermLess 16 = .ok (.getfield 51, 3) := by decide +kernel
theorem dX4_makeTermLess_19 : decode cX4_makeTermLess 19 = .ok (.iload_n 1, 1) := by decide +kernel
theorem dX4_makeTermLess_20 : decode cX4_makeTermLess 20 = .ok (.laload, 1) := by decide +kernel
theorem dX4_makeTermLess_21 : decode cX4_makeTermLess 21 = .ok (.lstore 5, 2) := by decide +kernel
theorem dX4_makeTermLess_23 : decode cX4_makeTermLess 23 = .ok (.aload_n 0, 1) := by decide +kernel
theorem dX4_makeTermLess_24 : decode cX4_makeTermLess 24 = .ok (.getfield 9, 3) := by decide +kernel
theorem dX4_makeTermLess_27 : decode cX4_makeTermLess 27 = .ok (.iload_n 1, 1) := by decide +kernel
theorem dX4_makeTermLess_28 : decode cX4_makeTermLess 28 = .ok (.iload_n 2, 1) := by decide +kernel
theorem dX4_makeTermLess_29 : decode cX4_makeTermLess 29 = .ok (.iconst 1, 1) := by decide +kernel
theorem dX4_makeTermLess_30 : decode cX4_makeTermLess 30 = .ok (.invokevirtual 94, 3) := by decide +kernel
theorem dX4_makeTermLess_33 : decode cX4_makeTermLess 33 = .ok (.lstore 7, 2) := by decide +kernel
theorem dX4_makeTermLess_35 : decode cX4_makeTermLess 35 = .ok (.lload_n 3, 1) := by decide +kernel
theorem dX4_makeTermLess_36 : decode cX4_makeTermLess 36 = .ok (.lconst 0, 1) := by decide +kernel
theorem dX4_makeTermLess_37 : decode cX4_makeTermLess 37 = .ok (.lcmp, 1) := by decide +kernel
theorem dX4_makeTermLess_38 : decode cX4_makeTermLess 38 = .ok (.ifCond .le 53, 3) := by decide +kernel
theorem dX4_makeTermLess_41 : decode cX4_makeTermLess 41 = .ok (.lload 7, 2) := by decide +kernel
theorem dX4_makeTermLess_43 : decode cX4_makeTermLess 43 = .ok (.lload 5, 2) := by decide +kernel
theorem dX4_makeTermLess_45 : decode cX4_makeTermLess 45 = .ok (.lcmp, 1) := by decide +kernel
theorem dX4_makeTermLess_46 : decode cX4_makeTermLess 46 = .ok (.ifCond .ge 45, 3) := by decide +kernel
theorem dX4_makeTermLess_49 : decode cX4_makeTermLess 49 = .ok (.lload 7, 2) := by decide +kernel
theorem dX4_makeTermLess_51 : decode cX4_makeTermLess 51 = .ok (.lload_n 3, 1) := by decide +kernel
theorem dX4_makeTermLess_52 : decode cX4_makeTermLess 52 = .ok (.ladd, 1) := by decide +kernel
theorem dX4_makeTermLess_53 : decode cX4_makeTermLess 53 = .ok (.lload 5, 2) := by decide +kernel
theorem dX4_makeTermLess_55 : decode cX4_makeTermLess 55 = .ok (.lcmp, 1) := by decide +kernel
theorem dX4_makeTermLess_56 : decode cX4_makeTermLess 56 = .ok (.ifCond .le 35, 3) := by decide +kernel
theorem dX4_makeTermLess_59 : decode cX4_makeTermLess 59 = .ok (.aload_n 0, 1) := by decide +kernel
theorem dX4_makeTermLess_60 : decode cX4_makeTermLess 60 = .ok (.getfield 21, 3) := by decide +kernel
theorem dX4_makeTermLess_63 : decode cX4_makeTermLess 63 = .ok (.getfield 55, 3) := by decide +kernel
theorem dX4_makeTermLess_66 : decode cX4_makeTermLess 66 = .ok (.iload_n 1, 1) := by decide +kernel
theorem dX4_makeTermLess_67 : decode cX4_makeTermLess 67 = .ok (.aaload, 1) := by decide +kernel
theorem dX4_makeTermLess_68 : decode cX4_makeTermLess 68 = .ok (.iload_n 2, 1) := by decide +kernel
theorem dX4_makeTermLess_69 : decode cX4_makeTermLess 69 = .ok (.lload_n 3, 1) := by decide +kernel
theorem dX4_makeTermLess_70 : decode cX4_makeTermLess 70 = .ok (.lload 5, 2) := by decide +kernel
theorem dX4_makeTermLess_72 : decode cX4_makeTermLess 72 = .ok (.lload 7, 2) := by decide +kernel
theorem dX4_makeTermLess_74 : decode cX4_makeTermLess 74 = .ok (.lsub, 1) := by decide +kernel
theorem dX4_makeTermLess_75 : decode cX4_makeTermLess 75 = .ok (.lsub, 1) := by decide +kernel
theorem dX4_makeTermLess_76 : decode cX4_makeTermLess 76 = .ok (.lastore, 1) := by decide +kernel
theorem dX4_makeTermLess_77 : decode cX4_makeTermLess 77 = .ok (.aload_n 0, 1) := by decide +kernel
theorem dX4_makeTermLess_78 : decode cX4_makeTermLess 78 = .ok (.getfield 21, 3) := by decide +kernel
theorem dX4_makeTermLess_81 : decode cX4_makeTermLess 81 = .ok (.getfield 51, 3) := by decide +kernel
theorem dX4_makeTermLess_84 : decode cX4_makeTermLess 84 = .ok (.iload_n 1, 1) := by decide +kernel
theorem dX4_makeTermLess_85 : decode cX4_makeTermLess 85 = .ok (.lload 7, 2) := by decide +kernel
theorem dX4_makeTermLess_87 : decode cX4_makeTermLess 87 = .ok (.lastore, 1) := by decide +kernel
theorem dX4_makeTermLess_88 : decode cX4_makeTermLess 88 = .ok (.goto 47, 3) := by decide +kernel
theorem dX4_makeTermLess_91 : decode cX4_makeTermLess 91 = .ok (.lload_n 3, 1) := by decide +kernel
theorem dX4_makeTermLess_92 : decode cX4_makeTermLess 92 = .ok (.lconst 0, 1) := by decide +kernel
theorem dX4_makeTermLess_93 : decode cX4_makeTermLess 93 = .ok (.lcmp, 1) := by decide +kernel
theorem dX4_makeTermLess_94 : decode cX4_makeTermLess 94 = .ok (.ifCond .ge 40, 3) := by decide +kernel
theorem dX4_makeTermLess_97 : decode cX4_makeTermLess 97 = .ok (.lload 7, 2) := by decide +kernel
theorem dX4_makeTermLess_99 : decode cX4_makeTermLess 99 = .ok (.lload_n 3, 1) := by decide +kernel
theorem dX4_makeTermLess_100 : decode cX4_makeTermLess 100 = .ok (.ladd, 1) := by decide +kernel
theorem dX4_makeTermLess_101 : decode cX4_makeTermLess 101 = .ok (.lload 5, 2) := by decide +kernel
theorem dX4_makeTermLess_103 : decode cX4_makeTermLess 103 = .ok (.lcmp, 1) := by decide +kernel
theorem dX4_makeTermLess_104 : decode cX4_makeTermLess 104 = .ok (.ifCond .ge 30, 3) := by decide +kernel
theorem dX4_makeTermLess_107 : decode cX4_makeTermLess 107 = .ok (.lload 7, 2) := by decide +kernel
theorem dX4_makeTermLess_109 : decode cX4_makeTermLess 109 = .ok (.lload 5, 2) := by decide +kernel
theorem dX4_makeTermLess_111 : decode cX4_makeTermLess 111 = .ok (.lcmp, 1) := by decide +kernel
theorem dX4_makeTermLess_112 : decode cX4_makeTermLess 112 = .ok (.ifCond .le 22, 3) := by decide +kernel
theorem dX4_makeTermLess_115 : decode cX4_makeTermLess 115 = .ok (.aload_n 0, 1) := by decide +kernel
theorem dX4_makeTermLess_116 : decode cX4_makeTermLess 116 = .ok (.getfield 21, 3) := by decide +kernel
theorem dX4_makeTermLess_119 : decode cX4_makeTermLess 119 = .ok (.getfield 55, 3) := by decide +kernel
theorem dX4_makeTermLess_122 : decode cX4_makeTermLess 122 = .ok (.iload_n 1, 1) := by decide +kernel
theorem dX4_makeTermLess_123 : decode cX4_makeTermLess 123 = .ok (.aaload, 1) := by decide +kernel
theorem dX4_makeTermLess_124 : decode cX4_makeTermLess 124 = .ok (.iload_n 2, 1) := by decide +kernel
theorem dX4_makeTermLess_125 : decode cX4_makeTermLess 125 = .ok (.lload 5, 2) := by decide +kernel
theorem dX4_makeTermLess_127 : decode cX4_makeTermLess 127 = .ok (.lload 7, 2) := by decide +kernel
theorem dX4_makeTermLess_129 : decode cX4_makeTermLess 129 = .ok (.lsub, 1) := by decide +kernel
theorem dX4_makeTermLess_130 : decode cX4_makeTermLess 130 = .ok (.lastore, 1) := by decide +kernel
theorem dX4_makeTermLess_131 : decode cX4_makeTermLess 131 = .ok (.goto 4, 3) := by decide +kernel
theorem dX4_makeTermLess_134 : decode cX4_makeTermLess 134 = .ok (.return_, 1) := by decide +kernel
theorem dX4_makeTermLess_135 : decode cX4_makeTermLess 135 = .ok (.aload_n 0, 1) := by decide +kernel
theorem dX4_makeTermLess_136 : decode cX4_makeTermLess 136 = .ok (.getfield 9, 3) := by decide +kernel
theorem dX4_makeTermLess_139 : decode cX4_makeTermLess 139 = .ok (.getfield 32, 3) := by decide +kernel
theorem dX4_makeTermLess_142 : decode cX4_makeTermLess 142 = .ok (.iload_n 1, 1) := by decide +kernel
theorem dX4_makeTermLess_143 : decode cX4_makeTermLess 143 = .ok (.dup2, 1) := by decide +kernel
theorem dX4_makeTermLess_144 : decode cX4_makeTermLess 144 = .ok (.iaload, 1) := by decide +kernel
theorem dX4_makeTermLess_145 : decode cX4_makeTermLess 145 = .ok (.aload_n 0, 1) := by decide +kernel
theorem dX4_makeTermLess_146 : decode cX4_makeTermLess 146 = .ok (.getfield 9, 3) := by decide +kernel
theorem dX4_makeTermLess_149 : decode cX4_makeTermLess 149 = .ok (.iload_n 1, 1) := by decide +kernel
theorem dX4_makeTermLess_150 : decode cX4_makeTermLess 150 = .ok (.iload_n 2, 1) := by decide +kernel
theorem dX4_makeTermLess_151 : decode cX4_makeTermLess 151 = .ok (.iconst 1, 1) := by decide +kernel
theorem dX4_makeTermLess_152 : decode cX4_makeTermLess 152 = .ok (.invokevirtual 98, 3) := by decide +kernel
theorem dX4_makeTermLess_155 : decode cX4_makeTermLess 155 = .ok (.aload_n 0, 1) := by decide +kernel
theorem dX4_makeTermLess_156 : decode cX4_makeTermLess 156 = .ok (.getfield 9, 3) := by decide +kernel
theorem dX4_makeTermLess_159 : decode cX4_makeTermLess 159 = .ok (.getfield 143, 3) := by decide +kernel
theorem dX4_makeTermLess_162 : decode cX4_makeTermLess 162 = .ok (.iload_n 2, 1) := by decide +kernel
theorem dX4_makeTermLess_163 : decode cX4_makeTermLess 163 = .ok (.iaload, 1) := by decide +kernel
theorem dX4_makeTermLess_164 : decode cX4_makeTermLess 164 = .ok (.ior, 1) := by decide +kernel
theorem dX4_makeTermLess_165 : decode cX4_makeTermLess 165 = .ok (.aload_n 0, 1) := by decide +kernel
theorem dX4_makeTermLess_166 : decode cX4_makeTermLess 166 = .ok (.getfield 9, 3) := by decide +kernel
theorem dX4_makeTermLess_169 : decode cX4_makeTermLess 169 = .ok (.getfield 146, 3) := by decide +kernel
theorem dX4_makeTermLess_172 : decode cX4_makeTermLess 172 = .ok (.iload_n 2, 1) := by decide +kernel
theorem dX4_makeTermLess_173 : decode cX4_makeTermLess 173 = .ok (.iaload, 1) := by decide +kernel
theorem dX4_makeTermLess_174 : decode cX4_makeTermLess 174 = .ok (.ior, 1) := by decide +kernel
theorem dX4_makeTermLess_175 : decode cX4_makeTermLess 175 = .ok (.ior, 1) := by decide +kernel
theorem dX4_makeTermLess_176 : decode cX4_makeTermLess 176 = .ok (.iastore, 1) := by decide +kernel
theorem dX4_makeTermLess_177 : decode cX4_makeTermLess 177 = .ok (.aload_n 0, 1) := by decide +kernel
theorem dX4_makeTermLess_178 : decode cX4_makeTermLess 178 = .ok (.getfield 9, 3) := by decide +kernel
theorem dX4_makeTermLess_181 : decode cX4_makeTermLess 181 = .ok (.iload_n 1, 1) := by decide +kernel
theorem dX4_makeTermLess_182 : decode cX4_makeTermLess 182 = .ok (.invokevirtual 66, 3) := by decide +kernel
theorem dX4_makeTermLess_185 : decode cX4_makeTermLess 185 = .ok (.return_, 1) := by decide +kernel
theorem dX4_makeLess_0 : decode cX4_makeLess 0 = .ok (.aload_n 0, 1) := by decide +kernel
theorem dX4_makeLess_1 : decode cX4_makeLess 1 = .ok (.getfield 21, 3) := by decide +kernel
theorem dX4_makeLess_4 : decode cX4_makeLess 4 = .ok (.getfield 48, 3) := by decide +kernel
theorem dX4_makeLess_7 : decode cX4_makeLess 7 = .ok (.iload_n 1, 1) := by decide +kernel
theorem dX4_makeLess_8 : decode cX4_makeLess 8 = .ok (.iaload, 1) := by decide +kernel
theorem dX4_makeLess_9 : decode cX4_makeLess 9 = .ok (.ifCond .eq 5, 3) := by decide +kernel
theorem dX4_makeLess_12 : decode cX4_makeLess 12 = .ok (.iconst 1, 1) := by decide +kernel
theorem dX4_makeLess_13 : decode cX4_makeLess 13 = .ok (.ireturn, 1) := by decide +kernel
theorem dX4_makeLess_14 : decode cX4_makeLess 14 = .ok (.iconst 0, 1) := by decide +kernel
theorem dX4_makeLess_15 : decode cX4_makeLess 15 = .ok (.istore_n 2, 1) := by decide +kernel
theorem dX4_makeLess_16 : decode cX4_makeLess 16 = .ok (.iload_n 2, 1) := by decide +kernel
theorem dX4_makeLess_17 : decode cX4_makeLess 17 = .ok (.aload_n 0, 1) := by decide +kernel
theorem dX4_makeLess_18 : decode cX4_makeLess 18 = .ok (.getfield 21, 3) := by decide +kernel
theorem dX4_makeLess_21 : decode cX4_makeLess 21 = .ok (.getfield 69, 3) := by decide +kernel
theorem dX4_makeLess_24 : decode cX4_makeLess 24 = .ok (.if_icmp .ge 42, 3) := by decide +kernel
theorem dX4_makeLess_27 : decode cX4_makeLess 27 = .ok (.aload_n 0, 1) := by decide +kernel
theorem dX4_makeLess_28 : decode cX4_makeLess 28 = .ok (.getfield 21, 3) := by decide +kernel
theorem dX4_makeLess_31 : decode cX4_makeLess 31 = .ok (.getfield 55, 3) := by decide +kernel
theorem dX4_makeLess_34 : decode cX4_makeLess 34 = .ok (.iload_n 1, 1) := by decide +kernel
theorem dX4_makeLess_35 : decode cX4_makeLess 35 = .ok (.aaload, 1) := by decide +kernel
theorem dX4_makeLess_36 : decode cX4_makeLess 36 = .ok (.iload_n 2, 1) := by decide +kernel
theorem dX4_makeLess_37 : decode cX4_makeLess 37 = .ok (.laload, 1) := by decide +kernel
theorem dX4_makeLess_38 : decode cX4_makeLess 38 = .ok (.lconst 0, 1) := by decide +kernel
theorem dX4_makeLess_39 : decode cX4_makeLess 39 = .ok (.lcmp, 1) := by decide +kernel
theorem dX4_makeLess_40 : decode cX4_makeLess 40 = .ok (.ifCond .eq 20, 3) := by decide +kernel
theorem dX4_makeLess_43 : decode cX4_makeLess 43 = .ok (.aload_n 0, 1) := by decide +kernel
theorem dX4_makeLess_44 : decode cX4_makeLess 44 = .ok (.getfield 21, 3) := by decide +kernel
theorem dX4_makeLess_47 : decode cX4_makeLess 47 = .ok (.iload_n 2, 1) := by decide +kernel
theorem dX4_makeLess_48 : decode cX4_makeLess 48 = .ok (.invokevirtual 136, 3) := by decide +kernel
theorem dX4_makeLess_51 : decode cX4_makeLess 51 = .ok (.ifCond .eq 9, 3) := by decide +kernel
theorem dX4_makeLess_54 : decode cX4_makeLess 54 = .ok (.aload_n 0, 1) := by decide +kernel
theorem dX4_makeLess_55 : decode cX4_makeLess 55 = .ok (.iload_n 1, 1) := by decide +kernel
theorem dX4_makeLess_56 : decode cX4_makeLess 56 = .ok (.iload_n 2, 1) := by decide +kernel
theorem dX4_makeLess_57 : decode cX4_makeLess 57 = .ok (.invokevirtual 139, 3) := by decide +kernel
theorem dX4_makeLess_60 : decode cX4_makeLess 60 = .ok (.iinc 2 1, 3) := by decide +kernel
theorem dX4_makeLess_63 : decode cX4_makeLess 63 = .ok (.goto (-47), 3) := by decide +kernel
theorem dX4_makeLess_66 : decode cX4_makeLess 66 = .ok (.iconst 1, 1) := by decide +kernel
theorem dX4_makeLess_67 : decode cX4_makeLess 67 = .ok (.ireturn, 1) := by decide +kernel
theorem dX1_fix_0 : decode cX1_fix 0 = .ok (.aload_n 0, 1) := by decide +kernel
theorem dX1_fix_1 : decode cX1_fix 1 = .ok (.getfield 21, 3) := by decide +kernel
theorem dX1_fix_4 : decode cX1_fix 4 = .ok (.getfield 22, 3) := by decide +kernel
theorem dX1_fix_7 : decode cX1_fix 7 = .ok (.iload_n 1, 1) := by decide +kernel
theorem dX1_fix_8 : decode cX1_fix 8 = .ok (.laload, 1) := by decide +kernel
theorem dX1_fix_9 : decode cX1_fix 9 = .ok (.lstore_n 2, 1) := by decide +kernel
theorem dX1_fix_10 : decode cX1_fix 10 = .ok (.lload_n 2, 1) := by decide +kernel
theorem dX1_fix_11 : decode cX1_fix 11 = .ok (.aload_n 0, 1) := by decide +kernel
theorem dX1_fix_12 : decode cX1_fix 12 = .ok (.getfield 21, 3) := by decide +kernel
theorem dX1_fix_15 : decode cX1_fix 15 = .ok (.getfield 28, 3) := by decide +kernel
theorem dX1_fix_18 : decode cX1_fix 18 = .ok (.iload_n 1, 1) := by decide +kernel
theorem dX1_fix_19 : decode cX1_fix 19 = .ok (.laload, 1) := by decide +kernel
theorem dX1_fix_20 : decode cX1_fix 20 = .ok (.lcmp, 1) := by decide +kernel
theorem dX1_fix_21 : decode cX1_fix 21 = .ok (.ifCond .eq 5, 3) := by decide +kernel
theorem dX1_fix_24 : decode cX1_fix 24 = .ok (.iconst 1, 1) := by decide +kernel
theorem dX1_fix_25 : decode cX1_fix 25 = .ok (.ireturn, 1) := by decide +kernel
theorem dX1_fix_26 : decode cX1_fix 26 = .ok (.aload_n 0, 1) := by decide +kernel
theorem dX1_fix_27 : decode cX1_fix 27 = .ok (.getfield 9, 3) := by decide +kernel
theorem dX1_fix_30 : decode cX1_fix 30 = .ok (.getfield 31, 3) := by decide +kernel
theorem dX1_fix_33 : decode cX1_fix 33 = .ok (.iload_n 1, 1) := by decide +kernel
theorem dX1_fix_34 : decode cX1_fix 34 = .ok (.iaload, 1) := by decide +kernel
theorem dX1_fix_35 : decode cX1_fix 35 = .ok (.aload_n 0, 1) := by decide +kernel
theorem dX1_fix_36 : decode cX1_fix 36 = .ok (.getfield 9, 3) := by decide +kernel
theorem dX1_fix_39 : decode cX1_fix 39 = .ok (.getfield 35, 3) := by decide +kernel
theorem dX1_fix_42 : decode cX1_fix 42 = .ok (.iload_n 1, 1) := by decide +kernel
theorem dX1_fix_43 : decode cX1_fix 43 = .ok (.iaload, 1) := by decide +kernel
theorem dX1_fix_44 : decode cX1_fix 44 = .ok (.ior, 1) := by decide +kernel
theorem dX1_fix_45 : decode cX1_fix 45 = .ok (.istore 4, 2) := by decide +kernel
theorem dX1_fix_47 : decode cX1_fix 47 = .ok (.iconst 0, 1) := by decide +kernel
theorem dX1_fix_48 : decode cX1_fix 48 = .ok (.istore 5, 2) := by decide +kernel
theorem dX1_fix_50 : decode cX1_fix 50 = .ok (.iload 5, 2) := by decide +kernel
theorem dX1_fix_52 : decode cX1_fix 52 = .ok (.aload_n 0, 1) := by decide +kernel
theorem dX1_fix_53 : decode cX1_fix 53 = .ok (.getfield 21, 3) := by decide +kernel
theorem dX1_fix_56 : decode cX1_fix 56 = .ok (.getfield 38, 3) := by decide +kernel
theorem dX1_fix_59 : decode cX1_fix 59 = .ok (.if_icmp .ge 93, 3) := by decide +kernel
theorem dX1_fix_62 : decode cX1_fix 62 = .ok (.aload_n 0, 1) := by decide +kernel
theorem dX1_fix_63 : decode cX1_fix 63 = .ok (.getfield 21, 3) := by decide +kernel
theorem dX1_fix_66 : decode cX1_fix 66 = .ok (.iload 5, 2) := by decide +kernel
theorem dX1_fix_68 : decode cX1_fix 68 = .ok (.invokevirtual 42, 3) := by decide +kernel
theorem dX1_fix_71 : decode cX1_fix 71 = .ok (.ifCond .ne 75, 3) := by decide +kernel
theorem dX1_fix_74 : decode cX1_fix 74 = .ok (.aload_n 0, 1) := by decide +kernel
theorem dX1_fix_75 : decode cX1_fix 75 = .ok (.getfield 21, 3) := by decide +kernel
theorem dX1_fix_78 : decode cX1_fix 78 = .ok (.getfield 46, 3) := by decide +kernel
theorem dX1_fix_81 : decode cX1_fix 81 = .ok (.iload 5, 2) := by decide +kernel
theorem dX1_fix_83 : decode cX1_fix 83 = .ok (.aaload, 1) := by decide +kernel
theorem dX1_fix_84 : decode cX1_fix 84 = .ok (.iload_n 1, 1) := by decide +kernel
theorem dX1_fix_85 : decode cX1_fix 85 = .ok (.laload, 1) := by decide +kernel
theorem dX1_fix_86 : decode cX1_fix 86 = .ok (.lconst 0, 1) := by decide +kernel
theorem dX1_fix_87 : decode cX1_fix 87 = .ok (.lcmp, 1) := by decide +kernel
theorem dX1_fix_88 : decode cX1_fix 88 = .ok (.ifCond .eq 58, 3) := by decide +kernel
theorem dX1_fix_91 : decode cX1_fix 91 = .ok (.aload_n 0, 1) := by decide +kernel
theorem dX1_fix_92 : decode cX1_fix 92 = .ok (.getfield 21, 3) := by decide +kernel
theorem dX1_fix_95 : decode cX1_fix 95 = .ok (.getfield 50, 3) := by decide +kernel
theorem dX1_fix_98 : decode cX1_fix 98 = .ok (.iload 5, 2) := by decide +kernel
theorem dX1_fix_100 : decode cX1_fix 100 = .ok (.dup2, 1) := by decide +kernel
theorem dX1_fix_101 : decode cX1_fix 101 = .ok (.laload, 1) := by decide +kernel
theorem dX1_fix_102 : decode cX1_fix 102 = .ok (.aload_n 0, 1) := by decide +kernel
theorem dX1_fix_103 : decode cX1_fix 103 = .ok (.getfield 21, 3) := by decide +kernel
theorem dX1_fix_106 : decode cX1_fix 106 = .ok (.getfield 46, 3) := by decide +kernel
theorem dX1_fix_109 : decode cX1_fix 109 = .ok (.iload 5, 2) := by decide +kernel
theorem dX1_fix_111 : decode cX1_fix 111 = .ok (.aaload, 1) := by decide +kernel
theorem dX1_fix_112 : decode cX1_fix 112 = .ok (.iload_n 1, 1) := by decide +kernel
theorem dX1_fix_113 : decode cX1_fix 113 = .ok (.laload, 1) := by decide +kernel
theorem dX1_fix_114 : decode cX1_fix 114 = .ok (.lload_n 2, 1) := by decide +kernel
theorem dX1_fix_115 : decode cX1_fix 115 = .ok (.lmul, 1) := by decide +kernel
theorem dX1_fix_116 : decode cX1_fix 116 = .ok (.lsub, 1) := by decide +kernel
theorem dX1_fix_117 : decode cX1_fix 117 = .ok (.lastore, 1) := by decide +kernel
theorem dX1_fix_118 : decode cX1_fix 118 = .ok (.aload_n 0, 1) := by decide +kernel
theorem dX1_fix_119 : decode cX1_fix 119 = .ok (.getfield 21, 3) := by decide +kernel
theorem dX1_fix_122 : decode cX1_fix 122 = .ok (.getfield 46, 3) := by decide +kernel
theorem dX1_fix_125 : decode cX1_fix 125 = .ok (.iload 5, 2) := by decide +kernel
theorem dX1_fix_127 : decode cX1_fix 127 = .ok (.aaload, 1) := by decide +kernel
theorem dX1_fix_128 : decode cX1_fix 128 = .ok (.iload_n 1, 1) := by decide +kernel
theorem dX1_fix_129 : decode cX1_fix 129 = .ok (.lconst 0, 1) := by decide +kernel
theorem dX1_fix_130 : decode cX1_fix 130 = .ok (.lastore, 1) := by decide +kernel
theorem dX1_fix_131 : decode cX1_fix 131 = .ok (.aload_n 0, 1) := by decide +kernel
theorem dX1_fix_132 : decode cX1_fix 132 = .ok (.getfield 9, 3) := by decide +kernel
theorem dX1_fix_135 : decode cX1_fix 135 = .ok (.getfield 53, 3) := by decide +kernel
theorem dX1_fix_138 : decode cX1_fix 138 = .ok (.iload 5, 2) := by decide +kernel
theorem dX1_fix_140 : decode cX1_fix 140 = .ok (.dup2, 1) := by decide +kernel
theorem dX1_fix_141 : decode cX1_fix 141 = .ok (.iaload, 1) := by decide +kernel
theorem dX1_fix_142 : decode cX1_fix 142 = .ok (.iload 4, 2) := by decide +kernel
theorem dX1_fix_144 : decode cX1_fix 144 = .ok (.ior, 1) := by decide +kernel
theorem dX1_fix_145 : decode cX1_fix 145 = .ok (.iastore, 1) := by decide +kernel
theorem dX1_fix_146 : decode cX1_fix 146 = .ok (.iinc 5 1, 3) := by decide +kernel
theorem dX1_fix_149 : decode cX1_fix 149 = .ok (.goto (-99), 3) := by decide +kernel
theorem dX1_fix_152 : decode cX1_fix 152 = .ok (.aload_n 0, 1) := by decide +kernel
theorem dX1_fix_153 : decode cX1_fix 153 = .ok (.getfield 9, 3) := by decide +kernel
theorem dX1_fix_156 : decode cX1_fix 156 = .ok (.dup, 1) := by decide +kernel
theorem dX1_fix_157 : decode cX1_fix 157 = .ok (.getfield 56, 3) := by decide +kernel
theorem dX1_fix_160 : decode cX1_fix 160 = .ok (.lload_n 2, 1) := by decide +kernel
theorem dX1_fix_161 : decode cX1_fix 161 = .ok (.aload_n 0, 1) := by decide +kernel
theorem dX1_fix_162 : decode cX1_fix 162 = .ok (.getfield 21, 3) := by decide +kernel
theorem dX1_fix_165 : decode cX1_fix 165 = .ok (.getfield 60, 3) := by decide +kernel
theorem dX1_fix_168 : decode cX1_fix 168 = .ok (.iload_n 1, 1) := by decide +kernel
theorem dX1_fix_169 : decode cX1_fix 169 = .ok (.laload, 1) := by decide +kernel
theorem dX1_fix_170 : decode cX1_fix 170 = .ok (.lmul, 1) := by decide +kernel
theorem dX1_fix_171 : decode cX1_fix 171 = .ok (.ladd, 1) := by decide +kernel
theorem dX1_fix_172 : decode cX1_fix 172 = .ok (.putfield 56, 3) := by decide +kernel
theorem dX1_fix_175 : decode cX1_fix 175 = .ok (.aload_n 0, 1) := by decide +kernel
theorem dX1_fix_176 : decode cX1_fix 176 = .ok (.getfield 21, 3) := by decide +kernel
theorem dX1_fix_179 : decode cX1_fix 179 = .ok (.getfield 63, 3) := by decide +kernel
theorem dX1_fix_182 : decode cX1_fix 182 = .ok (.iload_n 1, 1) := by decide +kernel
theorem dX1_fix_183 : decode cX1_fix 183 = .ok (.iconst 1, 1) := by decide +kernel
theorem dX1_fix_184 : decode cX1_fix 184 = .ok (.iastore, 1) := by decide +kernel
theorem dX1_fix_185 : decode cX1_fix 185 = .ok (.aload_n 0, 1) := by decide +kernel
theorem dX1_fix_186 : decode cX1_fix 186 = .ok (.getfield 9, 3) := by decide +kernel
theorem dX1_fix_189 : decode cX1_fix 189 = .ok (.getfield 66, 3) := by decide +kernel
theorem dX1_fix_192 : decode cX1_fix 192 = .ok (.aload_n 0, 1) := by decide +kernel
theorem dX1_fix_193 : decode cX1_fix 193 = .ok (.getfield 9, 3) := by decide +kernel
theorem dX1_fix_196 : decode cX1_fix 196 = .ok (.getfield 70, 3) := by decide +kernel
theorem dX1_fix_199 : decode cX1_fix 199 = .ok (.iconst (-1), 1) := by decide +kernel
theorem dX1_fix_200 : decode cX1_fix 200 = .ok (.iload_n 1, 1) := by decide +kernel
theorem dX1_fix_201 : decode cX1_fix 201 = .ok (.iconst 4, 1) := by decide +kernel
theorem dX1_fix_202 : decode cX1_fix 202 = .ok (.lload_n 2, 1) := by decide +kernel
theorem dX1_fix_203 : decode cX1_fix 203 = .ok (.invokevirtual 73, 3) := by decide +kernel
theorem dX1_fix_206 : decode cX1_fix 206 = .ok (.iconst 1, 1) := by decide +kernel
theorem dX1_fix_207 : decode cX1_fix 207 = .ok (.ireturn, 1) := by decide +kernel
theorem dX1_hasOnlyTerms_0 : decode cX1_hasOnlyTerms 0 = .ok (.iconst 0, 1) := by decide +kernel
theorem dX1_hasOnlyTerms_1 : decode cX1_hasOnlyTerms 1 = .ok (.istore_n 3, 1) := by decide +kernel
theorem dX1_hasOnlyTerms_2 : decode cX1_hasOnlyTerms 2 = .ok (.iload_n 3, 1) := by decide +kernel
theorem dX1_hasOnlyTerms_3 : decode cX1_hasOnlyTerms 3 = .ok (.aload_n 0, 1) := by decide +kernel
theorem dX1_hasOnlyTerms_4 : decode cX1_hasOnlyTerms 4 = .ok (.getfield 21, 3) := by decide +kernel
theorem dX1_hasOnlyTerms_7 : decode cX1_hasOnlyTerms 7 = .ok (.getfield 38, 3) := by decide +kernel
theorem dX1_hasOnlyTerms_10 : decode cX1_hasOnlyTerms 10 = .ok (.if_icmp .ge 64, 3) := by decide +kernel
theorem dX1_hasOnlyTerms_13 : decode cX1_hasOnlyTerms 13 = .ok (.aload_n 0, 1) := by decide +kernel
theorem dX1_hasOnlyTerms_14 : decode cX1_hasOnlyTerms 14 = .ok (.getfield 21, 3) := by decide +kernel
theorem dX1_hasOnlyTerms_17 : decode cX1_hasOnlyTerms 17 = .ok (.getfield 46, 3) := by decide +kernel
theorem dX1_hasOnlyTerms_20 : decode cX1_hasOnlyTerms 20 = .ok (.iload_n 3, 1) := by decide +kernel
theorem dX1_hasOnlyTerms_21 : decode cX1_hasOnlyTerms 21 = .ok (.aaload, 1) := by decide +kernel
theorem dX1_hasOnlyTerms_22 : decode cX1_hasOnlyTerms 22 = .ok (.iload_n 1, 1) := by decide +kernel
theorem dX1_hasOnlyTerms_23 : decode cX1_hasOnlyTerms 23 = .ok (.laload, 1) := by decide +kernel
theorem dX1_hasOnlyTerms_24 : decode cX1_hasOnlyTerms 24 = .ok (.lstore 4, 2) := by decide +kernel
theorem dX1_hasOnlyTerms_26 : decode cX1_hasOnlyTerms 26 = .ok (.aload_n 0, 1) := by decide +kernel
theorem dX1_hasOnlyTerms_27 : decode cX1_hasOnlyTerms 27 = .ok (.getfield 21, 3) := by decide +kernel
theorem dX1_hasOnlyTerms_30 : decode cX1_hasOnlyTerms 30 = .ok (.iload_n 3, 1) := by decide +kernel
theorem dX1_hasOnlyTerms_31 : decode cX1_hasOnlyTerms 31 = .ok (.invokevirtual 42, 3) := by decide +kernel
theorem dX1_hasOnlyTerms_34 : decode cX1_hasOnlyTerms 34 = .ok (.ifCond .ne 34, 3) := by decide +kernel
theorem dX1_hasOnlyTerms_37 : decode cX1_hasOnlyTerms 37 = .ok (.lload 4, 2) := by decide +kernel
theorem dX1_hasOnlyTerms_39 : decode cX1_hasOnlyTerms 39 = .ok (.lconst 0, 1) := by decide +kernel
theorem dX1_hasOnlyTerms_40 : decode cX1_hasOnlyTerms 40 = .ok (.lcmp, 1) := by decide +kernel
theorem dX1_hasOnlyTerms_41 : decode cX1_hasOnlyTerms 41 = .ok (.ifCond .eq 27, 3) := by decide +kernel
theorem dX1_hasOnlyTerms_44 : decode cX1_hasOnlyTerms 44 = .ok (.lload 4, 2) := by decide +kernel
theorem dX1_hasOnlyTerms_46 : decode cX1_hasOnlyTerms 46 = .ok (.iload_n 2, 1) := by decide +kernel
theorem dX1_hasOnlyTerms_47 : decode cX1_hasOnlyTerms 47 = .ok (.i2l, 1) := by decide +kernel
theorem dX1_hasOnlyTerms_48 : decode cX1_hasOnlyTerms 48 = .ok (.lmul, 1) := by decide +kernel
theorem dX1_hasOnlyTerms_49 : decode cX1_hasOnlyTerms 49 = .ok (.lconst 0, 1) := by decide +kernel
theorem dX1_hasOnlyTerms_50 : decode cX1_hasOnlyTerms 50 = .ok (.lcmp, 1) := by decide +kernel
theorem dX1_hasOnlyTerms_51 : decode cX1_hasOnlyTerms 51 = .ok (.ifCond .lt 15, 3) := by decide +kernel
theorem dX1_hasOnlyTerms_54 : decode cX1_hasOnlyTerms 54 = .ok (.aload_n 0, 1) := by decide +kernel
theorem dX1_hasOnlyTerms_55 : decode cX1_hasOnlyTerms 55 = .ok (.getfield 21, 3) := by decide +kernel
theorem dX1_hasOnlyTerms_58 : decode cX1_hasOnlyTerms 58 = .ok (.getfield 91, 3) := by decide +kernel
theorem dX1_hasOnlyTerms_61 : decode cX1_hasOnlyTerms 61 = .ok (.iload_n 3, 1) := by decide +kernel
theorem dX1_hasOnlyTerms_62 : decode cX1_hasOnlyTerms 62 = .ok (.iaload, 1) := by decide +kernel
theorem dX1_hasOnlyTerms_63 : decode cX1_hasOnlyTerms 63 = .ok (.ifCond .eq 5, 3) := by decide +kernel
theorem dX1_hasOnlyTerms_66 : decode cX1_hasOnlyTerms 66 = .ok (.iconst 0, 1) := by decide +kernel
theorem dX1_hasOnlyTerms_67 : decode cX1_hasOnlyTerms 67 = .ok (.ireturn, 1) := by decide +kernel
theorem dX1_hasOnlyTerms_68 : decode cX1_hasOnlyTerms 68 = .ok (.iinc 3 1, 3) := by decide +kernel
theorem dX1_hasOnlyTerms_71 : decode cX1_hasOnlyTerms 71 = .ok (.goto (-69), 3) := by decide +kernel
theorem dX1_hasOnlyTerms_74 : decode cX1_hasOnlyTerms 74 = .ok (.iconst 1, 1) := by decide +kernel
theorem dX1_hasOnlyTerms_75 : decode cX1_hasOnlyTerms 75 = .ok (.ireturn, 1) := by decide +kernel
theorem dX1_moveToSide_0 : decode cX1_moveToSide 0 = .ok (.aload_n 0, 1) := by decide +kernel
theorem dX1_moveToSide_1 : decode cX1_moveToSide 1 = .ok (.getfield 21, 3) := by decide +kernel
theorem dX1_moveToSide_4 : decode cX1_moveToSide 4 = .ok (.getfield 22, 3) := by decide +kernel
theorem dX1_moveToSide_7 : decode cX1_moveToSide 7 = .ok (.iload_n 1, 1) := by decide +kernel
theorem dX1_moveToSide_8 : decode cX1_moveToSide 8 = .ok (.laload, 1) := by decide +kernel
theorem dX1_moveToSide_9 : decode cX1_moveToSide 9 = .ok (.lstore_n 2, 1) := by decide +kernel
theorem dX1_moveToSide_10 : decode cX1_moveToSide 10 = .ok (.aload_n 0, 1) := by decide +kernel
theorem dX1_moveToSide_11 : decode cX1_moveToSide 11 = .ok (.getfield 21, 3) := by decide +kernel
theorem dX1_moveToSide_14 : decode cX1_moveToSide 14 = .ok (.getfield 28, 3) := by decide +kernel
theorem dX1_moveToSide_17 : decode cX1_moveToSide 17 = .ok (.iload_n 1, 1) := by decide +kernel
theorem dX1_moveToSide_18 : decode cX1_moveToSide 18 = .ok (.laload, 1) := by decide +kernel
theorem dX1_moveToSide_19 : decode cX1_moveToSide 19 = .ok (.lstore 4, 2) := by decide +kernel
theorem dX1_moveToSide_21 : decode cX1_moveToSide 21 = .ok (.lload_n 2, 1) := by decide +kernel
theorem dX1_moveToSide_22 : decode cX1_moveToSide 22 = .ok (.lload 4, 2) := by decide +kernel
theorem dX1_moveToSide_24 : decode cX1_moveToSide 24 = .ok (.lcmp, 1) := by decide +kernel
theorem dX1_moveToSide_25 : decode cX1_moveToSide 25 = .ok (.ifCond .ne 5, 3) := by decide +kernel
theorem dX1_moveToSide_28 : decode cX1_moveToSide 28 = .ok (.iconst 1, 1) := by decide +kernel
theorem dX1_moveToSide_29 : decode cX1_moveToSide 29 = .ok (.ireturn, 1) := by decide +kernel
theorem dX1_moveToSide_30 : decode cX1_moveToSide 30 = .ok (.aload_n 0, 1) := by decide +kernel
theorem dX1_moveToSide_31 : decode cX1_moveToSide 31 = .ok (.getfield 21, 3) := by decide +kernel
theorem dX1_moveToSide_34 : decode cX1_moveToSide 34 = .ok (.getfield 60, 3) := by decide +kernel
theorem dX1_moveToSide_37 : decode cX1_moveToSide 37 = .ok (.iload_n 1, 1) := by decide +kernel
theorem dX1_moveToSide_38 : decode cX1_moveToSide 38 = .ok (.laload, 1) := by decide +kernel
theorem dX1_moveToSide_39 : decode cX1_moveToSide 39 = .ok (.lconst 0, 1) := by decide +kernel
theorem dX1_moveToSide_40 : decode cX1_moveToSide 40 = .ok (.lcmp, 1) := by decide +kernel
theorem dX1_moveToSide_41 : decode cX1_moveToSide 41 = .ok (.ifCond .lt 32, 3) := by decide +kernel
theorem dX1_moveToSide_44 : decode cX1_moveToSide 44 = .ok (.aload_n 0, 1) := by decide +kernel
theorem dX1_moveToSide_45 : decode cX1_moveToSide 45 = .ok (.iload_n 1, 1) := by decide +kernel
theorem dX1_moveToSide_46 : decode cX1_moveToSide 46 = .ok (.iconst 1, 1) := by decide +kernel
theorem dX1_moveToSide_47 : decode cX1_moveToSide 47 = .ok (.invokevirtual 79, 3) := by decide +kernel
theorem dX1_moveToSide_50 : decode cX1_moveToSide 50 = .ok (.ifCond .eq 23, 3) := by decide +kernel
theorem dX1_moveToSide_53 : decode cX1_moveToSide 53 = .ok (.aload_n 0, 1) := by decide +kernel
theorem dX1_moveToSide_54 : decode cX1_moveToSide 54 = .ok (.getfield 9, 3) := by decide +kernel
theorem dX1_moveToSide_57 : decode cX1_moveToSide 57 = .ok (.iconst (-1), 1) := by decide +kernel
theorem dX1_moveToSide_58 : decode cX1_moveToSide 58 = .ok (.iload_n 1, 1) := by decide +kernel
theorem dX1_moveToSide_59 : decode cX1_moveToSide 59 = .ok (.iconst 1, 1) := by decide +kernel
theorem dX1_moveToSide_60 : decode cX1_moveToSide 60 = .ok (.lload_n 2, 1) := by decide +kernel
theorem dX1_moveToSide_61 : decode cX1_moveToSide 61 = .ok (.lconst 1, 1) := by decide +kernel
theorem dX1_moveToSide_62 : decode cX1_moveToSide 62 = .ok (.aload_n 0, 1) := by decide +kernel
theorem dX1_moveToSide_63 : decode cX1_moveToSide 63 = .ok (.getfield 21, 3) := by decide +kernel
theorem dX1_moveToSide_66 : decode cX1_moveToSide 66 = .ok (.invokevirtual 83, 3) := by decide +kernel
theorem dX1_moveToSide_69 : decode cX1_moveToSide 69 = .ok (.invokevirtual 87, 3) := by decide +kernel
theorem dX1_moveToSide_72 : decode cX1_moveToSide 72 = .ok (.ireturn, 1) := by decide +kernel
theorem dX1_moveToSide_73 : decode cX1_moveToSide 73 = .ok (.aload_n 0, 1) := by decide +kernel
theorem dX1_moveToSide_74 : decode cX1_moveToSide 74 = .ok (.getfield 21, 3) := by decide +kernel
theorem dX1_moveToSide_77 : decode cX1_moveToSide 77 = .ok (.getfield 60, 3) := by decide +kernel
theorem dX1_moveToSide_80 : decode cX1_moveToSide 80 = .ok (.iload_n 1, 1) := by decide +kernel
theorem dX1_moveToSide_81 : decode cX1_moveToSide 81 = .ok (.laload, 1) := by decide +kernel
theorem dX1_moveToSide_82 : decode cX1_moveToSide 82 = .ok (.lconst 0, 1) := by decide +kernel
theorem dX1_moveToSide_83 : decode cX1_moveToSide 83 = .ok (.lcmp, 1) := by decide +kernel
theorem dX1_moveToSide_84 : decode cX1_moveToSide 84 = .ok (.ifCond .gt 33, 3) := by decide +kernel
theorem dX1_moveToSide_87 : decode cX1_moveToSide 87 = .ok (.aload_n 0, 1) := by decide +kernel
theorem dX1_moveToSide_88 : decode cX1_moveToSide 88 = .ok (.iload_n 1, 1) := by decide +kernel
theorem dX1_moveToSide_89 : decode cX1_moveToSide 89 = .ok (.iconst (-1), 1) := by decide +kernel
theorem dX1_moveToSide_90 : decode cX1_moveToSide 90 = .ok (.invokevirtual 79, 3) := by decide +kernel
theorem dX1_moveToSide_93 : decode cX1_moveToSide 93 = .ok (.ifCond .eq 24, 3) := by decide +kernel
theorem dX1_moveToSide_96 : decode cX1_moveToSide 96 = .ok (.aload_n 0, 1) := by decide +kernel
theorem dX1_moveToSide_97 : decode cX1_moveToSide 97 = .ok (.getfield 9, 3) := by decide +kernel
theorem dX1_moveToSide_100 : decode cX1_moveToSide 100 = .ok (.iconst (-1), 1) := by decide +kernel
theorem dX1_moveToSide_101 : decode cX1_moveToSide 101 = .ok (.iload_n 1, 1) := by decide +kernel
theorem dX1_moveToSide_102 : decode cX1_moveToSide 102 = .ok (.iconst 0, 1) := by decide +kernel
theorem dX1_moveToSide_103 : decode cX1_moveToSide 103 = .ok (.lload 4, 2) := by decide +kernel
theorem dX1_moveToSide_105 : decode cX1_moveToSide 105 = .ok (.lconst 1, 1) := by decide +kernel
theorem dX1_moveToSide_106 : decode cX1_moveToSide 106 = .ok (.aload_n 0, 1) := by decide +kernel
theorem dX1_moveToSide_107 : decode cX1_moveToSide 107 = .ok (.getfield 21, 3) := by decide +kernel
theorem dX1_moveToSide_110 : decode cX1_moveToSide 110 = .ok (.invokevirtual 83, 3) := by decide +kernel
theorem dX1_moveToSide_113 : decode cX1_moveToSide 113 = .ok (.invokevirtual 87, 3) := by decide +kernel
theorem dX1_moveToSide_116 : decode cX1_moveToSide 116 = .ok (.ireturn, 1) := by decide +kernel
theorem dX1_moveToSide_117 : decode cX1_moveToSide 117 = .ok (.iconst 1, 1) := by decide +kernel
theorem dX1_moveToSide_118 : decode cX1_moveToSide 118 = .ok (.ireturn, 1) := by decide +kernel
theorem dX8_beyond_0 : decode cX8_beyond 0 = .ok (.lload_n 0, 1) := by decide +kernel
theorem dX8_beyond_1 : decode cX8_beyond 1 = .ok (.lload_n 2, 1) := by decide +kernel
theorem dX8_beyond_2 : decode cX8_beyond 2 = .ok (.lneg, 1) := by decide +kernel
theorem dX8_beyond_3 : decode cX8_beyond 3 = .ok (.lcmp, 1) := by decide +kernel
theorem dX8_beyond_4 : decode cX8_beyond 4 = .ok (.ifCond .lt 9, 3) := by decide +kernel
theorem dX8_beyond_7 : decode cX8_beyond 7 = .ok (.lload_n 0, 1) := by decide +kernel
theorem dX8_beyond_8 : decode cX8_beyond 8 = .ok (.lload_n 2, 1) := by decide +kernel
theorem dX8_beyond_9 : decode cX8_beyond 9 = .ok (.lcmp, 1) := by decide +kernel
theorem dX8_beyond_10 : decode cX8_beyond 10 = .ok (.ifCond .le 7, 3) := by decide +kernel
theorem dX8_beyond_13 : decode cX8_beyond 13 = .ok (.iconst 1, 1) := by decide +kernel
theorem dX8_beyond_14 : decode cX8_beyond 14 = .ok (.goto 4, 3) := by decide +kernel
theorem dX8_beyond_17 : decode cX8_beyond 17 = .ok (.iconst 0, 1) := by decide +kernel
theorem dX8_beyond_18 : decode cX8_beyond 18 = .ok (.ireturn, 1) := by decide +kernel
theorem dX1_factorOf_0 : decode cX1_factorOf 0 = .ok (.iload_n 3, 1) := by decide +kernel
theorem dX1_factorOf_1 : decode cX1_factorOf 1 = .ok (.iload_n 2, 1) := by decide +kernel
theorem dX1_factorOf_2 : decode cX1_factorOf 2 = .ok (.if_icmp .ne 7, 3) := by decide +kernel
theorem dX1_factorOf_5 : decode cX1_factorOf 5 = .ok (.lconst 0, 1) := by decide +kernel
theorem dX1_factorOf_6 : decode cX1_factorOf 6 = .ok (.goto 27, 3) := by decide +kernel
theorem dX1_factorOf_9 : decode cX1_factorOf 9 = .ok (.aload_n 0, 1) := by decide +kernel
theorem dX1_factorOf_10 : decode cX1_factorOf 10 = .ok (.getfield 21, 3) := by decide +kernel
theorem dX1_factorOf_13 : decode cX1_factorOf 13 = .ok (.getfield 46, 3) := by decide +kernel
theorem dX1_factorOf_16 : decode cX1_factorOf 16 = .ok (.iload_n 1, 1) := by decide +kernel
theorem dX1_factorOf_17 : decode cX1_factorOf 17 = .ok (.aaload, 1) := by decide +kernel
theorem dX1_factorOf_18 : decode cX1_factorOf 18 = .ok (.iload_n 2, 1) := by decide +kernel
theorem dX1_factorOf_19 : decode cX1_factorOf 19 = .ok (.laload, 1) := by decide +kernel
theorem dX1_factorOf_20 : decode cX1_factorOf 20 = .ok (.lneg, 1) := by decide +kernel
theorem dX1_factorOf_21 : decode cX1_factorOf 21 = .ok (.aload_n 0, 1) := by decide +kernel
theorem dX1_factorOf_22 : decode cX1_factorOf 22 = .ok (.getfield 21, 3) := by decide +kernel
theorem dX1_factorOf_25 : decode cX1_factorOf 25 = .ok (.getfield 46, 3) := by decide +kernel
theorem dX1_factorOf_28 : decode cX1_factorOf 28 = .ok (.iload_n 1, 1) := by decide +kernel
theorem dX1_factorOf_29 : decode cX1_factorOf 29 = .ok (.aaload, 1) := by decide +kernel
theorem dX1_factorOf_30 : decode cX1_factorOf 30 = .ok (.iload_n 3, 1) := by decide +kernel
theorem dX1_factorOf_31 : decode cX1_factorOf 31 = .ok (.laload, 1) := by decide +kernel
theorem dX1_factorOf_32 : decode cX1_factorOf 32 = .ok (.lmul, 1) := by decide +kernel
theorem dX1_factorOf_33 : decode cX1_factorOf 33 = .ok (.lreturn, 1) := by decide +kernel
theorem dX1_rowStaysWithin_0 : decode cX1_rowStaysWithin 0 = .ok (.aload_n 0, 1) := by decide +kernel
theorem dX1_rowStaysWithin_1 : decode cX1_rowStaysWithin 1 = .ok (.getfield 21, 3) := by decide +kernel
theorem dX1_rowStaysWithin_4 : decode cX1_rowStaysWithin 4 = .ok (.getfield 46, 3) := by decide +kernel
theorem dX1_rowStaysWithin_7 : decode cX1_rowStaysWithin 7 = .ok (.iload_n 3, 1) := by decide +kernel
theorem dX1_rowStaysWithin_8 : decode cX1_rowStaysWithin 8 = .ok (.aaload, 1) := by decide +kernel
theorem dX1_rowStaysWithin_9 : decode cX1_rowStaysWithin 9 = .ok (.iload_n 2, 1) := by decide +kernel
theorem dX1_rowStaysWithin_10 : decode cX1_rowStaysWithin 10 = .ok (.laload, 1) := by decide +kernel
theorem dX1_rowStaysWithin_11 : decode cX1_rowStaysWithin 11 = .ok (.lstore 4, 2) := by decide +kernel
theorem dX1_rowStaysWithin_13 : decode cX1_rowStaysWithin 13 = .ok (.lload 4, 2) := by decide +kernel
theorem dX1_rowStaysWithin_15 : decode cX1_rowStaysWithin 15 = .ok (.lconst 0, 1) := by decide +kernel
theorem dX1_rowStaysWithin_16 : decode cX1_rowStaysWithin 16 = .ok (.lcmp, 1) := by decide +kernel
theorem dX1_rowStaysWithin_17 : decode cX1_rowStaysWithin 17 = .ok (.ifCond .ne 5, 3) := by decide +kernel
theorem dX1_rowStaysWithin_20 : decode cX1_rowStaysWithin 20 = .ok (.iconst 1, 1) := by decide +kernel
theorem dX1_rowStaysWithin_21 : decode cX1_rowStaysWithin 21 = .ok (.ireturn, 1) := by decide +kernel
theorem dX1_rowStaysWithin_22 : decode cX1_rowStaysWithin 22 = .ok (.aload_n 0, 1) := by decide +kernel
theorem dX1_rowStaysWithin_23 : decode cX1_rowStaysWithin 23 = .ok (.getfield 21, 3) := by decide +kernel
theorem dX1_rowStaysWithin_26 : decode cX1_rowStaysWithin 26 = .ok (.getfield 46, 3) := by decide +kernel
theorem dX1_rowStaysWithin_29 : decode cX1_rowStaysWithin 29 = .ok (.iload_n 1, 1) := by decide +kernel
theorem dX1_rowStaysWithin_30 : decode cX1_rowStaysWithin 30 = .ok (.aaload, 1) := by decide +kernel
theorem dX1_rowStaysWithin_31 : decode cX1_rowStaysWithin 31 = .ok (.iload_n 2, 1) := by decide +kernel
theorem dX1_rowStaysWithin_32 : decode cX1_rowStaysWithin 32 = .ok (.laload, 1) := by decide +kernel
theorem dX1_rowStaysWithin_33 : decode cX1_rowStaysWithin 33 = .ok (.aload_n 0, 1) := by decide +kernel
theorem dX1_rowStaysWithin_34 : decode cX1_rowStaysWithin 34 = .ok (.getfield 21, 3) := by decide +kernel
theorem dX1_rowStaysWithin_37 : decode cX1_rowStaysWithin 37 = .ok (.getfield 50, 3) := by decide +kernel
theorem dX1_rowStaysWithin_40 : decode cX1_rowStaysWithin 40 = .ok (.iload_n 1, 1) := by decide +kernel
theorem dX1_rowStaysWithin_41 : decode cX1_rowStaysWithin 41 = .ok (.laload, 1) := by decide +kernel
theorem dX1_rowStaysWithin_42 : decode cX1_rowStaysWithin 42 = .ok (.lmul, 1) := by decide +kernel
theorem dX1_rowStaysWithin_43 : decode cX1_rowStaysWithin 43 = .ok (.lstore 6, 2) := by decide +kernel
theorem dX1_rowStaysWithin_45 : decode cX1_rowStaysWithin 45 = .ok (.aload_n 0, 1) := by decide +kernel
theorem dX1_rowStaysWithin_46 : decode cX1_rowStaysWithin 46 = .ok (.getfield 21, 3) := by decide +kernel
theorem dX1_rowStaysWithin_49 : decode cX1_rowStaysWithin 49 = .ok (.getfield 50, 3) := by decide +kernel
theorem dX1_rowStaysWithin_52 : decode cX1_rowStaysWithin 52 = .ok (.iload_n 3, 1) := by decide +kernel
theorem dX1_rowStaysWithin_53 : decode cX1_rowStaysWithin 53 = .ok (.laload, 1) := by decide +kernel
theorem dX1_rowStaysWithin_54 : decode cX1_rowStaysWithin 54 = .ok (.lload 4, 2) := by decide +kernel
theorem dX1_rowStaysWithin_56 : decode cX1_rowStaysWithin 56 = .ok (.lload 6, 2) := by decide +kernel
theorem dX1_rowStaysWithin_58 : decode cX1_rowStaysWithin 58 = .ok (.lmul, 1) := by decide +kernel
theorem dX1_rowStaysWithin_59 : decode cX1_rowStaysWithin 59 = .ok (.lsub, 1) := by decide +kernel
theorem dX1_rowStaysWithin_60 : decode cX1_rowStaysWithin 60 = .ok (.ldc2_w 138, 3) := by decide +kernel
theorem dX1_rowStaysWithin_63 : decode cX1_rowStaysWithin 63 = .ok (.invokestatic 125, 3) := by decide +kernel
theorem dX1_rowStaysWithin_66 : decode cX1_rowStaysWithin 66 = .ok (.ifCond .eq 5, 3) := by decide +kernel
theorem dX1_rowStaysWithin_69 : decode cX1_rowStaysWithin 69 = .ok (.iconst 0, 1) := by decide +kernel
theorem dX1_rowStaysWithin_70 : decode cX1_rowStaysWithin 70 = .ok (.ireturn, 1) := by decide +kernel
theorem dX1_rowStaysWithin_71 : decode cX1_rowStaysWithin 71 = .ok (.iconst 0, 1) := by decide +kernel
theorem dX1_rowStaysWithin_72 : decode cX1_rowStaysWithin 72 = .ok (.istore 8, 2) := by decide +kernel
theorem dX1_rowStaysWithin_74 : decode cX1_rowStaysWithin 74 = .ok (.iload 8, 2) := by decide +kernel
theorem dX1_rowStaysWithin_76 : decode cX1_rowStaysWithin 76 = .ok (.aload_n 0, 1) := by decide +kernel
theorem dX1_rowStaysWithin_77 : decode cX1_rowStaysWithin 77 = .ok (.getfield 21, 3) := by decide +kernel
theorem dX1_rowStaysWithin_80 : decode cX1_rowStaysWithin 80 = .ok (.getfield 129, 3) := by decide +kernel
theorem dX1_rowStaysWithin_83 : decode cX1_rowStaysWithin 83 = .ok (.if_icmp .ge 50, 3) := by decide +kernel
theorem dX1_rowStaysWithin_86 : decode cX1_rowStaysWithin 86 = .ok (.iload 8, 2) := by decide +kernel
theorem dX1_rowStaysWithin_88 : decode cX1_rowStaysWithin 88 = .ok (.iload_n 2, 1) := by decide +kernel
theorem dX1_rowStaysWithin_89 : decode cX1_rowStaysWithin 89 = .ok (.if_icmp .eq 38, 3) := by decide +kernel
theorem dX1_rowStaysWithin_92 : decode cX1_rowStaysWithin 92 = .ok (.aload_n 0, 1) := by decide +kernel
theorem dX1_rowStaysWithin_93 : decode cX1_rowStaysWithin 93 = .ok (.getfield 21, 3) := by decide +kernel
theorem dX1_rowStaysWithin_96 : decode cX1_rowStaysWithin 96 = .ok (.getfield 46, 3) := by decide +kernel
theorem dX1_rowStaysWithin_99 : decode cX1_rowStaysWithin 99 = .ok (.iload_n 3, 1) := by decide +kernel
theorem dX1_rowStaysWithin_100 : decode cX1_rowStaysWithin 100 = .ok (.aaload, 1) := by decide +kernel
theorem dX1_rowStaysWithin_101 : decode cX1_rowStaysWithin 101 = .ok (.iload 8, 2) := by decide +kernel
theorem dX1_rowStaysWithin_103 : decode cX1_rowStaysWithin 103 = .ok (.laload, 1) := by decide +kernel
theorem dX1_rowStaysWithin_104 : decode cX1_rowStaysWithin 104 = .ok (.lload 4, 2) := by decide +kernel
theorem dX1_rowStaysWithin_106 : decode cX1_rowStaysWithin 106 = .ok (.aload_n 0, 1) := by decide +kernel
theorem dX1_rowStaysWithin_107 : decode cX1_rowStaysWithin 107 = .ok (.iload_n 1, 1) := by decide +kernel
theorem dX1_rowStaysWithin_108 : decode cX1_rowStaysWithin 108 = .ok (.iload_n 2, 1) := by decide +kernel
theorem dX1_rowStaysWithin_109 : decode cX1_rowStaysWithin 109 = .ok (.iload 8, 2) := by decide +kernel
theorem dX1_rowStaysWithin_111 : decode cX1_rowStaysWithin 111 = .ok (.invokevirtual 104, 3) := by decide +kernel
theorem dX1_rowStaysWithin_114 : decode cX1_rowStaysWithin 114 = .ok (.lmul, 1) := by decide +kernel
theorem dX1_rowStaysWithin_115 : decode cX1_rowStaysWithin 115 = .ok (.ladd, 1) := by decide +kernel
theorem dX1_rowStaysWithin_116 : decode cX1_rowStaysWithin 116 = .ok (.ldc2_w 132, 3) := by decide +kernel
theorem dX1_rowStaysWithin_119 : decode cX1_rowStaysWithin 119 = .ok (.invokestatic 125, 3) := by decide +kernel
theorem dX1_rowStaysWithin_122 : decode cX1_rowStaysWithin 122 = .ok (.ifCond .eq 5, 3) := by decide +kernel
theorem dX1_rowStaysWithin_125 : decode cX1_rowStaysWithin 125 = .ok (.iconst 0, 1) := by decide +kernel
theorem dX1_rowStaysWithin_126 : decode cX1_rowStaysWithin 126 = .ok (.ireturn, 1) := by decide +kernel
theorem dX1_rowStaysWithin_127 : decode cX1_rowStaysWithin 127 = .ok (.iinc 8 1, 3) := by decide +kernel
theorem dX1_rowStaysWithin_130 : decode cX1_rowStaysWithin 130 = .ok (.goto (-56), 3) := by decide +kernel
theorem dX1_rowStaysWithin_133 : decode cX1_rowStaysWithin 133 = .ok (.iconst 1, 1) := by decide +kernel
theorem dX1_rowStaysWithin_134 : decode cX1_rowStaysWithin 134 = .ok (.ireturn, 1) := by decide +kernel
theorem dX1_staysWithin_0 : decode cX1_staysWithin 0 = .ok (.aload_n 0, 1) := by decide +kernel
theorem dX1_staysWithin_1 : decode cX1_staysWithin 1 = .ok (.getfield 21, 3) := by decide +kernel
theorem dX1_staysWithin_4 : decode cX1_staysWithin 4 = .ok (.getfield 46, 3) := by decide +kernel
theorem dX1_staysWithin_7 : decode cX1_staysWithin 7 = .ok (.iload_n 1, 1) := by decide +kernel
theorem dX1_staysWithin_8 : decode cX1_staysWithin 8 = .ok (.aaload, 1) := by decide +kernel
theorem dX1_staysWithin_9 : decode cX1_staysWithin 9 = .ok (.iload_n 2, 1) := by decide +kernel
theorem dX1_staysWithin_10 : decode cX1_staysWithin 10 = .ok (.laload, 1) := by decide +kernel
theorem dX1_staysWithin_11 : decode cX1_staysWithin 11 = .ok (.aload_n 0, 1) := by decide +kernel
theorem dX1_staysWithin_12 : decode cX1_staysWithin 12 = .ok (.getfield 21, 3) := by decide +kernel
theorem dX1_staysWithin_15 : decode cX1_staysWithin 15 = .ok (.getfield 50, 3) := by decide +kernel
theorem dX1_staysWithin_18 : decode cX1_staysWithin 18 = .ok (.iload_n 1, 1) := by decide +kernel
theorem dX1_staysWithin_19 : decode cX1_staysWithin 19 = .ok (.laload, 1) := by decide +kernel
theorem dX1_staysWithin_20 : decode cX1_staysWithin 20 = .ok (.lmul, 1) := by decide +kernel
theorem dX1_staysWithin_21 : decode cX1_staysWithin 21 = .ok (.lstore_n 3, 1) := by decide +kernel
theorem dX1_staysWithin_22 : decode cX1_staysWithin 22 = .ok (.lload_n 3, 1) := by decide +kernel
theorem dX1_staysWithin_23 : decode cX1_staysWithin 23 = .ok (.aload_n 0, 1) := by decide +kernel
theorem dX1_staysWithin_24 : decode cX1_staysWithin 24 = .ok (.getfield 21, 3) := by decide +kernel
theorem dX1_staysWithin_27 : decode cX1_staysWithin 27 = .ok (.getfield 60, 3) := by decide +kernel
theorem dX1_staysWithin_30 : decode cX1_staysWithin 30 = .ok (.iload_n 2, 1) := by decide +kernel
theorem dX1_staysWithin_31 : decode cX1_staysWithin 31 = .ok (.laload, 1) := by decide +kernel
theorem dX1_staysWithin_32 : decode cX1_staysWithin 32 = .ok (.lmul, 1) := by decide +kernel
theorem dX1_staysWithin_33 : decode cX1_staysWithin 33 = .ok (.ldc2_w 123, 3) := by decide +kernel
theorem dX1_staysWithin_36 : decode cX1_staysWithin 36 = .ok (.invokestatic 125, 3) := by decide +kernel
theorem dX1_staysWithin_39 : decode cX1_staysWithin 39 = .ok (.ifCond .eq 5, 3) := by decide +kernel
theorem dX1_staysWithin_42 : decode cX1_staysWithin 42 = .ok (.iconst 0, 1) := by decide +kernel
theorem dX1_staysWithin_43 : decode cX1_staysWithin 43 = .ok (.ireturn, 1) := by decide +kernel
theorem dX1_staysWithin_44 : decode cX1_staysWithin 44 = .ok (.iconst 0, 1) := by decide +kernel
theorem dX1_staysWithin_45 : decode cX1_staysWithin 45 = .ok (.istore 5, 2) := by decide +kernel
theorem dX1_staysWithin_47 : decode cX1_staysWithin 47 = .ok (.iload 5, 2) := by decide +kernel
theorem dX1_staysWithin_49 : decode cX1_staysWithin 49 = .ok (.aload_n 0, 1) := by decide +kernel
theorem dX1_staysWithin_50 : decode cX1_staysWithin 50 = .ok (.getfield 21, 3) := by decide +kernel
theorem dX1_staysWithin_53 : decode cX1_staysWithin 53 = .ok (.getfield 129, 3) := by decide +kernel
theorem dX1_staysWithin_56 : decode cX1_staysWithin 56 = .ok (.if_icmp .ge 49, 3) := by decide +kernel
theorem dX1_staysWithin_59 : decode cX1_staysWithin 59 = .ok (.aload_n 0, 1) := by decide +kernel
theorem dX1_staysWithin_60 : decode cX1_staysWithin 60 = .ok (.getfield 21, 3) := by decide +kernel
theorem dX1_staysWithin_63 : decode cX1_staysWithin 63 = .ok (.getfield 60, 3) := by decide +kernel
theorem dX1_staysWithin_66 : decode cX1_staysWithin 66 = .ok (.iload 5, 2) := by decide +kernel
theorem dX1_staysWithin_68 : decode cX1_staysWithin 68 = .ok (.laload, 1) := by decide +kernel
theorem dX1_staysWithin_69 : decode cX1_staysWithin 69 = .ok (.aload_n 0, 1) := by decide +kernel
theorem dX1_staysWithin_70 : decode cX1_staysWithin 70 = .ok (.iload_n 1, 1) := by decide +kernel
theorem dX1_staysWithin_71 : decode cX1_staysWithin 71 = .ok (.iload_n 2, 1) := by decide +kernel
theorem dX1_staysWithin_72 : decode cX1_staysWithin 72 = .ok (.iload 5, 2) := by decide +kernel
theorem dX1_staysWithin_74 : decode cX1_staysWithin 74 = .ok (.invokevirtual 104, 3) := by decide +kernel
theorem dX1_staysWithin_77 : decode cX1_staysWithin 77 = .ok (.aload_n 0, 1) := by decide +kernel
theorem dX1_staysWithin_78 : decode cX1_staysWithin 78 = .ok (.getfield 21, 3) := by decide +kernel
theorem dX1_staysWithin_81 : decode cX1_staysWithin 81 = .ok (.getfield 60, 3) := by decide +kernel
theorem dX1_staysWithin_84 : decode cX1_staysWithin 84 = .ok (.iload_n 2, 1) := by decide +kernel
theorem dX1_staysWithin_85 : decode cX1_staysWithin 85 = .ok (.laload, 1) := by decide +kernel
theorem dX1_staysWithin_86 : decode cX1_staysWithin 86 = .ok (.lmul, 1) := by decide +kernel
theorem dX1_staysWithin_87 : decode cX1_staysWithin 87 = .ok (.ladd, 1) := by decide +kernel
theorem dX1_staysWithin_88 : decode cX1_staysWithin 88 = .ok (.ldc2_w 132, 3) := by decide +kernel
theorem dX1_staysWithin_91 : decode cX1_staysWithin 91 = .ok (.invokestatic 125, 3) := by decide +kernel
theorem dX1_staysWithin_94 : decode cX1_staysWithin 94 = .ok (.ifCond .eq 5, 3) := by decide +kernel
theorem dX1_staysWithin_97 : decode cX1_staysWithin 97 = .ok (.iconst 0, 1) := by decide +kernel
theorem dX1_staysWithin_98 : decode cX1_staysWithin 98 = .ok (.ireturn, 1) := by decide +kernel
theorem dX1_staysWithin_99 : decode cX1_staysWithin 99 = .ok (.iinc 5 1, 3) := by decide +kernel
theorem dX1_staysWithin_102 : decode cX1_staysWithin 102 = .ok (.goto (-55), 3) := by decide +kernel
theorem dX1_staysWithin_105 : decode cX1_staysWithin 105 = .ok (.iconst 0, 1) := by decide +kernel
theorem dX1_staysWithin_106 : decode cX1_staysWithin 106 = .ok (.istore 5, 2) := by decide +kernel
theorem dX1_staysWithin_108 : decode cX1_staysWithin 108 = .ok (.iload 5, 2) := by decide +kernel
theorem dX1_staysWithin_110 : decode cX1_staysWithin 110 = .ok (.aload_n 0, 1) := by decide +kernel
theorem dX1_staysWithin_111 : decode cX1_staysWithin 111 = .ok (.getfield 21, 3) := by decide +kernel
theorem dX1_staysWithin_114 : decode cX1_staysWithin 114 = .ok (.getfield 38, 3) := by decide +kernel
theorem dX1_staysWithin_117 : decode cX1_staysWithin 117 = .ok (.if_icmp .ge 40, 3) := by decide +kernel
theorem dX1_staysWithin_120 : decode cX1_staysWithin 120 = .ok (.iload 5, 2) := by decide +kernel
theorem dX1_staysWithin_122 : decode cX1_staysWithin 122 = .ok (.iload_n 1, 1) := by decide +kernel
theorem dX1_staysWithin_123 : decode cX1_staysWithin 123 = .ok (.if_icmp .eq 28, 3) := by decide +kernel
theorem dX1_staysWithin_126 : decode cX1_staysWithin 126 = .ok (.aload_n 0, 1) := by decide +kernel
theorem dX1_staysWithin_127 : decode cX1_staysWithin 127 = .ok (.getfield 21, 3) := by decide +kernel
theorem dX1_staysWithin_130 : decode cX1_staysWithin 130 = .ok (.iload 5, 2) := by decide +kernel
theorem dX1_staysWithin_132 : decode cX1_staysWithin 132 = .ok (.invokevirtual 42, 3) := by decide +kernel
theorem dX1_staysWithin_135 : decode cX1_staysWithin 135 = .ok (.ifCond .ne 16, 3) := by decide +kernel
theorem dX1_staysWithin_138 : decode cX1_staysWithin 138 = .ok (.aload_n 0, 1) := by decide +kernel
theorem dX1_staysWithin_139 : decode cX1_staysWithin 139 = .ok (.iload_n 1, 1) := by decide +kernel
theorem dX1_staysWithin_140 : decode cX1_staysWithin 140 = .ok (.iload_n 2, 1) := by decide +kernel
theorem dX1_staysWithin_141 : decode cX1_staysWithin 141 = .ok (.iload 5, 2) := by decide +kernel
theorem dX1_staysWithin_143 : decode cX1_staysWithin 143 = .ok (.invokevirtual 134, 3) := by decide +kernel
theorem dX1_staysWithin_146 : decode cX1_staysWithin 146 = .ok (.ifCond .ne 5, 3) := by decide +kernel
theorem dX1_staysWithin_149 : decode cX1_staysWithin 149 = .ok (.iconst 0, 1) := by decide +kernel
theorem dX1_staysWithin_150 : decode cX1_staysWithin 150 = .ok (.ireturn, 1) := by decide +kernel
theorem dX1_staysWithin_151 : decode cX1_staysWithin 151 = .ok (.iinc 5 1, 3) := by decide +kernel
theorem dX1_staysWithin_154 : decode cX1_staysWithin 154 = .ok (.goto (-46), 3) := by decide +kernel
theorem dX1_staysWithin_157 : decode cX1_staysWithin 157 = .ok (.iconst 1, 1) := by decide +kernel
theorem dX1_staysWithin_158 : decode cX1_staysWithin 158 = .ok (.ireturn, 1) := by decide +kernel
theorem dX1_recordPutIn_0 : decode cX1_recordPutIn 0 = .ok (.aload_n 0, 1) := by decide +kernel
theorem dX1_recordPutIn_1 : decode cX1_recordPutIn 1 = .ok (.getfield 9, 3) := by decide +kernel
theorem dX1_recordPutIn_4 : decode cX1_recordPutIn 4 = .ok (.getfield 148, 3) := by decide +kernel
theorem dX1_recordPutIn_7 : decode cX1_recordPutIn 7 = .ok (.istore 5, 2) := by decide +kernel
theorem dX1_recordPutIn_9 : decode cX1_recordPutIn 9 = .ok (.iload 5, 2) := by decide +kernel
theorem dX1_recordPutIn_11 : decode cX1_recordPutIn 11 = .ok (.bipush 12, 2) := by decide +kernel
theorem dX1_recordPutIn_13 : decode cX1_recordPutIn 13 = .ok (.if_icmp .lt 4, 3) := by decide +kernel
theorem dX1_recordPutIn_16 : decode cX1_recordPutIn 16 = .ok (.return_, 1) := by decide +kernel
theorem dX1_recordPutIn_17 : decode cX1_recordPutIn 17 = .ok (.aload_n 0, 1) := by decide +kernel
theorem dX1_recordPutIn_18 : decode cX1_recordPutIn 18 = .ok (.getfield 9, 3) := by decide +kernel
theorem dX1_recordPutIn_21 : decode cX1_recordPutIn 21 = .ok (.getfield 151, 3) := by decide +kernel
theorem dX1_recordPutIn_24 : decode cX1_recordPutIn 24 = .ok (.iload 5, 2) := by decide +kernel
theorem dX1_recordPutIn_26 : decode cX1_recordPutIn 26 = .ok (.iload_n 2, 1) := by decide +kernel
theorem dX1_recordPutIn_27 : decode cX1_recordPutIn 27 = .ok (.iastore, 1) := by decide +kernel
theorem dX1_recordPutIn_28 : decode cX1_recordPutIn 28 = .ok (.aload_n 0, 1) := by decide +kernel
theorem dX1_recordPutIn_29 : decode cX1_recordPutIn 29 = .ok (.getfield 9, 3) := by decide +kernel
theorem dX1_recordPutIn_32 : decode cX1_recordPutIn 32 = .ok (.getfield 154, 3) := by decide +kernel
theorem dX1_recordPutIn_35 : decode cX1_recordPutIn 35 = .ok (.iload 5, 2) := by decide +kernel
theorem dX1_recordPutIn_37 : decode cX1_recordPutIn 37 = .ok (.lload_n 3, 1) := by decide +kernel
theorem dX1_recordPutIn_38 : decode cX1_recordPutIn 38 = .ok (.lastore, 1) := by decide +kernel
theorem dX1_recordPutIn_39 : decode cX1_recordPutIn 39 = .ok (.iconst 0, 1) := by decide +kernel
theorem dX1_recordPutIn_40 : decode cX1_recordPutIn 40 = .ok (.istore 6, 2) := by decide +kernel
theorem dX1_recordPutIn_42 : decode cX1_recordPutIn 42 = .ok (.iload 6, 2) := by decide +kernel
theorem dX1_recordPutIn_44 : decode cX1_recordPutIn 44 = .ok (.aload_n 0, 1) := by decide +kernel
theorem dX1_recordPutIn_45 : decode cX1_recordPutIn 45 = .ok (.getfield 21, 3) := by decide +kernel
theorem dX1_recordPutIn_48 : decode cX1_recordPutIn 48 = .ok (.getfield 129, 3) := by decide +kernel
theorem dX1_recordPutIn_51 : decode cX1_recordPutIn 51 = .ok (.if_icmp .ge 30, 3) := by decide +kernel
theorem dX1_recordPutIn_54 : decode cX1_recordPutIn 54 = .ok (.aload_n 0, 1) := by decide +kernel
theorem dX1_recordPutIn_55 : decode cX1_recordPutIn 55 = .ok (.getfield 9, 3) := by decide +kernel
theorem dX1_recordPutIn_58 : decode cX1_recordPutIn 58 = .ok (.getfield 157, 3) := by decide +kernel
theorem dX1_recordPutIn_61 : decode cX1_recordPutIn 61 = .ok (.iload 5, 2) := by decide +kernel
theorem dX1_recordPutIn_63 : decode cX1_recordPutIn 63 = .ok (.aaload, 1) := by decide +kernel
theorem dX1_recordPutIn_64 : decode cX1_recordPutIn 64 = .ok (.iload 6, 2) := by decide +kernel
theorem dX1_recordPutIn_66 : decode cX1_recordPutIn 66 = .ok (.aload_n 0, 1) := by decide +kernel
theorem dX1_recordPutIn_67 : decode cX1_recordPutIn 67 = .ok (.iload_n 1, 1) := by decide +kernel
theorem dX1_recordPutIn_68 : decode cX1_recordPutIn 68 = .ok (.iload_n 2, 1) := by decide +kernel
theorem dX1_recordPutIn_69 : decode cX1_recordPutIn 69 = .ok (.iload 6, 2) := by decide +kernel
theorem dX1_recordPutIn_71 : decode cX1_recordPutIn 71 = .ok (.invokevirtual 104, 3) := by decide +kernel
theorem dX1_recordPutIn_74 : decode cX1_recordPutIn 74 = .ok (.lastore, 1) := by decide +kernel
theorem dX1_recordPutIn_75 : decode cX1_recordPutIn 75 = .ok (.iinc 6 1, 3) := by decide +kernel
theorem dX1_recordPutIn_78 : decode cX1_recordPutIn 78 = .ok (.goto (-36), 3) := by decide +kernel
theorem dX1_recordPutIn_81 : decode cX1_recordPutIn 81 = .ok (.aload_n 0, 1) := by decide +kernel
theorem dX1_recordPutIn_82 : decode cX1_recordPutIn 82 = .ok (.getfield 9, 3) := by decide +kernel
theorem dX1_recordPutIn_85 : decode cX1_recordPutIn 85 = .ok (.iload 5, 2) := by decide +kernel
theorem dX1_recordPutIn_87 : decode cX1_recordPutIn 87 = .ok (.iconst 1, 1) := by decide +kernel
theorem dX1_recordPutIn_88 : decode cX1_recordPutIn 88 = .ok (.iadd, 1) := by decide +kernel
theorem dX1_recordPutIn_89 : decode cX1_recordPutIn 89 = .ok (.putfield 148, 3) := by decide +kernel
theorem dX1_recordPutIn_92 : decode cX1_recordPutIn 92 = .ok (.return_, 1) := by decide +kernel
theorem dX1_putInRow_0 : decode cX1_putInRow 0 = .ok (.aload_n 0, 1) := by decide +kernel
theorem dX1_putInRow_1 : decode cX1_putInRow 1 = .ok (.getfield 21, 3) := by decide +kernel
theorem dX1_putInRow_4 : decode cX1_putInRow 4 = .ok (.getfield 46, 3) := by decide +kernel
theorem dX1_putInRow_7 : decode cX1_putInRow 7 = .ok (.iload_n 3, 1) := by decide +kernel
theorem dX1_putInRow_8 : decode cX1_putInRow 8 = .ok (.aaload, 1) := by decide +kernel
theorem dX1_putInRow_9 : decode cX1_putInRow 9 = .ok (.iload_n 2, 1) := by decide +kernel
theorem dX1_putInRow_10 : decode cX1_putInRow 10 = .ok (.laload, 1) := by decide +kernel
theorem dX1_putInRow_11 : decode cX1_putInRow 11 = .ok (.lstore 4, 2) := by decide +kernel
theorem dX1_putInRow_13 : decode cX1_putInRow 13 = .ok (.iconst 0, 1) := by decide +kernel
theorem dX1_putInRow_14 : decode cX1_putInRow 14 = .ok (.istore 6, 2) := by decide +kernel
theorem dX1_putInRow_16 : decode cX1_putInRow 16 = .ok (.iload 6, 2) := by decide +kernel
theorem dX1_putInRow_18 : decode cX1_putInRow 18 = .ok (.aload_n 0, 1) := by decide +kernel
theorem dX1_putInRow_19 : decode cX1_putInRow 19 = .ok (.getfield 21, 3) := by decide +kernel
theorem dX1_putInRow_22 : decode cX1_putInRow 22 = .ok (.getfield 129, 3) := by decide +kernel
theorem dX1_putInRow_25 : decode cX1_putInRow 25 = .ok (.if_icmp .ge 35, 3) := by decide +kernel
theorem dX1_putInRow_28 : decode cX1_putInRow 28 = .ok (.aload_n 0, 1) := by decide +kernel
theorem dX1_putInRow_29 : decode cX1_putInRow 29 = .ok (.getfield 21, 3) := by decide +kernel
theorem dX1_putInRow_32 : decode cX1_putInRow 32 = .ok (.getfield 46, 3) := by decide +kernel
theorem dX1_putInRow_35 : decode cX1_putInRow 35 = .ok (.iload_n 3, 1) := by decide +kernel
theorem dX1_putInRow_36 : decode cX1_putInRow 36 = .ok (.aaload, 1) := by decide +kernel
theorem dX1_putInRow_37 : decode cX1_putInRow 37 = .ok (.iload 6, 2) := by decide +kernel
theorem dX1_putInRow_39 : decode cX1_putInRow 39 = .ok (.dup2, 1) := by decide +kernel
theorem dX1_putInRow_40 : decode cX1_putInRow 40 = .ok (.laload, 1) := by decide +kernel
theorem dX1_putInRow_41 : decode cX1_putInRow 41 = .ok (.lload 4, 2) := by decide +kernel
theorem dX1_putInRow_43 : decode cX1_putInRow 43 = .ok (.aload_n 0, 1) := by decide +kernel
theorem dX1_putInRow_44 : decode cX1_putInRow 44 = .ok (.iload_n 1, 1) := by decide +kernel
theorem dX1_putInRow_45 : decode cX1_putInRow 45 = .ok (.iload_n 2, 1) := by decide +kernel
theorem dX1_putInRow_46 : decode cX1_putInRow 46 = .ok (.iload 6, 2) := by decide +kernel
theorem dX1_putInRow_48 : decode cX1_putInRow 48 = .ok (.invokevirtual 104, 3) := by decide +kernel
theorem dX1_putInRow_51 : decode cX1_putInRow 51 = .ok (.lmul, 1) := by decide +kernel
theorem dX1_putInRow_52 : decode cX1_putInRow 52 = .ok (.ladd, 1) := by decide +kernel
theorem dX1_putInRow_53 : decode cX1_putInRow 53 = .ok (.lastore, 1) := by decide +kernel
theorem dX1_putInRow_54 : decode cX1_putInRow 54 = .ok (.iinc 6 1, 3) := by decide +kernel
theorem dX1_putInRow_57 : decode cX1_putInRow 57 = .ok (.goto (-41), 3) := by decide +kernel
theorem dX1_putInRow_60 : decode cX1_putInRow 60 = .ok (.aload_n 0, 1) := by decide +kernel
theorem dX1_putInRow_61 : decode cX1_putInRow 61 = .ok (.getfield 21, 3) := by decide +kernel
theorem dX1_putInRow_64 : decode cX1_putInRow 64 = .ok (.getfield 46, 3) := by decide +kernel
theorem dX1_putInRow_67 : decode cX1_putInRow 67 = .ok (.iload_n 3, 1) := by decide +kernel
theorem dX1_putInRow_68 : decode cX1_putInRow 68 = .ok (.aaload, 1) := by decide +kernel
theorem dX1_putInRow_69 : decode cX1_putInRow 69 = .ok (.iload_n 2, 1) := by decide +kernel
theorem dX1_putInRow_70 : decode cX1_putInRow 70 = .ok (.lconst 0, 1) := by decide +kernel
theorem dX1_putInRow_71 : decode cX1_putInRow 71 = .ok (.lastore, 1) := by decide +kernel
theorem dX1_putInRow_72 : decode cX1_putInRow 72 = .ok (.aload_n 0, 1) := by decide +kernel
theorem dX1_putInRow_73 : decode cX1_putInRow 73 = .ok (.getfield 21, 3) := by decide +kernel
theorem dX1_putInRow_76 : decode cX1_putInRow 76 = .ok (.getfield 50, 3) := by decide +kernel
theorem dX1_putInRow_79 : decode cX1_putInRow 79 = .ok (.iload_n 3, 1) := by decide +kernel
theorem dX1_putInRow_80 : decode cX1_putInRow 80 = .ok (.dup2, 1) := by decide +kernel
theorem dX1_putInRow_81 : decode cX1_putInRow 81 = .ok (.laload, 1) := by decide +kernel
theorem dX1_putInRow_82 : decode cX1_putInRow 82 = .ok (.lload 4, 2) := by decide +kernel
theorem dX1_putInRow_84 : decode cX1_putInRow 84 = .ok (.aload_n 0, 1) := by decide +kernel
theorem dX1_putInRow_85 : decode cX1_putInRow 85 = .ok (.getfield 21, 3) := by decide +kernel
theorem dX1_putInRow_88 : decode cX1_putInRow 88 = .ok (.getfield 46, 3) := by decide +kernel
theorem dX1_putInRow_91 : decode cX1_putInRow 91 = .ok (.iload_n 1, 1) := by decide +kernel
theorem dX1_putInRow_92 : decode cX1_putInRow 92 = .ok (.aaload, 1) := by decide +kernel
theorem dX1_putInRow_93 : decode cX1_putInRow 93 = .ok (.iload_n 2, 1) := by decide +kernel
theorem dX1_putInRow_94 : decode cX1_putInRow 94 = .ok (.laload, 1) := by decide +kernel
theorem dX1_putInRow_95 : decode cX1_putInRow 95 = .ok (.lmul, 1) := by decide +kernel
theorem dX1_putInRow_96 : decode cX1_putInRow 96 = .ok (.aload_n 0, 1) := by decide +kernel
theorem dX1_putInRow_97 : decode cX1_putInRow 97 = .ok (.getfield 21, 3) := by decide +kernel
theorem dX1_putInRow_100 : decode cX1_putInRow 100 = .ok (.getfield 50, 3) := by decide +kernel
theorem dX1_putInRow_103 : decode cX1_putInRow 103 = .ok (.iload_n 1, 1) := by decide +kernel
theorem dX1_putInRow_104 : decode cX1_putInRow 104 = .ok (.laload, 1) := by decide +kernel
theorem dX1_putInRow_105 : decode cX1_putInRow 105 = .ok (.lmul, 1) := by decide +kernel
theorem dX1_putInRow_106 : decode cX1_putInRow 106 = .ok (.lsub, 1) := by decide +kernel
theorem dX1_putInRow_107 : decode cX1_putInRow 107 = .ok (.lastore, 1) := by decide +kernel
theorem dX1_putInRow_108 : decode cX1_putInRow 108 = .ok (.aload_n 0, 1) := by decide +kernel
theorem dX1_putInRow_109 : decode cX1_putInRow 109 = .ok (.getfield 9, 3) := by decide +kernel
theorem dX1_putInRow_112 : decode cX1_putInRow 112 = .ok (.getfield 53, 3) := by decide +kernel
theorem dX1_putInRow_115 : decode cX1_putInRow 115 = .ok (.iload_n 3, 1) := by decide +kernel
theorem dX1_putInRow_116 : decode cX1_putInRow 116 = .ok (.dup2, 1) := by decide +kernel
theorem dX1_putInRow_117 : decode cX1_putInRow 117 = .ok (.iaload, 1) := by decide +kernel
theorem dX1_putInRow_118 : decode cX1_putInRow 118 = .ok (.aload_n 0, 1) := by decide +kernel
theorem dX1_putInRow_119 : decode cX1_putInRow 119 = .ok (.getfield 9, 3) := by decide +kernel
theorem dX1_putInRow_122 : decode cX1_putInRow 122 = .ok (.getfield 53, 3) := by decide +kernel
theorem dX1_putInRow_125 : decode cX1_putInRow 125 = .ok (.iload_n 1, 1) := by decide +kernel
theorem dX1_putInRow_126 : decode cX1_putInRow 126 = .ok (.iaload, 1) := by decide +kernel
theorem dX1_putInRow_127 : decode cX1_putInRow 127 = .ok (.ior, 1) := by decide +kernel
theorem dX1_putInRow_128 : decode cX1_putInRow 128 = .ok (.iastore, 1) := by decide +kernel
theorem dX1_putInRow_129 : decode cX1_putInRow 129 = .ok (.return_, 1) := by decide +kernel
theorem dX1_putInFor_0 : decode cX1_putInFor 0 = .ok (.aload_n 0, 1) := by decide +kernel
theorem dX1_putInFor_1 : decode cX1_putInFor 1 = .ok (.getfield 21, 3) := by decide +kernel
theorem dX1_putInFor_4 : decode cX1_putInFor 4 = .ok (.getfield 46, 3) := by decide +kernel
theorem dX1_putInFor_7 : decode cX1_putInFor 7 = .ok (.iload_n 1, 1) := by decide +kernel
theorem dX1_putInFor_8 : decode cX1_putInFor 8 = .ok (.aaload, 1) := by decide +kernel
theorem dX1_putInFor_9 : decode cX1_putInFor 9 = .ok (.iload_n 2, 1) := by decide +kernel
theorem dX1_putInFor_10 : decode cX1_putInFor 10 = .ok (.laload, 1) := by decide +kernel
theorem dX1_putInFor_11 : decode cX1_putInFor 11 = .ok (.aload_n 0, 1) := by decide +kernel
theorem dX1_putInFor_12 : decode cX1_putInFor 12 = .ok (.getfield 21, 3) := by decide +kernel
theorem dX1_putInFor_15 : decode cX1_putInFor 15 = .ok (.getfield 50, 3) := by decide +kernel
theorem dX1_putInFor_18 : decode cX1_putInFor 18 = .ok (.iload_n 1, 1) := by decide +kernel
theorem dX1_putInFor_19 : decode cX1_putInFor 19 = .ok (.laload, 1) := by decide +kernel
theorem dX1_putInFor_20 : decode cX1_putInFor 20 = .ok (.lmul, 1) := by decide +kernel
theorem dX1_putInFor_21 : decode cX1_putInFor 21 = .ok (.lstore_n 3, 1) := by decide +kernel
theorem dX1_putInFor_22 : decode cX1_putInFor 22 = .ok (.aload_n 0, 1) := by decide +kernel
theorem dX1_putInFor_23 : decode cX1_putInFor 23 = .ok (.iload_n 1, 1) := by decide +kernel
theorem dX1_putInFor_24 : decode cX1_putInFor 24 = .ok (.iload_n 2, 1) := by decide +kernel
theorem dX1_putInFor_25 : decode cX1_putInFor 25 = .ok (.lload_n 3, 1) := by decide +kernel
theorem dX1_putInFor_26 : decode cX1_putInFor 26 = .ok (.invokevirtual 140, 3) := by decide +kernel
theorem dX1_putInFor_29 : decode cX1_putInFor 29 = .ok (.iconst 0, 1) := by decide +kernel
theorem dX1_putInFor_30 : decode cX1_putInFor 30 = .ok (.istore 5, 2) := by decide +kernel
theorem dX1_putInFor_32 : decode cX1_putInFor 32 = .ok (.iload 5, 2) := by decide +kernel
theorem dX1_putInFor_34 : decode cX1_putInFor 34 = .ok (.aload_n 0, 1) := by decide +kernel
theorem dX1_putInFor_35 : decode cX1_putInFor 35 = .ok (.getfield 21, 3) := by decide +kernel
theorem dX1_putInFor_38 : decode cX1_putInFor 38 = .ok (.getfield 129, 3) := by decide +kernel
theorem dX1_putInFor_41 : decode cX1_putInFor 41 = .ok (.if_icmp .ge 40, 3) := by decide +kernel
theorem dX1_putInFor_44 : decode cX1_putInFor 44 = .ok (.aload_n 0, 1) := by decide +kernel
theorem dX1_putInFor_45 : decode cX1_putInFor 45 = .ok (.getfield 21, 3) := by decide +kernel
theorem dX1_putInFor_48 : decode cX1_putInFor 48 = .ok (.getfield 60, 3) := by decide +kernel
theorem dX1_putInFor_51 : decode cX1_putInFor 51 = .ok (.iload 5, 2) := by decide +kernel
theorem dX1_putInFor_53 : decode cX1_putInFor 53 = .ok (.dup2, 1) := by decide +kernel
theorem dX1_putInFor_54 : decode cX1_putInFor 54 = .ok (.laload, 1) := by decide +kernel
theorem dX1_putInFor_55 : decode cX1_putInFor 55 = .ok (.aload_n 0, 1) := by decide +kernel
theorem dX1_putInFor_56 : decode cX1_putInFor 56 = .ok (.iload_n 1, 1) := by decide +kernel
theorem dX1_putInFor_57 : decode cX1_putInFor 57 = .ok (.iload_n 2, 1) := by decide +kernel
theorem dX1_putInFor_58 : decode cX1_putInFor 58 = .ok (.iload 5, 2) := by decide +kernel
theorem dX1_putInFor_60 : decode cX1_putInFor 60 = .ok (.invokevirtual 104, 3) := by decide +kernel
theorem dX1_putInFor_63 : decode cX1_putInFor 63 = .ok (.aload_n 0, 1) := by decide +kernel
theorem dX1_putInFor_64 : decode cX1_putInFor 64 = .ok (.getfield 21, 3) := by decide +kernel
theorem dX1_putInFor_67 : decode cX1_putInFor 67 = .ok (.getfield 60, 3) := by decide +kernel
theorem dX1_putInFor_70 : decode cX1_putInFor 70 = .ok (.iload_n 2, 1) := by decide +kernel
theorem dX1_putInFor_71 : decode cX1_putInFor 71 = .ok (.laload, 1) := by decide +kernel
theorem dX1_putInFor_72 : decode cX1_putInFor 72 = .ok (.lmul, 1) := by decide +kernel
theorem dX1_putInFor_73 : decode cX1_putInFor 73 = .ok (.ladd, 1) := by decide +kernel
theorem dX1_putInFor_74 : decode cX1_putInFor 74 = .ok (.lastore, 1) := by decide +kernel
theorem dX1_putInFor_75 : decode cX1_putInFor 75 = .ok (.iinc 5 1, 3) := by decide +kernel
theorem dX1_putInFor_78 : decode cX1_putInFor 78 = .ok (.goto (-46), 3) := by decide +kernel
theorem dX1_putInFor_81 : decode cX1_putInFor 81 = .ok (.aload_n 0, 1) := by decide +kernel
theorem dX1_putInFor_82 : decode cX1_putInFor 82 = .ok (.getfield 9, 3) := by decide +kernel
theorem dX1_putInFor_85 : decode cX1_putInFor 85 = .ok (.dup, 1) := by decide +kernel
theorem dX1_putInFor_86 : decode cX1_putInFor 86 = .ok (.getfield 56, 3) := by decide +kernel
theorem dX1_putInFor_89 : decode cX1_putInFor 89 = .ok (.lload_n 3, 1) := by decide +kernel
theorem dX1_putInFor_90 : decode cX1_putInFor 90 = .ok (.aload_n 0, 1) := by decide +kernel
theorem dX1_putInFor_91 : decode cX1_putInFor 91 = .ok (.getfield 21, 3) := by decide +kernel
theorem dX1_putInFor_94 : decode cX1_putInFor 94 = .ok (.getfield 60, 3) := by decide +kernel
theorem dX1_putInFor_97 : decode cX1_putInFor 97 = .ok (.iload_n 2, 1) := by decide +kernel
theorem dX1_putInFor_98 : decode cX1_putInFor 98 = .ok (.laload, 1) := by decide +kernel
theorem dX1_putInFor_99 : decode cX1_putInFor 99 = .ok (.lmul, 1) := by decide +kernel
theorem dX1_putInFor_100 : decode cX1_putInFor 100 = .ok (.ladd, 1) := by decide +kernel
theorem dX1_putInFor_101 : decode cX1_putInFor 101 = .ok (.putfield 56, 3) := by decide +kernel
theorem dX1_putInFor_104 : decode cX1_putInFor 104 = .ok (.iconst 0, 1) := by decide +kernel
theorem dX1_putInFor_105 : decode cX1_putInFor 105 = .ok (.istore 5, 2) := by decide +kernel
theorem dX1_putInFor_107 : decode cX1_putInFor 107 = .ok (.iload 5, 2) := by decide +kernel
theorem dX1_putInFor_109 : decode cX1_putInFor 109 = .ok (.aload_n 0, 1) := by decide +kernel
theorem dX1_putInFor_110 : decode cX1_putInFor 110 = .ok (.getfield 21, 3) := by decide +kernel
theorem dX1_putInFor_113 : decode cX1_putInFor 113 = .ok (.getfield 38, 3) := by decide +kernel
theorem dX1_putInFor_116 : decode cX1_putInFor 116 = .ok (.if_icmp .ge 52, 3) := by decide +kernel
theorem dX1_putInFor_119 : decode cX1_putInFor 119 = .ok (.iload 5, 2) := by decide +kernel
theorem dX1_putInFor_121 : decode cX1_putInFor 121 = .ok (.iload_n 1, 1) := by decide +kernel
theorem dX1_putInFor_122 : decode cX1_putInFor 122 = .ok (.if_icmp .eq 40, 3) := by decide +kernel
theorem dX1_putInFor_125 : decode cX1_putInFor 125 = .ok (.aload_n 0, 1) := by decide +kernel
theorem dX1_putInFor_126 : decode cX1_putInFor 126 = .ok (.getfield 21, 3) := by decide +kernel
theorem dX1_putInFor_129 : decode cX1_putInFor 129 = .ok (.iload 5, 2) := by decide +kernel
theorem dX1_putInFor_131 : decode cX1_putInFor 131 = .ok (.invokevirtual 42, 3) := by decide +kernel
theorem dX1_putInFor_134 : decode cX1_putInFor 134 = .ok (.ifCond .ne 28, 3) := by decide +kernel
theorem dX1_putInFor_137 : decode cX1_putInFor 137 = .ok (.aload_n 0, 1) := by decide +kernel
theorem dX1_putInFor_138 : decode cX1_putInFor 138 = .ok (.getfield 21, 3) := by decide +kernel
