theorem dX1_putInFor_141 : decode cX1_putInFor 141 = .ok (.getfield 46, 3) := by decide +kernel
theorem dX1_putInFor_144 : decode cX1_putInFor 144 = .ok (.iload 5, 2) := by decide +kernel
theorem dX1_putInFor_146 : decode cX1_putInFor 146 = .ok (.aaload, 1) := by decide +kernel
theorem dX1_putInFor_147 : decode cX1_putInFor 147 = .ok (.iload_n 2, 1) := by decide +kernel
theorem dX1_putInFor_148 : decode cX1_putInFor 148 = .ok (.laload, 1) := by decide +kernel
theorem dX1_putInFor_149 : decode cX1_putInFor 149 = .ok (.lconst 0, 1) := by decide +kernel
theorem dX1_putInFor_150 : decode cX1_putInFor 150 = .ok (.lcmp, 1) := by decide +kernel
theorem dX1_putInFor_151 : decode cX1_putInFor 151 = .ok (.ifCond .eq 11, 3) := by decide +kernel
theorem dX1_putInFor_154 : decode cX1_putInFor 154 = .ok (.aload_n 0, 1) := by decide +kernel
theorem dX1_putInFor_155 : decode cX1_putInFor 155 = .ok (.iload_n 1, 1) := by decide +kernel
theorem dX1_putInFor_156 : decode cX1_putInFor 156 = .ok (.iload_n 2, 1) := by decide +kernel
theorem dX1_putInFor_157 : decode cX1_putInFor 157 = .ok (.iload 5, 2) := by decide +kernel
theorem dX1_putInFor_159 : decode cX1_putInFor 159 = .ok (.invokevirtual 144, 3) := by decide +kernel
theorem dX1_putInFor_162 : decode cX1_putInFor 162 = .ok (.iinc 5 1, 3) := by decide +kernel
theorem dX1_putInFor_165 : decode cX1_putInFor 165 = .ok (.goto (-58), 3) := by decide +kernel
theorem dX1_putInFor_168 : decode cX1_putInFor 168 = .ok (.aload_n 0, 1) := by decide +kernel
theorem dX1_putInFor_169 : decode cX1_putInFor 169 = .ok (.getfield 21, 3) := by decide +kernel
theorem dX1_putInFor_172 : decode cX1_putInFor 172 = .ok (.getfield 63, 3) := by decide +kernel
theorem dX1_putInFor_175 : decode cX1_putInFor 175 = .ok (.iload_n 2, 1) := by decide +kernel
theorem dX1_putInFor_176 : decode cX1_putInFor 176 = .ok (.iconst 2, 1) := by decide +kernel
theorem dX1_putInFor_177 : decode cX1_putInFor 177 = .ok (.iastore, 1) := by decide +kernel
theorem dX1_putInFor_178 : decode cX1_putInFor 178 = .ok (.aload_n 0, 1) := by decide +kernel
theorem dX1_putInFor_179 : decode cX1_putInFor 179 = .ok (.getfield 21, 3) := by decide +kernel
theorem dX1_putInFor_182 : decode cX1_putInFor 182 = .ok (.getfield 91, 3) := by decide +kernel
theorem dX1_putInFor_185 : decode cX1_putInFor 185 = .ok (.iload_n 1, 1) := by decide +kernel
theorem dX1_putInFor_186 : decode cX1_putInFor 186 = .ok (.iconst (-1), 1) := by decide +kernel
theorem dX1_putInFor_187 : decode cX1_putInFor 187 = .ok (.iastore, 1) := by decide +kernel
theorem dX1_putInFor_188 : decode cX1_putInFor 188 = .ok (.aload_n 0, 1) := by decide +kernel
theorem dX1_putInFor_189 : decode cX1_putInFor 189 = .ok (.getfield 9, 3) := by decide +kernel
theorem dX1_putInFor_192 : decode cX1_putInFor 192 = .ok (.getfield 66, 3) := by decide +kernel
theorem dX1_putInFor_195 : decode cX1_putInFor 195 = .ok (.aload_n 0, 1) := by decide +kernel
theorem dX1_putInFor_196 : decode cX1_putInFor 196 = .ok (.getfield 9, 3) := by decide +kernel
theorem dX1_putInFor_199 : decode cX1_putInFor 199 = .ok (.getfield 70, 3) := by decide +kernel
theorem dX1_putInFor_202 : decode cX1_putInFor 202 = .ok (.iload_n 1, 1) := by decide +kernel
theorem dX1_putInFor_203 : decode cX1_putInFor 203 = .ok (.iload_n 2, 1) := by decide +kernel
theorem dX1_putInFor_204 : decode cX1_putInFor 204 = .ok (.iconst 5, 1) := by decide +kernel
theorem dX1_putInFor_205 : decode cX1_putInFor 205 = .ok (.lload_n 3, 1) := by decide +kernel
theorem dX1_putInFor_206 : decode cX1_putInFor 206 = .ok (.invokevirtual 73, 3) := by decide +kernel
theorem dX1_putInFor_209 : decode cX1_putInFor 209 = .ok (.return_, 1) := by decide +kernel
theorem dX1_putIn_0 : decode cX1_putIn 0 = .ok (.aload_n 0, 1) := by decide +kernel
theorem dX1_putIn_1 : decode cX1_putIn 1 = .ok (.getfield 21, 3) := by decide +kernel
theorem dX1_putIn_4 : decode cX1_putIn 4 = .ok (.iload_n 1, 1) := by decide +kernel
theorem dX1_putIn_5 : decode cX1_putIn 5 = .ok (.iconst 0, 1) := by decide +kernel
theorem dX1_putIn_6 : decode cX1_putIn 6 = .ok (.invokevirtual 94, 3) := by decide +kernel
theorem dX1_putIn_9 : decode cX1_putIn 9 = .ok (.istore_n 2, 1) := by decide +kernel
theorem dX1_putIn_10 : decode cX1_putIn 10 = .ok (.iload_n 2, 1) := by decide +kernel
theorem dX1_putIn_11 : decode cX1_putIn 11 = .ok (.iconst (-1), 1) := by decide +kernel
theorem dX1_putIn_12 : decode cX1_putIn 12 = .ok (.if_icmp .eq 16, 3) := by decide +kernel
theorem dX1_putIn_15 : decode cX1_putIn 15 = .ok (.aload_n 0, 1) := by decide +kernel
theorem dX1_putIn_16 : decode cX1_putIn 16 = .ok (.getfield 21, 3) := by decide +kernel
theorem dX1_putIn_19 : decode cX1_putIn 19 = .ok (.getfield 91, 3) := by decide +kernel
theorem dX1_putIn_22 : decode cX1_putIn 22 = .ok (.iload_n 1, 1) := by decide +kernel
theorem dX1_putIn_23 : decode cX1_putIn 23 = .ok (.iaload, 1) := by decide +kernel
theorem dX1_putIn_24 : decode cX1_putIn 24 = .ok (.iconst 1, 1) := by decide +kernel
theorem dX1_putIn_25 : decode cX1_putIn 25 = .ok (.if_icmp .eq 5, 3) := by decide +kernel
theorem dX1_putIn_28 : decode cX1_putIn 28 = .ok (.iconst 1, 1) := by decide +kernel
theorem dX1_putIn_29 : decode cX1_putIn 29 = .ok (.ireturn, 1) := by decide +kernel
theorem dX1_putIn_30 : decode cX1_putIn 30 = .ok (.aload_n 0, 1) := by decide +kernel
theorem dX1_putIn_31 : decode cX1_putIn 31 = .ok (.getfield 21, 3) := by decide +kernel
theorem dX1_putIn_34 : decode cX1_putIn 34 = .ok (.iload_n 1, 1) := by decide +kernel
theorem dX1_putIn_35 : decode cX1_putIn 35 = .ok (.iload_n 2, 1) := by decide +kernel
theorem dX1_putIn_36 : decode cX1_putIn 36 = .ok (.iconst 1, 1) := by decide +kernel
theorem dX1_putIn_37 : decode cX1_putIn 37 = .ok (.iadd, 1) := by decide +kernel
theorem dX1_putIn_38 : decode cX1_putIn 38 = .ok (.invokevirtual 94, 3) := by decide +kernel
theorem dX1_putIn_41 : decode cX1_putIn 41 = .ok (.istore_n 3, 1) := by decide +kernel
theorem dX1_putIn_42 : decode cX1_putIn 42 = .ok (.iload_n 3, 1) := by decide +kernel
theorem dX1_putIn_43 : decode cX1_putIn 43 = .ok (.iconst (-1), 1) := by decide +kernel
theorem dX1_putIn_44 : decode cX1_putIn 44 = .ok (.if_icmp .eq 18, 3) := by decide +kernel
theorem dX1_putIn_47 : decode cX1_putIn 47 = .ok (.aload_n 0, 1) := by decide +kernel
theorem dX1_putIn_48 : decode cX1_putIn 48 = .ok (.getfield 21, 3) := by decide +kernel
theorem dX1_putIn_51 : decode cX1_putIn 51 = .ok (.iload_n 1, 1) := by decide +kernel
theorem dX1_putIn_52 : decode cX1_putIn 52 = .ok (.iload_n 3, 1) := by decide +kernel
theorem dX1_putIn_53 : decode cX1_putIn 53 = .ok (.iconst 1, 1) := by decide +kernel
theorem dX1_putIn_54 : decode cX1_putIn 54 = .ok (.iadd, 1) := by decide +kernel
theorem dX1_putIn_55 : decode cX1_putIn 55 = .ok (.invokevirtual 94, 3) := by decide +kernel
theorem dX1_putIn_58 : decode cX1_putIn 58 = .ok (.iconst (-1), 1) := by decide +kernel
theorem dX1_putIn_59 : decode cX1_putIn 59 = .ok (.if_icmp .eq 5, 3) := by decide +kernel
theorem dX1_putIn_62 : decode cX1_putIn 62 = .ok (.iconst 1, 1) := by decide +kernel
theorem dX1_putIn_63 : decode cX1_putIn 63 = .ok (.ireturn, 1) := by decide +kernel
theorem dX1_putIn_64 : decode cX1_putIn 64 = .ok (.aload_n 0, 1) := by decide +kernel
theorem dX1_putIn_65 : decode cX1_putIn 65 = .ok (.getfield 21, 3) := by decide +kernel
theorem dX1_putIn_68 : decode cX1_putIn 68 = .ok (.iload_n 1, 1) := by decide +kernel
theorem dX1_putIn_69 : decode cX1_putIn 69 = .ok (.iload_n 3, 1) := by decide +kernel
theorem dX1_putIn_70 : decode cX1_putIn 70 = .ok (.invokevirtual 98, 3) := by decide +kernel
theorem dX1_putIn_73 : decode cX1_putIn 73 = .ok (.ifCond .eq 7, 3) := by decide +kernel
theorem dX1_putIn_76 : decode cX1_putIn 76 = .ok (.iload_n 3, 1) := by decide +kernel
theorem dX1_putIn_77 : decode cX1_putIn 77 = .ok (.goto 4, 3) := by decide +kernel
theorem dX1_putIn_80 : decode cX1_putIn 80 = .ok (.iload_n 2, 1) := by decide +kernel
theorem dX1_putIn_81 : decode cX1_putIn 81 = .ok (.istore 4, 2) := by decide +kernel
theorem dX1_putIn_83 : decode cX1_putIn 83 = .ok (.iload 4, 2) := by decide +kernel
theorem dX1_putIn_85 : decode cX1_putIn 85 = .ok (.iload_n 3, 1) := by decide +kernel
theorem dX1_putIn_86 : decode cX1_putIn 86 = .ok (.if_icmp .ne 7, 3) := by decide +kernel
theorem dX1_putIn_89 : decode cX1_putIn 89 = .ok (.iload_n 2, 1) := by decide +kernel
theorem dX1_putIn_90 : decode cX1_putIn 90 = .ok (.goto 4, 3) := by decide +kernel
theorem dX1_putIn_93 : decode cX1_putIn 93 = .ok (.iload_n 3, 1) := by decide +kernel
theorem dX1_putIn_94 : decode cX1_putIn 94 = .ok (.istore 5, 2) := by decide +kernel
theorem dX1_putIn_96 : decode cX1_putIn 96 = .ok (.aload_n 0, 1) := by decide +kernel
theorem dX1_putIn_97 : decode cX1_putIn 97 = .ok (.getfield 21, 3) := by decide +kernel
theorem dX1_putIn_100 : decode cX1_putIn 100 = .ok (.iload_n 1, 1) := by decide +kernel
theorem dX1_putIn_101 : decode cX1_putIn 101 = .ok (.iload 4, 2) := by decide +kernel
theorem dX1_putIn_103 : decode cX1_putIn 103 = .ok (.invokevirtual 98, 3) := by decide +kernel
theorem dX1_putIn_106 : decode cX1_putIn 106 = .ok (.ifCond .eq 13, 3) := by decide +kernel
theorem dX1_putIn_109 : decode cX1_putIn 109 = .ok (.aload_n 0, 1) := by decide +kernel
theorem dX1_putIn_110 : decode cX1_putIn 110 = .ok (.iload_n 1, 1) := by decide +kernel
theorem dX1_putIn_111 : decode cX1_putIn 111 = .ok (.iload 4, 2) := by decide +kernel
theorem dX1_putIn_113 : decode cX1_putIn 113 = .ok (.invokevirtual 101, 3) := by decide +kernel
theorem dX1_putIn_116 : decode cX1_putIn 116 = .ok (.ifCond .ne 5, 3) := by decide +kernel
theorem dX1_putIn_119 : decode cX1_putIn 119 = .ok (.iconst 1, 1) := by decide +kernel
theorem dX1_putIn_120 : decode cX1_putIn 120 = .ok (.ireturn, 1) := by decide +kernel
theorem dX1_putIn_121 : decode cX1_putIn 121 = .ok (.aload_n 0, 1) := by decide +kernel
theorem dX1_putIn_122 : decode cX1_putIn 122 = .ok (.getfield 21, 3) := by decide +kernel
theorem dX1_putIn_125 : decode cX1_putIn 125 = .ok (.getfield 46, 3) := by decide +kernel
theorem dX1_putIn_128 : decode cX1_putIn 128 = .ok (.iload_n 1, 1) := by decide +kernel
theorem dX1_putIn_129 : decode cX1_putIn 129 = .ok (.aaload, 1) := by decide +kernel
theorem dX1_putIn_130 : decode cX1_putIn 130 = .ok (.iload 4, 2) := by decide +kernel
theorem dX1_putIn_132 : decode cX1_putIn 132 = .ok (.laload, 1) := by decide +kernel
theorem dX1_putIn_133 : decode cX1_putIn 133 = .ok (.aload_n 0, 1) := by decide +kernel
theorem dX1_putIn_134 : decode cX1_putIn 134 = .ok (.getfield 21, 3) := by decide +kernel
theorem dX1_putIn_137 : decode cX1_putIn 137 = .ok (.getfield 50, 3) := by decide +kernel
theorem dX1_putIn_140 : decode cX1_putIn 140 = .ok (.iload_n 1, 1) := by decide +kernel
theorem dX1_putIn_141 : decode cX1_putIn 141 = .ok (.laload, 1) := by decide +kernel
theorem dX1_putIn_142 : decode cX1_putIn 142 = .ok (.lmul, 1) := by decide +kernel
theorem dX1_putIn_143 : decode cX1_putIn 143 = .ok (.lstore 6, 2) := by decide +kernel
theorem dX1_putIn_145 : decode cX1_putIn 145 = .ok (.aload_n 0, 1) := by decide +kernel
theorem dX1_putIn_146 : decode cX1_putIn 146 = .ok (.iload_n 1, 1) := by decide +kernel
theorem dX1_putIn_147 : decode cX1_putIn 147 = .ok (.iload 4, 2) := by decide +kernel
theorem dX1_putIn_149 : decode cX1_putIn 149 = .ok (.iload 5, 2) := by decide +kernel
theorem dX1_putIn_151 : decode cX1_putIn 151 = .ok (.invokevirtual 104, 3) := by decide +kernel
theorem dX1_putIn_154 : decode cX1_putIn 154 = .ok (.lstore 8, 2) := by decide +kernel
theorem dX1_putIn_156 : decode cX1_putIn 156 = .ok (.aload_n 0, 1) := by decide +kernel
theorem dX1_putIn_157 : decode cX1_putIn 157 = .ok (.getfield 9, 3) := by decide +kernel
theorem dX1_putIn_160 : decode cX1_putIn 160 = .ok (.getfield 53, 3) := by decide +kernel
theorem dX1_putIn_163 : decode cX1_putIn 163 = .ok (.iload_n 1, 1) := by decide +kernel
theorem dX1_putIn_164 : decode cX1_putIn 164 = .ok (.iaload, 1) := by decide +kernel
theorem dX1_putIn_165 : decode cX1_putIn 165 = .ok (.istore 10, 2) := by decide +kernel
theorem dX1_putIn_167 : decode cX1_putIn 167 = .ok (.aload_n 0, 1) := by decide +kernel
theorem dX1_putIn_168 : decode cX1_putIn 168 = .ok (.getfield 9, 3) := by decide +kernel
theorem dX1_putIn_171 : decode cX1_putIn 171 = .ok (.iload_n 1, 1) := by decide +kernel
theorem dX1_putIn_172 : decode cX1_putIn 172 = .ok (.iload 5, 2) := by decide +kernel
theorem dX1_putIn_174 : decode cX1_putIn 174 = .ok (.lload 8, 2) := by decide +kernel
theorem dX1_putIn_176 : decode cX1_putIn 176 = .ok (.lconst 0, 1) := by decide +kernel
theorem dX1_putIn_177 : decode cX1_putIn 177 = .ok (.lcmp, 1) := by decide +kernel
theorem dX1_putIn_178 : decode cX1_putIn 178 = .ok (.ifCond .ge 7, 3) := by decide +kernel
theorem dX1_putIn_181 : decode cX1_putIn 181 = .ok (.iconst 1, 1) := by decide +kernel
theorem dX1_putIn_182 : decode cX1_putIn 182 = .ok (.goto 4, 3) := by decide +kernel
theorem dX1_putIn_185 : decode cX1_putIn 185 = .ok (.iconst 0, 1) := by decide +kernel
theorem dX1_putIn_186 : decode cX1_putIn 186 = .ok (.aload_n 0, 1) := by decide +kernel
theorem dX1_putIn_187 : decode cX1_putIn 187 = .ok (.getfield 21, 3) := by decide +kernel
theorem dX1_putIn_190 : decode cX1_putIn 190 = .ok (.getfield 22, 3) := by decide +kernel
theorem dX1_putIn_193 : decode cX1_putIn 193 = .ok (.iload 4, 2) := by decide +kernel
theorem dX1_putIn_195 : decode cX1_putIn 195 = .ok (.laload, 1) := by decide +kernel
theorem dX1_putIn_196 : decode cX1_putIn 196 = .ok (.lload 6, 2) := by decide +kernel
theorem dX1_putIn_198 : decode cX1_putIn 198 = .ok (.lsub, 1) := by decide +kernel
theorem dX1_putIn_199 : decode cX1_putIn 199 = .ok (.lload 8, 2) := by decide +kernel
theorem dX1_putIn_201 : decode cX1_putIn 201 = .ok (.iload 10, 2) := by decide +kernel
theorem dX1_putIn_203 : decode cX1_putIn 203 = .ok (.aload_n 0, 1) := by decide +kernel
theorem dX1_putIn_204 : decode cX1_putIn 204 = .ok (.getfield 9, 3) := by decide +kernel
theorem dX1_putIn_207 : decode cX1_putIn 207 = .ok (.getfield 31, 3) := by decide +kernel
theorem dX1_putIn_210 : decode cX1_putIn 210 = .ok (.iload 4, 2) := by decide +kernel
theorem dX1_putIn_212 : decode cX1_putIn 212 = .ok (.iaload, 1) := by decide +kernel
theorem dX1_putIn_213 : decode cX1_putIn 213 = .ok (.ior, 1) := by decide +kernel
theorem dX1_putIn_214 : decode cX1_putIn 214 = .ok (.invokevirtual 87, 3) := by decide +kernel
theorem dX1_putIn_217 : decode cX1_putIn 217 = .ok (.ifCond .eq 56, 3) := by decide +kernel
theorem dX1_putIn_220 : decode cX1_putIn 220 = .ok (.aload_n 0, 1) := by decide +kernel
theorem dX1_putIn_221 : decode cX1_putIn 221 = .ok (.getfield 9, 3) := by decide +kernel
theorem dX1_putIn_224 : decode cX1_putIn 224 = .ok (.iload_n 1, 1) := by decide +kernel
theorem dX1_putIn_225 : decode cX1_putIn 225 = .ok (.iload 5, 2) := by decide +kernel
theorem dX1_putIn_227 : decode cX1_putIn 227 = .ok (.lload 8, 2) := by decide +kernel
theorem dX1_putIn_229 : decode cX1_putIn 229 = .ok (.lconst 0, 1) := by decide +kernel
theorem dX1_putIn_230 : decode cX1_putIn 230 = .ok (.lcmp, 1) := by decide +kernel
theorem dX1_putIn_231 : decode cX1_putIn 231 = .ok (.ifCond .le 7, 3) := by decide +kernel
theorem dX1_putIn_234 : decode cX1_putIn 234 = .ok (.iconst 1, 1) := by decide +kernel
theorem dX1_putIn_235 : decode cX1_putIn 235 = .ok (.goto 4, 3) := by decide +kernel
theorem dX1_putIn_238 : decode cX1_putIn 238 = .ok (.iconst 0, 1) := by decide +kernel
theorem dX1_putIn_239 : decode cX1_putIn 239 = .ok (.aload_n 0, 1) := by decide +kernel
theorem dX1_putIn_240 : decode cX1_putIn 240 = .ok (.getfield 21, 3) := by decide +kernel
theorem dX1_putIn_243 : decode cX1_putIn 243 = .ok (.getfield 28, 3) := by decide +kernel
theorem dX1_putIn_246 : decode cX1_putIn 246 = .ok (.iload 4, 2) := by decide +kernel
theorem dX1_putIn_248 : decode cX1_putIn 248 = .ok (.laload, 1) := by decide +kernel
theorem dX1_putIn_249 : decode cX1_putIn 249 = .ok (.lload 6, 2) := by decide +kernel
theorem dX1_putIn_251 : decode cX1_putIn 251 = .ok (.lsub, 1) := by decide +kernel
theorem dX1_putIn_252 : decode cX1_putIn 252 = .ok (.lload 8, 2) := by decide +kernel
theorem dX1_putIn_254 : decode cX1_putIn 254 = .ok (.iload 10, 2) := by decide +kernel
theorem dX1_putIn_256 : decode cX1_putIn 256 = .ok (.aload_n 0, 1) := by decide +kernel
theorem dX1_putIn_257 : decode cX1_putIn 257 = .ok (.getfield 9, 3) := by decide +kernel
theorem dX1_putIn_260 : decode cX1_putIn 260 = .ok (.getfield 35, 3) := by decide +kernel
theorem dX1_putIn_263 : decode cX1_putIn 263 = .ok (.iload 4, 2) := by decide +kernel
theorem dX1_putIn_265 : decode cX1_putIn 265 = .ok (.iaload, 1) := by decide +kernel
theorem dX1_putIn_266 : decode cX1_putIn 266 = .ok (.ior, 1) := by decide +kernel
theorem dX1_putIn_267 : decode cX1_putIn 267 = .ok (.invokevirtual 87, 3) := by decide +kernel
theorem dX1_putIn_270 : decode cX1_putIn 270 = .ok (.ifCond .ne 5, 3) := by decide +kernel
theorem dX1_putIn_273 : decode cX1_putIn 273 = .ok (.iconst 0, 1) := by decide +kernel
theorem dX1_putIn_274 : decode cX1_putIn 274 = .ok (.ireturn, 1) := by decide +kernel
theorem dX1_putIn_275 : decode cX1_putIn 275 = .ok (.aload_n 0, 1) := by decide +kernel
theorem dX1_putIn_276 : decode cX1_putIn 276 = .ok (.iload_n 1, 1) := by decide +kernel
theorem dX1_putIn_277 : decode cX1_putIn 277 = .ok (.iload 4, 2) := by decide +kernel
theorem dX1_putIn_279 : decode cX1_putIn 279 = .ok (.invokevirtual 108, 3) := by decide +kernel
theorem dX1_putIn_282 : decode cX1_putIn 282 = .ok (.iconst 1, 1) := by decide +kernel
theorem dX1_putIn_283 : decode cX1_putIn 283 = .ok (.ireturn, 1) := by decide +kernel
theorem dX1_onlyRow_0 : decode cX1_onlyRow 0 = .ok (.iconst (-1), 1) := by decide +kernel
theorem dX1_onlyRow_1 : decode cX1_onlyRow 1 = .ok (.istore_n 2, 1) := by decide +kernel
theorem dX1_onlyRow_2 : decode cX1_onlyRow 2 = .ok (.iconst 0, 1) := by decide +kernel
theorem dX1_onlyRow_3 : decode cX1_onlyRow 3 = .ok (.istore_n 3, 1) := by decide +kernel
theorem dX1_onlyRow_4 : decode cX1_onlyRow 4 = .ok (.iload_n 3, 1) := by decide +kernel
theorem dX1_onlyRow_5 : decode cX1_onlyRow 5 = .ok (.aload_n 0, 1) := by decide +kernel
theorem dX1_onlyRow_6 : decode cX1_onlyRow 6 = .ok (.getfield 21, 3) := by decide +kernel
theorem dX1_onlyRow_9 : decode cX1_onlyRow 9 = .ok (.getfield 38, 3) := by decide +kernel
theorem dX1_onlyRow_12 : decode cX1_onlyRow 12 = .ok (.if_icmp .ge 45, 3) := by decide +kernel
theorem dX1_onlyRow_15 : decode cX1_onlyRow 15 = .ok (.aload_n 0, 1) := by decide +kernel
theorem dX1_onlyRow_16 : decode cX1_onlyRow 16 = .ok (.getfield 21, 3) := by decide +kernel
theorem dX1_onlyRow_19 : decode cX1_onlyRow 19 = .ok (.iload_n 3, 1) := by decide +kernel
theorem dX1_onlyRow_20 : decode cX1_onlyRow 20 = .ok (.invokevirtual 42, 3) := by decide +kernel
theorem dX1_onlyRow_23 : decode cX1_onlyRow 23 = .ok (.ifCond .ne 28, 3) := by decide +kernel
theorem dX1_onlyRow_26 : decode cX1_onlyRow 26 = .ok (.aload_n 0, 1) := by decide +kernel
theorem dX1_onlyRow_27 : decode cX1_onlyRow 27 = .ok (.getfield 21, 3) := by decide +kernel
theorem dX1_onlyRow_30 : decode cX1_onlyRow 30 = .ok (.getfield 46, 3) := by decide +kernel
theorem dX1_onlyRow_33 : decode cX1_onlyRow 33 = .ok (.iload_n 3, 1) := by decide +kernel
theorem dX1_onlyRow_34 : decode cX1_onlyRow 34 = .ok (.aaload, 1) := by decide +kernel
theorem dX1_onlyRow_35 : decode cX1_onlyRow 35 = .ok (.iload_n 1, 1) := by decide +kernel
theorem dX1_onlyRow_36 : decode cX1_onlyRow 36 = .ok (.laload, 1) := by decide +kernel
theorem dX1_onlyRow_37 : decode cX1_onlyRow 37 = .ok (.lconst 0, 1) := by decide +kernel
theorem dX1_onlyRow_38 : decode cX1_onlyRow 38 = .ok (.lcmp, 1) := by decide +kernel
theorem dX1_onlyRow_39 : decode cX1_onlyRow 39 = .ok (.ifCond .eq 12, 3) := by decide +kernel
theorem dX1_onlyRow_42 : decode cX1_onlyRow 42 = .ok (.iload_n 2, 1) := by decide +kernel
theorem dX1_onlyRow_43 : decode cX1_onlyRow 43 = .ok (.iconst (-1), 1) := by decide +kernel
theorem dX1_onlyRow_44 : decode cX1_onlyRow 44 = .ok (.if_icmp .eq 5, 3) := by decide +kernel
theorem dX1_onlyRow_47 : decode cX1_onlyRow 47 = .ok (.iconst (-1), 1) := by decide +kernel
theorem dX1_onlyRow_48 : decode cX1_onlyRow 48 = .ok (.ireturn, 1) := by decide +kernel
theorem dX1_onlyRow_49 : decode cX1_onlyRow 49 = .ok (.iload_n 3, 1) := by decide +kernel
theorem dX1_onlyRow_50 : decode cX1_onlyRow 50 = .ok (.istore_n 2, 1) := by decide +kernel
theorem dX1_onlyRow_51 : decode cX1_onlyRow 51 = .ok (.iinc 3 1, 3) := by decide +kernel
theorem dX1_onlyRow_54 : decode cX1_onlyRow 54 = .ok (.goto (-50), 3) := by decide +kernel
theorem dX1_onlyRow_57 : decode cX1_onlyRow 57 = .ok (.iload_n 2, 1) := by decide +kernel
theorem dX1_onlyRow_58 : decode cX1_onlyRow 58 = .ok (.ireturn, 1) := by decide +kernel
theorem dX1_putInFree_0 : decode cX1_putInFree 0 = .ok (.aload_n 0, 1) := by decide +kernel
theorem dX1_putInFree_1 : decode cX1_putInFree 1 = .ok (.iload_n 1, 1) := by decide +kernel
theorem dX1_putInFree_2 : decode cX1_putInFree 2 = .ok (.invokevirtual 112, 3) := by decide +kernel
theorem dX1_putInFree_5 : decode cX1_putInFree 5 = .ok (.istore_n 2, 1) := by decide +kernel
theorem dX1_putInFree_6 : decode cX1_putInFree 6 = .ok (.iload_n 2, 1) := by decide +kernel
theorem dX1_putInFree_7 : decode cX1_putInFree 7 = .ok (.iconst (-1), 1) := by decide +kernel
theorem dX1_putInFree_8 : decode cX1_putInFree 8 = .ok (.if_icmp .eq 40, 3) := by decide +kernel
theorem dX1_putInFree_11 : decode cX1_putInFree 11 = .ok (.aload_n 0, 1) := by decide +kernel
theorem dX1_putInFree_12 : decode cX1_putInFree 12 = .ok (.getfield 21, 3) := by decide +kernel
theorem dX1_putInFree_15 : decode cX1_putInFree 15 = .ok (.getfield 91, 3) := by decide +kernel
theorem dX1_putInFree_18 : decode cX1_putInFree 18 = .ok (.iload_n 2, 1) := by decide +kernel
theorem dX1_putInFree_19 : decode cX1_putInFree 19 = .ok (.iaload, 1) := by decide +kernel
theorem dX1_putInFree_20 : decode cX1_putInFree 20 = .ok (.iconst 1, 1) := by decide +kernel
theorem dX1_putInFree_21 : decode cX1_putInFree 21 = .ok (.if_icmp .ne 27, 3) := by decide +kernel
theorem dX1_putInFree_24 : decode cX1_putInFree 24 = .ok (.aload_n 0, 1) := by decide +kernel
theorem dX1_putInFree_25 : decode cX1_putInFree 25 = .ok (.getfield 21, 3) := by decide +kernel
theorem dX1_putInFree_28 : decode cX1_putInFree 28 = .ok (.iload_n 2, 1) := by decide +kernel
theorem dX1_putInFree_29 : decode cX1_putInFree 29 = .ok (.iload_n 1, 1) := by decide +kernel
theorem dX1_putInFree_30 : decode cX1_putInFree 30 = .ok (.invokevirtual 98, 3) := by decide +kernel
theorem dX1_putInFree_33 : decode cX1_putInFree 33 = .ok (.ifCond .eq 15, 3) := by decide +kernel
theorem dX1_putInFree_36 : decode cX1_putInFree 36 = .ok (.aload_n 0, 1) := by decide +kernel
theorem dX1_putInFree_37 : decode cX1_putInFree 37 = .ok (.getfield 21, 3) := by decide +kernel
theorem dX1_putInFree_40 : decode cX1_putInFree 40 = .ok (.iload_n 2, 1) := by decide +kernel
theorem dX1_putInFree_41 : decode cX1_putInFree 41 = .ok (.invokevirtual 116, 3) := by decide +kernel
theorem dX1_putInFree_44 : decode cX1_putInFree 44 = .ok (.iconst 2, 1) := by decide +kernel
theorem dX1_putInFree_45 : decode cX1_putInFree 45 = .ok (.if_icmp .ge 5, 3) := by decide +kernel
theorem dX1_putInFree_48 : decode cX1_putInFree 48 = .ok (.iconst 1, 1) := by decide +kernel
theorem dX1_putInFree_49 : decode cX1_putInFree 49 = .ok (.ireturn, 1) := by decide +kernel
theorem dX1_putInFree_50 : decode cX1_putInFree 50 = .ok (.aload_n 0, 1) := by decide +kernel
theorem dX1_putInFree_51 : decode cX1_putInFree 51 = .ok (.getfield 21, 3) := by decide +kernel
theorem dX1_putInFree_54 : decode cX1_putInFree 54 = .ok (.getfield 50, 3) := by decide +kernel
theorem dX1_putInFree_57 : decode cX1_putInFree 57 = .ok (.iload_n 2, 1) := by decide +kernel
theorem dX1_putInFree_58 : decode cX1_putInFree 58 = .ok (.laload, 1) := by decide +kernel
theorem dX1_putInFree_59 : decode cX1_putInFree 59 = .ok (.lstore_n 3, 1) := by decide +kernel
theorem dX1_putInFree_60 : decode cX1_putInFree 60 = .ok (.aload_n 0, 1) := by decide +kernel
theorem dX1_putInFree_61 : decode cX1_putInFree 61 = .ok (.getfield 9, 3) := by decide +kernel
theorem dX1_putInFree_64 : decode cX1_putInFree 64 = .ok (.iload_n 2, 1) := by decide +kernel
theorem dX1_putInFree_65 : decode cX1_putInFree 65 = .ok (.iload_n 1, 1) := by decide +kernel
theorem dX1_putInFree_66 : decode cX1_putInFree 66 = .ok (.iconst 0, 1) := by decide +kernel
theorem dX1_putInFree_67 : decode cX1_putInFree 67 = .ok (.invokevirtual 119, 3) := by decide +kernel
theorem dX1_putInFree_70 : decode cX1_putInFree 70 = .ok (.lstore 5, 2) := by decide +kernel
theorem dX1_putInFree_72 : decode cX1_putInFree 72 = .ok (.aload_n 0, 1) := by decide +kernel
theorem dX1_putInFree_73 : decode cX1_putInFree 73 = .ok (.getfield 9, 3) := by decide +kernel
theorem dX1_putInFree_76 : decode cX1_putInFree 76 = .ok (.iload_n 2, 1) := by decide +kernel
theorem dX1_putInFree_77 : decode cX1_putInFree 77 = .ok (.iload_n 1, 1) := by decide +kernel
theorem dX1_putInFree_78 : decode cX1_putInFree 78 = .ok (.iconst 1, 1) := by decide +kernel
theorem dX1_putInFree_79 : decode cX1_putInFree 79 = .ok (.invokevirtual 119, 3) := by decide +kernel
theorem dX1_putInFree_82 : decode cX1_putInFree 82 = .ok (.lstore 7, 2) := by decide +kernel
theorem dX1_putInFree_84 : decode cX1_putInFree 84 = .ok (.aload_n 0, 1) := by decide +kernel
theorem dX1_putInFree_85 : decode cX1_putInFree 85 = .ok (.getfield 21, 3) := by decide +kernel
theorem dX1_putInFree_88 : decode cX1_putInFree 88 = .ok (.getfield 46, 3) := by decide +kernel
theorem dX1_putInFree_91 : decode cX1_putInFree 91 = .ok (.iload_n 2, 1) := by decide +kernel
theorem dX1_putInFree_92 : decode cX1_putInFree 92 = .ok (.aaload, 1) := by decide +kernel
theorem dX1_putInFree_93 : decode cX1_putInFree 93 = .ok (.iload_n 1, 1) := by decide +kernel
theorem dX1_putInFree_94 : decode cX1_putInFree 94 = .ok (.laload, 1) := by decide +kernel
theorem dX1_putInFree_95 : decode cX1_putInFree 95 = .ok (.lconst 0, 1) := by decide +kernel
theorem dX1_putInFree_96 : decode cX1_putInFree 96 = .ok (.lcmp, 1) := by decide +kernel
theorem dX1_putInFree_97 : decode cX1_putInFree 97 = .ok (.ifCond .le 7, 3) := by decide +kernel
theorem dX1_putInFree_100 : decode cX1_putInFree 100 = .ok (.iconst 1, 1) := by decide +kernel
theorem dX1_putInFree_101 : decode cX1_putInFree 101 = .ok (.goto 4, 3) := by decide +kernel
theorem dX1_putInFree_104 : decode cX1_putInFree 104 = .ok (.iconst 0, 1) := by decide +kernel
theorem dX1_putInFree_105 : decode cX1_putInFree 105 = .ok (.istore 9, 2) := by decide +kernel
theorem dX1_putInFree_107 : decode cX1_putInFree 107 = .ok (.iload 9, 2) := by decide +kernel
theorem dX1_putInFree_109 : decode cX1_putInFree 109 = .ok (.ifCond .eq 10, 3) := by decide +kernel
theorem dX1_putInFree_112 : decode cX1_putInFree 112 = .ok (.lload_n 3, 1) := by decide +kernel
theorem dX1_putInFree_113 : decode cX1_putInFree 113 = .ok (.lload 7, 2) := by decide +kernel
theorem dX1_putInFree_115 : decode cX1_putInFree 115 = .ok (.lsub, 1) := by decide +kernel
theorem dX1_putInFree_116 : decode cX1_putInFree 116 = .ok (.goto 7, 3) := by decide +kernel
theorem dX1_putInFree_119 : decode cX1_putInFree 119 = .ok (.lload 5, 2) := by decide +kernel
theorem dX1_putInFree_121 : decode cX1_putInFree 121 = .ok (.lload_n 3, 1) := by decide +kernel
theorem dX1_putInFree_122 : decode cX1_putInFree 122 = .ok (.lsub, 1) := by decide +kernel
theorem dX1_putInFree_123 : decode cX1_putInFree 123 = .ok (.lstore 10, 2) := by decide +kernel
theorem dX1_putInFree_125 : decode cX1_putInFree 125 = .ok (.iload 9, 2) := by decide +kernel
theorem dX1_putInFree_127 : decode cX1_putInFree 127 = .ok (.ifCond .eq 10, 3) := by decide +kernel
theorem dX1_putInFree_130 : decode cX1_putInFree 130 = .ok (.lload_n 3, 1) := by decide +kernel
theorem dX1_putInFree_131 : decode cX1_putInFree 131 = .ok (.lload 5, 2) := by decide +kernel
theorem dX1_putInFree_133 : decode cX1_putInFree 133 = .ok (.lsub, 1) := by decide +kernel
theorem dX1_putInFree_134 : decode cX1_putInFree 134 = .ok (.goto 7, 3) := by decide +kernel
theorem dX1_putInFree_137 : decode cX1_putInFree 137 = .ok (.lload 7, 2) := by decide +kernel
theorem dX1_putInFree_139 : decode cX1_putInFree 139 = .ok (.lload_n 3, 1) := by decide +kernel
theorem dX1_putInFree_140 : decode cX1_putInFree 140 = .ok (.lsub, 1) := by decide +kernel
theorem dX1_putInFree_141 : decode cX1_putInFree 141 = .ok (.lstore 12, 2) := by decide +kernel
theorem dX1_putInFree_143 : decode cX1_putInFree 143 = .ok (.lload 10, 2) := by decide +kernel
theorem dX1_putInFree_145 : decode cX1_putInFree 145 = .ok (.aload_n 0, 1) := by decide +kernel
theorem dX1_putInFree_146 : decode cX1_putInFree 146 = .ok (.getfield 21, 3) := by decide +kernel
theorem dX1_putInFree_149 : decode cX1_putInFree 149 = .ok (.getfield 22, 3) := by decide +kernel
theorem dX1_putInFree_152 : decode cX1_putInFree 152 = .ok (.iload_n 1, 1) := by decide +kernel
theorem dX1_putInFree_153 : decode cX1_putInFree 153 = .ok (.laload, 1) := by decide +kernel
theorem dX1_putInFree_154 : decode cX1_putInFree 154 = .ok (.lcmp, 1) := by decide +kernel
theorem dX1_putInFree_155 : decode cX1_putInFree 155 = .ok (.ifCond .lt 33, 3) := by decide +kernel
theorem dX1_putInFree_158 : decode cX1_putInFree 158 = .ok (.lload 12, 2) := by decide +kernel
theorem dX1_putInFree_160 : decode cX1_putInFree 160 = .ok (.aload_n 0, 1) := by decide +kernel
theorem dX1_putInFree_161 : decode cX1_putInFree 161 = .ok (.getfield 21, 3) := by decide +kernel
theorem dX1_putInFree_164 : decode cX1_putInFree 164 = .ok (.getfield 28, 3) := by decide +kernel
theorem dX1_putInFree_167 : decode cX1_putInFree 167 = .ok (.iload_n 1, 1) := by decide +kernel
theorem dX1_putInFree_168 : decode cX1_putInFree 168 = .ok (.laload, 1) := by decide +kernel
theorem dX1_putInFree_169 : decode cX1_putInFree 169 = .ok (.lcmp, 1) := by decide +kernel
theorem dX1_putInFree_170 : decode cX1_putInFree 170 = .ok (.ifCond .gt 18, 3) := by decide +kernel
theorem dX1_putInFree_173 : decode cX1_putInFree 173 = .ok (.aload_n 0, 1) := by decide +kernel
theorem dX1_putInFree_174 : decode cX1_putInFree 174 = .ok (.iload_n 2, 1) := by decide +kernel
theorem dX1_putInFree_175 : decode cX1_putInFree 175 = .ok (.iload_n 1, 1) := by decide +kernel
theorem dX1_putInFree_176 : decode cX1_putInFree 176 = .ok (.invokevirtual 101, 3) := by decide +kernel
theorem dX1_putInFree_179 : decode cX1_putInFree 179 = .ok (.ifCond .eq 9, 3) := by decide +kernel
theorem dX1_putInFree_182 : decode cX1_putInFree 182 = .ok (.aload_n 0, 1) := by decide +kernel
theorem dX1_putInFree_183 : decode cX1_putInFree 183 = .ok (.iload_n 2, 1) := by decide +kernel
theorem dX1_putInFree_184 : decode cX1_putInFree 184 = .ok (.iload_n 1, 1) := by decide +kernel
theorem dX1_putInFree_185 : decode cX1_putInFree 185 = .ok (.invokevirtual 108, 3) := by decide +kernel
theorem dX1_putInFree_188 : decode cX1_putInFree 188 = .ok (.iconst 1, 1) := by decide +kernel
theorem dX1_putInFree_189 : decode cX1_putInFree 189 = .ok (.ireturn, 1) := by decide +kernel
theorem dX3_isByColumns_0 : decode cX3_isByColumns 0 = .ok (.iload_n 0, 1) := by decide +kernel
theorem dX3_isByColumns_1 : decode cX3_isByColumns 1 = .ok (.bipush 6, 2) := by decide +kernel
theorem dX3_isByColumns_3 : decode cX3_isByColumns 3 = .ok (.if_icmp .eq 15, 3) := by decide +kernel
theorem dX3_isByColumns_6 : decode cX3_isByColumns 6 = .ok (.iload_n 0, 1) := by decide +kernel
theorem dX3_isByColumns_7 : decode cX3_isByColumns 7 = .ok (.bipush 8, 2) := by decide +kernel
theorem dX3_isByColumns_9 : decode cX3_isByColumns 9 = .ok (.if_icmp .eq 9, 3) := by decide +kernel
theorem dX3_isByColumns_12 : decode cX3_isByColumns 12 = .ok (.iload_n 0, 1) := by decide +kernel
theorem dX3_isByColumns_13 : decode cX3_isByColumns 13 = .ok (.bipush 11, 2) := by decide +kernel
theorem dX3_isByColumns_15 : decode cX3_isByColumns 15 = .ok (.if_icmp .ne 7, 3) := by decide +kernel
theorem dX3_isByColumns_18 : decode cX3_isByColumns 18 = .ok (.iconst 1, 1) := by decide +kernel
theorem dX3_isByColumns_19 : decode cX3_isByColumns 19 = .ok (.goto 4, 3) := by decide +kernel
theorem dX3_isByColumns_22 : decode cX3_isByColumns 22 = .ok (.iconst 0, 1) := by decide +kernel
theorem dX3_isByColumns_23 : decode cX3_isByColumns 23 = .ok (.ireturn, 1) := by decide +kernel
theorem dX3_doRule_0 : decode cX3_doRule 0 = .ok (.iload_n 1, 1) := by decide +kernel
theorem dX3_doRule_1 : decode cX3_doRule 1 = .ok (.invokestatic 42, 3) := by decide +kernel
theorem dX3_doRule_4 : decode cX3_doRule 4 = .ok (.ifCond .eq 17, 3) := by decide +kernel
theorem dX3_doRule_7 : decode cX3_doRule 7 = .ok (.aload_n 0, 1) := by decide +kernel
theorem dX3_doRule_8 : decode cX3_doRule 8 = .ok (.getfield 21, 3) := by decide +kernel
theorem dX3_doRule_11 : decode cX3_doRule 11 = .ok (.iload_n 2, 1) := by decide +kernel
theorem dX3_doRule_12 : decode cX3_doRule 12 = .ok (.invokevirtual 58, 3) := by decide +kernel
theorem dX3_doRule_15 : decode cX3_doRule 15 = .ok (.ifCond .ne 19, 3) := by decide +kernel
theorem dX3_doRule_18 : decode cX3_doRule 18 = .ok (.goto 14, 3) := by decide +kernel
theorem dX3_doRule_21 : decode cX3_doRule 21 = .ok (.aload_n 0, 1) := by decide +kernel
theorem dX3_doRule_22 : decode cX3_doRule 22 = .ok (.getfield 21, 3) := by decide +kernel
theorem dX3_doRule_25 : decode cX3_doRule 25 = .ok (.iload_n 2, 1) := by decide +kernel
theorem dX3_doRule_26 : decode cX3_doRule 26 = .ok (.invokevirtual 61, 3) := by decide +kernel
theorem dX3_doRule_29 : decode cX3_doRule 29 = .ok (.ifCond .eq 5, 3) := by decide +kernel
theorem dX3_doRule_32 : decode cX3_doRule 32 = .ok (.iconst 1, 1) := by decide +kernel
theorem dX3_doRule_33 : decode cX3_doRule 33 = .ok (.ireturn, 1) := by decide +kernel
theorem dX3_doRule_34 : decode cX3_doRule 34 = .ok (.iload_n 1, 1) := by decide +kernel
theorem dX3_doRule_35 : decode cX3_doRule 35 = .ok (.tableswitch 143 1 10 #[53, 62, 71, 80, 89, 98, 107, 116, 125, 134], 53) := by decide +kernel
theorem dX3_doRule_88 : decode cX3_doRule 88 = .ok (.aload_n 0, 1) := by decide +kernel
theorem dX3_doRule_89 : decode cX3_doRule 89 = .ok (.getfield 27, 3) := by decide +kernel
theorem dX3_doRule_92 : decode cX3_doRule 92 = .ok (.iload_n 2, 1) := by decide +kernel
theorem dX3_doRule_93 : decode cX3_doRule 93 = .ok (.invokevirtual 64, 3) := by decide +kernel
theorem dX3_doRule_96 : decode cX3_doRule 96 = .ok (.ireturn, 1) := by decide +kernel
theorem dX3_doRule_97 : decode cX3_doRule 97 = .ok (.aload_n 0, 1) := by decide +kernel
theorem dX3_doRule_98 : decode cX3_doRule 98 = .ok (.getfield 27, 3) := by decide +kernel
theorem dX3_doRule_101 : decode cX3_doRule 101 = .ok (.iload_n 2, 1) := by decide +kernel
theorem dX3_doRule_102 : decode cX3_doRule 102 = .ok (.invokevirtual 67, 3) := by decide +kernel
theorem dX3_doRule_105 : decode cX3_doRule 105 = .ok (.ireturn, 1) := by decide +kernel
theorem dX3_doRule_106 : decode cX3_doRule 106 = .ok (.aload_n 0, 1) := by decide +kernel
theorem dX3_doRule_107 : decode cX3_doRule 107 = .ok (.getfield 27, 3) := by decide +kernel
theorem dX3_doRule_110 : decode cX3_doRule 110 = .ok (.iload_n 2, 1) := by decide +kernel
theorem dX3_doRule_111 : decode cX3_doRule 111 = .ok (.invokevirtual 70, 3) := by decide +kernel
theorem dX3_doRule_114 : decode cX3_doRule 114 = .ok (.ireturn, 1) := by decide +kernel
theorem dX3_doRule_115 : decode cX3_doRule 115 = .ok (.aload_n 0, 1) := by decide +kernel
theorem dX3_doRule_116 : decode cX3_doRule 116 = .ok (.getfield 27, 3) := by decide +kernel
theorem dX3_doRule_119 : decode cX3_doRule 119 = .ok (.iload_n 2, 1) := by decide +kernel
theorem dX3_doRule_120 : decode cX3_doRule 120 = .ok (.invokevirtual 73, 3) := by decide +kernel
theorem dX3_doRule_123 : decode cX3_doRule 123 = .ok (.ireturn, 1) := by decide +kernel
theorem dX3_doRule_124 : decode cX3_doRule 124 = .ok (.aload_n 0, 1) := by decide +kernel
theorem dX3_doRule_125 : decode cX3_doRule 125 = .ok (.getfield 27, 3) := by decide +kernel
theorem dX3_doRule_128 : decode cX3_doRule 128 = .ok (.iload_n 2, 1) := by decide +kernel
theorem dX3_doRule_129 : decode cX3_doRule 129 = .ok (.invokevirtual 76, 3) := by decide +kernel
theorem dX3_doRule_132 : decode cX3_doRule 132 = .ok (.ireturn, 1) := by decide +kernel
theorem dX3_doRule_133 : decode cX3_doRule 133 = .ok (.aload_n 0, 1) := by decide +kernel
theorem dX3_doRule_134 : decode cX3_doRule 134 = .ok (.getfield 34, 3) := by decide +kernel
theorem dX3_doRule_137 : decode cX3_doRule 137 = .ok (.iload_n 2, 1) := by decide +kernel
theorem dX3_doRule_138 : decode cX3_doRule 138 = .ok (.invokevirtual 79, 3) := by decide +kernel
theorem dX3_doRule_141 : decode cX3_doRule 141 = .ok (.ireturn, 1) := by decide +kernel
theorem dX3_doRule_142 : decode cX3_doRule 142 = .ok (.aload_n 0, 1) := by decide +kernel
theorem dX3_doRule_143 : decode cX3_doRule 143 = .ok (.getfield 27, 3) := by decide +kernel
theorem dX3_doRule_146 : decode cX3_doRule 146 = .ok (.iload_n 2, 1) := by decide +kernel
theorem dX3_doRule_147 : decode cX3_doRule 147 = .ok (.invokevirtual 82, 3) := by decide +kernel
theorem dX3_doRule_150 : decode cX3_doRule 150 = .ok (.ireturn, 1) := by decide +kernel
theorem dX3_doRule_151 : decode cX3_doRule 151 = .ok (.aload_n 0, 1) := by decide +kernel
theorem dX3_doRule_152 : decode cX3_doRule 152 = .ok (.getfield 34, 3) := by decide +kernel
theorem dX3_doRule_155 : decode cX3_doRule 155 = .ok (.iload_n 2, 1) := by decide +kernel
theorem dX3_doRule_156 : decode cX3_doRule 156 = .ok (.invokevirtual 85, 3) := by decide +kernel
theorem dX3_doRule_159 : decode cX3_doRule 159 = .ok (.ireturn, 1) := by decide +kernel
theorem dX3_doRule_160 : decode cX3_doRule 160 = .ok (.aload_n 0, 1) := by decide +kernel
theorem dX3_doRule_161 : decode cX3_doRule 161 = .ok (.getfield 34, 3) := by decide +kernel
theorem dX3_doRule_164 : decode cX3_doRule 164 = .ok (.iload_n 2, 1) := by decide +kernel
theorem dX3_doRule_165 : decode cX3_doRule 165 = .ok (.invokevirtual 88, 3) := by decide +kernel
theorem dX3_doRule_168 : decode cX3_doRule 168 = .ok (.ireturn, 1) := by decide +kernel
theorem dX3_doRule_169 : decode cX3_doRule 169 = .ok (.aload_n 0, 1) := by decide +kernel
theorem dX3_doRule_170 : decode cX3_doRule 170 = .ok (.getfield 27, 3) := by decide +kernel
theorem dX3_doRule_173 : decode cX3_doRule 173 = .ok (.iload_n 2, 1) := by decide +kernel
theorem dX3_doRule_174 : decode cX3_doRule 174 = .ok (.invokevirtual 91, 3) := by decide +kernel
theorem dX3_doRule_177 : decode cX3_doRule 177 = .ok (.ireturn, 1) := by decide +kernel
theorem dX3_doRule_178 : decode cX3_doRule 178 = .ok (.aload_n 0, 1) := by decide +kernel
theorem dX3_doRule_179 : decode cX3_doRule 179 = .ok (.getfield 34, 3) := by decide +kernel
theorem dX3_doRule_182 : decode cX3_doRule 182 = .ok (.iload_n 2, 1) := by decide +kernel
theorem dX3_doRule_183 : decode cX3_doRule 183 = .ok (.invokevirtual 94, 3) := by decide +kernel
theorem dX3_doRule_186 : decode cX3_doRule 186 = .ok (.ireturn, 1) := by decide +kernel
theorem dX3_doRound_0 : decode cX3_doRound 0 = .ok (.iconst 1, 1) := by decide +kernel
theorem dX3_doRound_1 : decode cX3_doRound 1 = .ok (.istore_n 2, 1) := by decide +kernel
theorem dX3_doRound_2 : decode cX3_doRound 2 = .ok (.iload_n 2, 1) := by decide +kernel
theorem dX3_doRound_3 : decode cX3_doRound 3 = .ok (.bipush 11, 2) := by decide +kernel
theorem dX3_doRound_5 : decode cX3_doRound 5 = .ok (.if_icmp .gt 79, 3) := by decide +kernel
theorem dX3_doRound_8 : decode cX3_doRound 8 = .ok (.iload_n 1, 1) := by decide +kernel
theorem dX3_doRound_9 : decode cX3_doRound 9 = .ok (.iload_n 2, 1) := by decide +kernel
theorem dX3_doRound_10 : decode cX3_doRound 10 = .ok (.iconst 1, 1) := by decide +kernel
theorem dX3_doRound_11 : decode cX3_doRound 11 = .ok (.isub, 1) := by decide +kernel
theorem dX3_doRound_12 : decode cX3_doRound 12 = .ok (.ishr, 1) := by decide +kernel
theorem dX3_doRound_13 : decode cX3_doRound 13 = .ok (.iconst 1, 1) := by decide +kernel
theorem dX3_doRound_14 : decode cX3_doRound 14 = .ok (.iand, 1) := by decide +kernel
theorem dX3_doRound_15 : decode cX3_doRound 15 = .ok (.ifCond .eq 63, 3) := by decide +kernel
theorem dX3_doRound_18 : decode cX3_doRound 18 = .ok (.aload_n 0, 1) := by decide +kernel
theorem dX3_doRound_19 : decode cX3_doRound 19 = .ok (.getfield 9, 3) := by decide +kernel
theorem dX3_doRound_22 : decode cX3_doRound 22 = .ok (.iload_n 2, 1) := by decide +kernel
theorem dX3_doRound_23 : decode cX3_doRound 23 = .ok (.putfield 38, 3) := by decide +kernel
theorem dX3_doRound_26 : decode cX3_doRound 26 = .ok (.iload_n 2, 1) := by decide +kernel
theorem dX3_doRound_27 : decode cX3_doRound 27 = .ok (.invokestatic 42, 3) := by decide +kernel
theorem dX3_doRound_30 : decode cX3_doRound 30 = .ok (.ifCond .eq 13, 3) := by decide +kernel
theorem dX3_doRound_33 : decode cX3_doRound 33 = .ok (.aload_n 0, 1) := by decide +kernel
theorem dX3_doRound_34 : decode cX3_doRound 34 = .ok (.getfield 21, 3) := by decide +kernel
theorem dX3_doRound_37 : decode cX3_doRound 37 = .ok (.getfield 46, 3) := by decide +kernel
theorem dX3_doRound_40 : decode cX3_doRound 40 = .ok (.goto 10, 3) := by decide +kernel
theorem dX3_doRound_43 : decode cX3_doRound 43 = .ok (.aload_n 0, 1) := by decide +kernel
theorem dX3_doRound_44 : decode cX3_doRound 44 = .ok (.getfield 21, 3) := by decide +kernel
theorem dX3_doRound_47 : decode cX3_doRound 47 = .ok (.getfield 51, 3) := by decide +kernel
theorem dX3_doRound_50 : decode cX3_doRound 50 = .ok (.istore_n 3, 1) := by decide +kernel
theorem dX3_doRound_51 : decode cX3_doRound 51 = .ok (.iconst 0, 1) := by decide +kernel
theorem dX3_doRound_52 : decode cX3_doRound 52 = .ok (.istore 4, 2) := by decide +kernel
theorem dX3_doRound_54 : decode cX3_doRound 54 = .ok (.iload 4, 2) := by decide +kernel
theorem dX3_doRound_56 : decode cX3_doRound 56 = .ok (.iload_n 3, 1) := by decide +kernel
theorem dX3_doRound_57 : decode cX3_doRound 57 = .ok (.if_icmp .ge 21, 3) := by decide +kernel
theorem dX3_doRound_60 : decode cX3_doRound 60 = .ok (.aload_n 0, 1) := by decide +kernel
theorem dX3_doRound_61 : decode cX3_doRound 61 = .ok (.iload_n 2, 1) := by decide +kernel
theorem dX3_doRound_62 : decode cX3_doRound 62 = .ok (.iload 4, 2) := by decide +kernel
theorem dX3_doRound_64 : decode cX3_doRound 64 = .ok (.invokevirtual 54, 3) := by decide +kernel
theorem dX3_doRound_67 : decode cX3_doRound 67 = .ok (.ifCond .ne 5, 3) := by decide +kernel
theorem dX3_doRound_70 : decode cX3_doRound 70 = .ok (.iconst 0, 1) := by decide +kernel
theorem dX3_doRound_71 : decode cX3_doRound 71 = .ok (.ireturn, 1) := by decide +kernel
theorem dX3_doRound_72 : decode cX3_doRound 72 = .ok (.iinc 4 1, 3) := by decide +kernel
theorem dX3_doRound_75 : decode cX3_doRound 75 = .ok (.goto (-21), 3) := by decide +kernel
theorem dX3_doRound_78 : decode cX3_doRound 78 = .ok (.iinc 2 1, 3) := by decide +kernel
theorem dX3_doRound_81 : decode cX3_doRound 81 = .ok (.goto (-79), 3) := by decide +kernel
theorem dX3_doRound_84 : decode cX3_doRound 84 = .ok (.iconst 1, 1) := by decide +kernel
theorem dX3_doRound_85 : decode cX3_doRound 85 = .ok (.ireturn, 1) := by decide +kernel
theorem dX8_endPoints_0 : decode cX8_endPoints 0 = .ok (.aload_n 0, 1) := by decide +kernel
theorem dX8_endPoints_1 : decode cX8_endPoints 1 = .ok (.iconst 0, 1) := by decide +kernel
theorem dX8_endPoints_2 : decode cX8_endPoints 2 = .ok (.putfield 237, 3) := by decide +kernel
theorem dX8_endPoints_5 : decode cX8_endPoints 5 = .ok (.aload_n 0, 1) := by decide +kernel
theorem dX8_endPoints_6 : decode cX8_endPoints 6 = .ok (.iconst 0, 1) := by decide +kernel
theorem dX8_endPoints_7 : decode cX8_endPoints 7 = .ok (.putfield 246, 3) := by decide +kernel
theorem dX8_endPoints_10 : decode cX8_endPoints 10 = .ok (.aload_n 0, 1) := by decide +kernel
theorem dX8_endPoints_11 : decode cX8_endPoints 11 = .ok (.iconst 0, 1) := by decide +kernel
theorem dX8_endPoints_12 : decode cX8_endPoints 12 = .ok (.putfield 256, 3) := by decide +kernel
theorem dX8_endPoints_15 : decode cX8_endPoints 15 = .ok (.return_, 1) := by decide +kernel
theorem dX8_endSmall_0 : decode cX8_endSmall 0 = .ok (.aload_n 0, 1) := by decide +kernel
theorem dX8_endSmall_1 : decode cX8_endSmall 1 = .ok (.iconst 0, 1) := by decide +kernel
theorem dX8_endSmall_2 : decode cX8_endSmall 2 = .ok (.putfield 131, 3) := by decide +kernel
theorem dX8_endSmall_5 : decode cX8_endSmall 5 = .ok (.aload_n 0, 1) := by decide +kernel
theorem dX8_endSmall_6 : decode cX8_endSmall 6 = .ok (.invokevirtual 128, 3) := by decide +kernel
theorem dX8_endSmall_9 : decode cX8_endSmall 9 = .ok (.return_, 1) := by decide +kernel
theorem dX8_findBest_0 : decode cX8_findBest 0 = .ok (.aload_n 0, 1) := by decide +kernel
theorem dX8_findBest_1 : decode cX8_findBest 1 = .ok (.getfield 44, 3) := by decide +kernel
theorem dX8_findBest_4 : decode cX8_findBest 4 = .ok (.aload_n 1, 1) := by decide +kernel
theorem dX8_findBest_5 : decode cX8_findBest 5 = .ok (.invokevirtual 194, 3) := by decide +kernel
theorem dX8_findBest_8 : decode cX8_findBest 8 = .ok (.iconst 0, 1) := by decide +kernel
theorem dX8_findBest_9 : decode cX8_findBest 9 = .ok (.istore 5, 2) := by decide +kernel
theorem dX8_findBest_11 : decode cX8_findBest 11 = .ok (.iload 5, 2) := by decide +kernel
theorem dX8_findBest_13 : decode cX8_findBest 13 = .ok (.iload_n 2, 1) := by decide +kernel
theorem dX8_findBest_14 : decode cX8_findBest 14 = .ok (.if_icmp .ge 87, 3) := by decide +kernel
theorem dX8_findBest_17 : decode cX8_findBest 17 = .ok (.lload_n 3, 1) := by decide +kernel
theorem dX8_findBest_18 : decode cX8_findBest 18 = .ok (.aload_n 0, 1) := by decide +kernel
theorem dX8_findBest_19 : decode cX8_findBest 19 = .ok (.getfield 44, 3) := by decide +kernel
theorem dX8_findBest_22 : decode cX8_findBest 22 = .ok (.getfield 281, 3) := by decide +kernel
theorem dX8_findBest_25 : decode cX8_findBest 25 = .ok (.ladd, 1) := by decide +kernel
theorem dX8_findBest_26 : decode cX8_findBest 26 = .ok (.lstore 6, 2) := by decide +kernel
theorem dX8_findBest_28 : decode cX8_findBest 28 = .ok (.aload_n 0, 1) := by decide +kernel
theorem dX8_findBest_29 : decode cX8_findBest 29 = .ok (.getfield 256, 3) := by decide +kernel
theorem dX8_findBest_32 : decode cX8_findBest 32 = .ok (.ifCond .eq 13, 3) := by decide +kernel
theorem dX8_findBest_35 : decode cX8_findBest 35 = .ok (.lload 6, 2) := by decide +kernel
theorem dX8_findBest_37 : decode cX8_findBest 37 = .ok (.aload_n 0, 1) := by decide +kernel
theorem dX8_findBest_38 : decode cX8_findBest 38 = .ok (.getfield 266, 3) := by decide +kernel
theorem dX8_findBest_41 : decode cX8_findBest 41 = .ok (.lcmp, 1) := by decide +kernel
theorem dX8_findBest_42 : decode cX8_findBest 42 = .ok (.ifCond .ge 46, 3) := by decide +kernel
theorem dX8_findBest_45 : decode cX8_findBest 45 = .ok (.aload_n 0, 1) := by decide +kernel
theorem dX8_findBest_46 : decode cX8_findBest 46 = .ok (.getfield 44, 3) := by decide +kernel
theorem dX8_findBest_49 : decode cX8_findBest 49 = .ok (.aload_n 1, 1) := by decide +kernel
theorem dX8_findBest_50 : decode cX8_findBest 50 = .ok (.invokevirtual 284, 3) := by decide +kernel
theorem dX8_findBest_53 : decode cX8_findBest 53 = .ok (.invokevirtual 197, 3) := by decide +kernel
theorem dX8_findBest_56 : decode cX8_findBest 56 = .ok (.ifCond .eq 32, 3) := by decide +kernel
theorem dX8_findBest_59 : decode cX8_findBest 59 = .ok (.aload_n 0, 1) := by decide +kernel
theorem dX8_findBest_60 : decode cX8_findBest 60 = .ok (.iconst 1, 1) := by decide +kernel
theorem dX8_findBest_61 : decode cX8_findBest 61 = .ok (.putfield 256, 3) := by decide +kernel
theorem dX8_findBest_64 : decode cX8_findBest 64 = .ok (.aload_n 0, 1) := by decide +kernel
theorem dX8_findBest_65 : decode cX8_findBest 65 = .ok (.lload 6, 2) := by decide +kernel
theorem dX8_findBest_67 : decode cX8_findBest 67 = .ok (.putfield 266, 3) := by decide +kernel
theorem dX8_findBest_70 : decode cX8_findBest 70 = .ok (.aload_n 0, 1) := by decide +kernel
theorem dX8_findBest_71 : decode cX8_findBest 71 = .ok (.getfield 44, 3) := by decide +kernel
theorem dX8_findBest_74 : decode cX8_findBest 74 = .ok (.getfield 287, 3) := by decide +kernel
theorem dX8_findBest_77 : decode cX8_findBest 77 = .ok (.iconst 0, 1) := by decide +kernel
theorem dX8_findBest_78 : decode cX8_findBest 78 = .ok (.aload_n 0, 1) := by decide +kernel
theorem dX8_findBest_79 : decode cX8_findBest 79 = .ok (.getfield 55, 3) := by decide +kernel
theorem dX8_findBest_82 : decode cX8_findBest 82 = .ok (.iconst 0, 1) := by decide +kernel
theorem dX8_findBest_83 : decode cX8_findBest 83 = .ok (.bipush 12, 2) := by decide +kernel
theorem dX8_findBest_85 : decode cX8_findBest 85 = .ok (.invokestatic 288, 3) := by decide +kernel
theorem dX8_findBest_88 : decode cX8_findBest 88 = .ok (.aload_n 0, 1) := by decide +kernel
theorem dX8_findBest_89 : decode cX8_findBest 89 = .ok (.getfield 44, 3) := by decide +kernel
theorem dX8_findBest_92 : decode cX8_findBest 92 = .ok (.invokevirtual 200, 3) := by decide +kernel
theorem dX8_findBest_95 : decode cX8_findBest 95 = .ok (.iinc 5 1, 3) := by decide +kernel
theorem dX8_findBest_98 : decode cX8_findBest 98 = .ok (.goto (-87), 3) := by decide +kernel
theorem dX8_findBest_101 : decode cX8_findBest 101 = .ok (.return_, 1) := by decide +kernel
theorem dX8_clear_0 : decode cX8_clear 0 = .ok (.aload_n 0, 1) := by decide +kernel
theorem dX8_clear_1 : decode cX8_clear 1 = .ok (.invokevirtual 82, 3) := by decide +kernel
theorem dX8_clear_4 : decode cX8_clear 4 = .ok (.aload_n 0, 1) := by decide +kernel
theorem dX8_clear_5 : decode cX8_clear 5 = .ok (.getfield 10, 3) := by decide +kernel
theorem dX8_clear_8 : decode cX8_clear 8 = .ok (.getfield 58, 3) := by decide +kernel
theorem dX8_clear_11 : decode cX8_clear 11 = .ok (.istore_n 1, 1) := by decide +kernel
theorem dX8_clear_12 : decode cX8_clear 12 = .ok (.aload_n 0, 1) := by decide +kernel
theorem dX8_clear_13 : decode cX8_clear 13 = .ok (.getfield 10, 3) := by decide +kernel
theorem dX8_clear_16 : decode cX8_clear 16 = .ok (.invokevirtual 123, 3) := by decide +kernel
theorem dX8_clear_19 : decode cX8_clear 19 = .ok (.iload_n 1, 1) := by decide +kernel
theorem dX8_clear_20 : decode cX8_clear 20 = .ok (.ireturn, 1) := by decide +kernel
theorem dX9_thrown_0 : decode cX9_thrown 0 = .ok (.aload_n 0, 1) := by decide +kernel
theorem dX9_thrown_1 : decode cX9_thrown 1 = .ok (.getfield 108, 3) := by decide +kernel
theorem dX9_thrown_4 : decode cX9_thrown 4 = .ok (.ireturn, 1) := by decide +kernel
theorem dX9_within_0 : decode cX9_within 0 = .ok (.lload_n 0, 1) := by decide +kernel
theorem dX9_within_1 : decode cX9_within 1 = .ok (.lload_n 2, 1) := by decide +kernel
theorem dX9_within_2 : decode cX9_within 2 = .ok (.lcmp, 1) := by decide +kernel
theorem dX9_within_3 : decode cX9_within 3 = .ok (.ifCond .lt 14, 3) := by decide +kernel
theorem dX9_within_6 : decode cX9_within 6 = .ok (.lload_n 0, 1) := by decide +kernel
theorem dX9_within_7 : decode cX9_within 7 = .ok (.lload 4, 2) := by decide +kernel
theorem dX9_within_9 : decode cX9_within 9 = .ok (.lcmp, 1) := by decide +kernel
theorem dX9_within_10 : decode cX9_within 10 = .ok (.ifCond .gt 7, 3) := by decide +kernel
theorem dX9_within_13 : decode cX9_within 13 = .ok (.iconst 1, 1) := by decide +kernel
theorem dX9_within_14 : decode cX9_within 14 = .ok (.goto 4, 3) := by decide +kernel
theorem dX9_within_17 : decode cX9_within 17 = .ok (.iconst 0, 1) := by decide +kernel
theorem dX9_within_18 : decode cX9_within 18 = .ok (.ireturn, 1) := by decide +kernel
theorem dX9_passes_0 : decode cX9_passes 0 = .ok (.aload_n 0, 1) := by decide +kernel
theorem dX9_passes_1 : decode cX9_passes 1 = .ok (.iload_n 1, 1) := by decide +kernel
theorem dX9_passes_2 : decode cX9_passes 2 = .ok (.ifCond .eq 7, 3) := by decide +kernel
theorem dX9_passes_5 : decode cX9_passes 5 = .ok (.iconst 1, 1) := by decide +kernel
theorem dX9_passes_6 : decode cX9_passes 6 = .ok (.goto 12, 3) := by decide +kernel
theorem dX9_passes_9 : decode cX9_passes 9 = .ok (.iload_n 2, 1) := by decide +kernel
theorem dX9_passes_10 : decode cX9_passes 10 = .ok (.ifCond .eq 7, 3) := by decide +kernel
theorem dX9_passes_13 : decode cX9_passes 13 = .ok (.iconst 2, 1) := by decide +kernel
theorem dX9_passes_14 : decode cX9_passes 14 = .ok (.goto 4, 3) := by decide +kernel
theorem dX9_passes_17 : decode cX9_passes 17 = .ok (.iconst 0, 1) := by decide +kernel
theorem dX9_passes_18 : decode cX9_passes 18 = .ok (.putfield 108, 3) := by decide +kernel
theorem dX9_passes_21 : decode cX9_passes 21 = .ok (.aload_n 0, 1) := by decide +kernel
theorem dX9_passes_22 : decode cX9_passes 22 = .ok (.getfield 108, 3) := by decide +kernel
theorem dX9_passes_25 : decode cX9_passes 25 = .ok (.ifCond .ne 7, 3) := by decide +kernel
theorem dX9_passes_28 : decode cX9_passes 28 = .ok (.iconst 1, 1) := by decide +kernel
theorem dX9_passes_29 : decode cX9_passes 29 = .ok (.goto 4, 3) := by decide +kernel
theorem dX9_passes_32 : decode cX9_passes 32 = .ok (.iconst 0, 1) := by decide +kernel
theorem dX9_passes_33 : decode cX9_passes 33 = .ok (.ireturn, 1) := by decide +kernel
theorem dX9_passes3_0 : decode cX9_passes3 0 = .ok (.aload_n 0, 1) := by decide +kernel
theorem dX9_passes3_1 : decode cX9_passes3 1 = .ok (.iload_n 1, 1) := by decide +kernel
theorem dX9_passes3_2 : decode cX9_passes3 2 = .ok (.ifCond .eq 7, 3) := by decide +kernel
theorem dX9_passes3_5 : decode cX9_passes3 5 = .ok (.iconst 1, 1) := by decide +kernel
theorem dX9_passes3_6 : decode cX9_passes3 6 = .ok (.goto 20, 3) := by decide +kernel
theorem dX9_passes3_9 : decode cX9_passes3 9 = .ok (.iload_n 2, 1) := by decide +kernel
theorem dX9_passes3_10 : decode cX9_passes3 10 = .ok (.ifCond .eq 7, 3) := by decide +kernel
theorem dX9_passes3_13 : decode cX9_passes3 13 = .ok (.iconst 2, 1) := by decide +kernel
theorem dX9_passes3_14 : decode cX9_passes3 14 = .ok (.goto 12, 3) := by decide +kernel
theorem dX9_passes3_17 : decode cX9_passes3 17 = .ok (.iload_n 3, 1) := by decide +kernel
theorem dX9_passes3_18 : decode cX9_passes3 18 = .ok (.ifCond .eq 7, 3) := by decide +kernel
theorem dX9_passes3_21 : decode cX9_passes3 21 = .ok (.iconst 3, 1) := by decide +kernel
theorem dX9_passes3_22 : decode cX9_passes3 22 = .ok (.goto 4, 3) := by decide +kernel
theorem dX9_passes3_25 : decode cX9_passes3 25 = .ok (.iconst 0, 1) := by decide +kernel
theorem dX9_passes3_26 : decode cX9_passes3 26 = .ok (.putfield 108, 3) := by decide +kernel
theorem dX9_passes3_29 : decode cX9_passes3 29 = .ok (.aload_n 0, 1) := by decide +kernel
theorem dX9_passes3_30 : decode cX9_passes3 30 = .ok (.getfield 108, 3) := by decide +kernel
theorem dX9_passes3_33 : decode cX9_passes3 33 = .ok (.ifCond .ne 7, 3) := by decide +kernel
theorem dX9_passes3_36 : decode cX9_passes3 36 = .ok (.iconst 1, 1) := by decide +kernel
theorem dX9_passes3_37 : decode cX9_passes3 37 = .ok (.goto 4, 3) := by decide +kernel
theorem dX9_passes3_40 : decode cX9_passes3 40 = .ok (.iconst 0, 1) := by decide +kernel
theorem dX9_passes3_41 : decode cX9_passes3 41 = .ok (.ireturn, 1) := by decide +kernel
theorem dX9_down_0 : decode cX9_down 0 = .ok (.lload_n 0, 1) := by decide +kernel
theorem dX9_down_1 : decode cX9_down 1 = .ok (.lload_n 2, 1) := by decide +kernel
theorem dX9_down_2 : decode cX9_down 2 = .ok (.ldiv, 1) := by decide +kernel
theorem dX9_down_3 : decode cX9_down 3 = .ok (.lstore 4, 2) := by decide +kernel
theorem dX9_down_5 : decode cX9_down 5 = .ok (.lload 4, 2) := by decide +kernel
theorem dX9_down_7 : decode cX9_down 7 = .ok (.lload_n 2, 1) := by decide +kernel
theorem dX9_down_8 : decode cX9_down 8 = .ok (.lmul, 1) := by decide +kernel
theorem dX9_down_9 : decode cX9_down 9 = .ok (.lload_n 0, 1) := by decide +kernel
theorem dX9_down_10 : decode cX9_down 10 = .ok (.lcmp, 1) := by decide +kernel
theorem dX9_down_11 : decode cX9_down 11 = .ok (.ifCond .eq 35, 3) := by decide +kernel
theorem dX9_down_14 : decode cX9_down 14 = .ok (.lload_n 0, 1) := by decide +kernel
theorem dX9_down_15 : decode cX9_down 15 = .ok (.lconst 0, 1) := by decide +kernel
theorem dX9_down_16 : decode cX9_down 16 = .ok (.lcmp, 1) := by decide +kernel
theorem dX9_down_17 : decode cX9_down 17 = .ok (.ifCond .ge 7, 3) := by decide +kernel
theorem dX9_down_20 : decode cX9_down 20 = .ok (.iconst 1, 1) := by decide +kernel
theorem dX9_down_21 : decode cX9_down 21 = .ok (.goto 4, 3) := by decide +kernel
theorem dX9_down_24 : decode cX9_down 24 = .ok (.iconst 0, 1) := by decide +kernel
theorem dX9_down_25 : decode cX9_down 25 = .ok (.lload_n 2, 1) := by decide +kernel
theorem dX9_down_26 : decode cX9_down 26 = .ok (.lconst 0, 1) := by decide +kernel
theorem dX9_down_27 : decode cX9_down 27 = .ok (.lcmp, 1) := by decide +kernel
theorem dX9_down_28 : decode cX9_down 28 = .ok (.ifCond .ge 7, 3) := by decide +kernel
theorem dX9_down_31 : decode cX9_down 31 = .ok (.iconst 1, 1) := by decide +kernel
theorem dX9_down_32 : decode cX9_down 32 = .ok (.goto 4, 3) := by decide +kernel
theorem dX9_down_35 : decode cX9_down 35 = .ok (.iconst 0, 1) := by decide +kernel
theorem dX9_down_36 : decode cX9_down 36 = .ok (.if_icmp .eq 10, 3) := by decide +kernel
theorem dX9_down_39 : decode cX9_down 39 = .ok (.lload 4, 2) := by decide +kernel
theorem dX9_down_41 : decode cX9_down 41 = .ok (.lconst 1, 1) := by decide +kernel
theorem dX9_down_42 : decode cX9_down 42 = .ok (.lsub, 1) := by decide +kernel
theorem dX9_down_43 : decode cX9_down 43 = .ok (.goto 5, 3) := by decide +kernel
theorem dX9_down_46 : decode cX9_down 46 = .ok (.lload 4, 2) := by decide +kernel
theorem dX9_down_48 : decode cX9_down 48 = .ok (.lreturn, 1) := by decide +kernel
theorem dX9_up_0 : decode cX9_up 0 = .ok (.lload_n 0, 1) := by decide +kernel
theorem dX9_up_1 : decode cX9_up 1 = .ok (.lneg, 1) := by decide +kernel
theorem dX9_up_2 : decode cX9_up 2 = .ok (.lload_n 2, 1) := by decide +kernel
theorem dX9_up_3 : decode cX9_up 3 = .ok (.invokestatic 112, 3) := by decide +kernel
theorem dX9_up_6 : decode cX9_up 6 = .ok (.lneg, 1) := by decide +kernel
theorem dX9_up_7 : decode cX9_up 7 = .ok (.lreturn, 1) := by decide +kernel
theorem dX9_endPoints_0 : decode cX9_endPoints 0 = .ok (.iconst 0, 1) := by decide +kernel
theorem dX9_endPoints_1 : decode cX9_endPoints 1 = .ok (.istore_n 1, 1) := by decide +kernel
theorem dX9_endPoints_2 : decode cX9_endPoints 2 = .ok (.iload_n 1, 1) := by decide +kernel
theorem dX9_endPoints_3 : decode cX9_endPoints 3 = .ok (.bipush 12, 2) := by decide +kernel
theorem dX9_endPoints_5 : decode cX9_endPoints 5 = .ok (.if_icmp .ge 16, 3) := by decide +kernel
theorem dX9_endPoints_8 : decode cX9_endPoints 8 = .ok (.aload_n 0, 1) := by decide +kernel
theorem dX9_endPoints_9 : decode cX9_endPoints 9 = .ok (.getfield 87, 3) := by decide +kernel
theorem dX9_endPoints_12 : decode cX9_endPoints 12 = .ok (.iload_n 1, 1) := by decide +kernel
theorem dX9_endPoints_13 : decode cX9_endPoints 13 = .ok (.iconst 0, 1) := by decide +kernel
theorem dX9_endPoints_14 : decode cX9_endPoints 14 = .ok (.bastore, 1) := by decide +kernel
theorem dX9_endPoints_15 : decode cX9_endPoints 15 = .ok (.iinc 1 1, 3) := by decide +kernel
theorem dX9_endPoints_18 : decode cX9_endPoints 18 = .ok (.goto (-16), 3) := by decide +kernel
theorem dX9_endPoints_21 : decode cX9_endPoints 21 = .ok (.aload_n 0, 1) := by decide +kernel
theorem dX9_endPoints_22 : decode cX9_endPoints 22 = .ok (.iconst 0, 1) := by decide +kernel
theorem dX9_endPoints_23 : decode cX9_endPoints 23 = .ok (.putfield 116, 3) := by decide +kernel
theorem dX9_endPoints_26 : decode cX9_endPoints 26 = .ok (.aload_n 0, 1) := by decide +kernel
theorem dX9_endPoints_27 : decode cX9_endPoints 27 = .ok (.iconst 0, 1) := by decide +kernel
theorem dX9_endPoints_28 : decode cX9_endPoints 28 = .ok (.putfield 120, 3) := by decide +kernel
theorem dX9_endPoints_31 : decode cX9_endPoints 31 = .ok (.return_, 1) := by decide +kernel
theorem dX9_endSmall_0 : decode cX9_endSmall 0 = .ok (.aload_n 0, 1) := by decide +kernel
theorem dX9_endSmall_1 : decode cX9_endSmall 1 = .ok (.iconst 0, 1) := by decide +kernel
theorem dX9_endSmall_2 : decode cX9_endSmall 2 = .ok (.putfield 123, 3) := by decide +kernel
theorem dX9_endSmall_5 : decode cX9_endSmall 5 = .ok (.aload_n 0, 1) := by decide +kernel
theorem dX9_endSmall_6 : decode cX9_endSmall 6 = .ok (.invokevirtual 126, 3) := by decide +kernel
theorem dX9_endSmall_9 : decode cX9_endSmall 9 = .ok (.return_, 1) := by decide +kernel
theorem dX9_column_0 : decode cX9_column 0 = .ok (.iload_n 1, 1) := by decide +kernel
theorem dX9_column_1 : decode cX9_column 1 = .ok (.i2l, 1) := by decide +kernel
theorem dX9_column_2 : decode cX9_column 2 = .ok (.ldc2_w 129, 3) := by decide +kernel
theorem dX9_column_5 : decode cX9_column 5 = .ok (.ldc2_w 131, 3) := by decide +kernel
theorem dX9_column_8 : decode cX9_column 8 = .ok (.invokestatic 133, 3) := by decide +kernel
theorem dX9_column_11 : decode cX9_column 11 = .ok (.ifCond .eq 34, 3) := by decide +kernel
theorem dX9_column_14 : decode cX9_column 14 = .ok (.iload_n 2, 1) := by decide +kernel
theorem dX9_column_15 : decode cX9_column 15 = .ok (.i2l, 1) := by decide +kernel
theorem dX9_column_16 : decode cX9_column 16 = .ok (.iload_n 1, 1) := by decide +kernel
theorem dX9_column_17 : decode cX9_column 17 = .ok (.i2l, 1) := by decide +kernel
theorem dX9_column_18 : decode cX9_column 18 = .ok (.ldc2_w 131, 3) := by decide +kernel
theorem dX9_column_21 : decode cX9_column 21 = .ok (.invokestatic 133, 3) := by decide +kernel
theorem dX9_column_24 : decode cX9_column 24 = .ok (.ifCond .eq 21, 3) := by decide +kernel
theorem dX9_column_27 : decode cX9_column 27 = .ok (.iload_n 3, 1) := by decide +kernel
theorem dX9_column_28 : decode cX9_column 28 = .ok (.i2l, 1) := by decide +kernel
theorem dX9_column_29 : decode cX9_column 29 = .ok (.ldc2_w 137, 3) := by decide +kernel
theorem dX9_column_32 : decode cX9_column 32 = .ok (.ldc2_w 139, 3) := by decide +kernel
theorem dX9_column_35 : decode cX9_column 35 = .ok (.invokestatic 133, 3) := by decide +kernel
theorem dX9_column_38 : decode cX9_column 38 = .ok (.ifCond .eq 7, 3) := by decide +kernel
theorem dX9_column_41 : decode cX9_column 41 = .ok (.iconst 1, 1) := by decide +kernel
theorem dX9_column_42 : decode cX9_column 42 = .ok (.goto 4, 3) := by decide +kernel
theorem dX9_column_45 : decode cX9_column 45 = .ok (.iconst 0, 1) := by decide +kernel
theorem dX9_column_46 : decode cX9_column 46 = .ok (.istore 4, 2) := by decide +kernel
theorem dX9_column_48 : decode cX9_column 48 = .ok (.aload_n 0, 1) := by decide +kernel
theorem dX9_column_49 : decode cX9_column 49 = .ok (.aload_n 0, 1) := by decide +kernel
theorem dX9_column_50 : decode cX9_column 50 = .ok (.getfield 141, 3) := by decide +kernel
theorem dX9_column_53 : decode cX9_column 53 = .ok (.bipush 12, 2) := by decide +kernel
theorem dX9_column_55 : decode cX9_column 55 = .ok (.if_icmp .ne 7, 3) := by decide +kernel
theorem dX9_column_58 : decode cX9_column 58 = .ok (.iconst 1, 1) := by decide +kernel
theorem dX9_column_59 : decode cX9_column 59 = .ok (.goto 4, 3) := by decide +kernel
theorem dX9_column_62 : decode cX9_column 62 = .ok (.iconst 0, 1) := by decide +kernel
theorem dX9_column_63 : decode cX9_column 63 = .ok (.iload 4, 2) := by decide +kernel
theorem dX9_column_65 : decode cX9_column 65 = .ok (.ifCond .ne 7, 3) := by decide +kernel
theorem dX9_column_68 : decode cX9_column 68 = .ok (.iconst 1, 1) := by decide +kernel
theorem dX9_column_69 : decode cX9_column 69 = .ok (.goto 4, 3) := by decide +kernel
theorem dX9_column_72 : decode cX9_column 72 = .ok (.iconst 0, 1) := by decide +kernel
theorem dX9_column_73 : decode cX9_column 73 = .ok (.invokevirtual 144, 3) := by decide +kernel
theorem dX9_column_76 : decode cX9_column 76 = .ok (.ifCond .ne 5, 3) := by decide +kernel
theorem dX9_column_79 : decode cX9_column 79 = .ok (.iconst 0, 1) := by decide +kernel
theorem dX9_column_80 : decode cX9_column 80 = .ok (.ireturn, 1) := by decide +kernel
theorem dX9_column_81 : decode cX9_column 81 = .ok (.aload_n 0, 1) := by decide +kernel
theorem dX9_column_82 : decode cX9_column 82 = .ok (.getfield 7, 3) := by decide +kernel
theorem dX9_column_85 : decode cX9_column 85 = .ok (.aload_n 0, 1) := by decide +kernel
theorem dX9_column_86 : decode cX9_column 86 = .ok (.getfield 141, 3) := by decide +kernel
theorem dX9_column_89 : decode cX9_column 89 = .ok (.iload_n 1, 1) := by decide +kernel
theorem dX9_column_90 : decode cX9_column 90 = .ok (.iastore, 1) := by decide +kernel
theorem dX9_column_91 : decode cX9_column 91 = .ok (.aload_n 0, 1) := by decide +kernel
theorem dX9_column_92 : decode cX9_column 92 = .ok (.getfield 13, 3) := by decide +kernel
theorem dX9_column_95 : decode cX9_column 95 = .ok (.aload_n 0, 1) := by decide +kernel
theorem dX9_column_96 : decode cX9_column 96 = .ok (.getfield 141, 3) := by decide +kernel
theorem dX9_column_99 : decode cX9_column 99 = .ok (.iload_n 2, 1) := by decide +kernel
theorem dX9_column_100 : decode cX9_column 100 = .ok (.iastore, 1) := by decide +kernel
theorem dX9_column_101 : decode cX9_column 101 = .ok (.aload_n 0, 1) := by decide +kernel
theorem dX9_column_102 : decode cX9_column 102 = .ok (.getfield 16, 3) := by decide +kernel
theorem dX9_column_105 : decode cX9_column 105 = .ok (.aload_n 0, 1) := by decide +kernel
theorem dX9_column_106 : decode cX9_column 106 = .ok (.getfield 141, 3) := by decide +kernel
theorem dX9_column_109 : decode cX9_column 109 = .ok (.iload_n 3, 1) := by decide +kernel
theorem dX9_column_110 : decode cX9_column 110 = .ok (.iastore, 1) := by decide +kernel
theorem dX9_column_111 : decode cX9_column 111 = .ok (.iconst 0, 1) := by decide +kernel
theorem dX9_column_112 : decode cX9_column 112 = .ok (.istore 5, 2) := by decide +kernel
theorem dX9_column_114 : decode cX9_column 114 = .ok (.iload 5, 2) := by decide +kernel
theorem dX9_column_116 : decode cX9_column 116 = .ok (.bipush 12, 2) := by decide +kernel
theorem dX9_column_118 : decode cX9_column 118 = .ok (.if_icmp .ge 25, 3) := by decide +kernel
theorem dX9_column_121 : decode cX9_column 121 = .ok (.aload_n 0, 1) := by decide +kernel
theorem dX9_column_122 : decode cX9_column 122 = .ok (.getfield 25, 3) := by decide +kernel
theorem dX9_column_125 : decode cX9_column 125 = .ok (.bipush 12, 2) := by decide +kernel
theorem dX9_column_127 : decode cX9_column 127 = .ok (.iload 5, 2) := by decide +kernel
theorem dX9_column_129 : decode cX9_column 129 = .ok (.imul, 1) := by decide +kernel
theorem dX9_column_130 : decode cX9_column 130 = .ok (.aload_n 0, 1) := by decide +kernel
theorem dX9_column_131 : decode cX9_column 131 = .ok (.getfield 141, 3) := by decide +kernel
theorem dX9_column_134 : decode cX9_column 134 = .ok (.iadd, 1) := by decide +kernel
theorem dX9_column_135 : decode cX9_column 135 = .ok (.iconst 0, 1) := by decide +kernel
theorem dX9_column_136 : decode cX9_column 136 = .ok (.iastore, 1) := by decide +kernel
theorem dX9_column_137 : decode cX9_column 137 = .ok (.iinc 5 1, 3) := by decide +kernel
theorem dX9_column_140 : decode cX9_column 140 = .ok (.goto (-26), 3) := by decide +kernel
theorem dX9_column_143 : decode cX9_column 143 = .ok (.aload_n 0, 1) := by decide +kernel
theorem dX9_column_144 : decode cX9_column 144 = .ok (.dup, 1) := by decide +kernel
theorem dX9_column_145 : decode cX9_column 145 = .ok (.getfield 141, 3) := by decide +kernel
theorem dX9_column_148 : decode cX9_column 148 = .ok (.iconst 1, 1) := by decide +kernel
theorem dX9_column_149 : decode cX9_column 149 = .ok (.iadd, 1) := by decide +kernel
theorem dX9_column_150 : decode cX9_column 150 = .ok (.putfield 141, 3) := by decide +kernel
theorem dX9_column_153 : decode cX9_column 153 = .ok (.aload_n 0, 1) := by decide +kernel
theorem dX9_column_154 : decode cX9_column 154 = .ok (.invokevirtual 148, 3) := by decide +kernel
theorem dX9_column_157 : decode cX9_column 157 = .ok (.aload_n 0, 1) := by decide +kernel
theorem dX9_column_158 : decode cX9_column 158 = .ok (.getfield 141, 3) := by decide +kernel
theorem dX9_column_161 : decode cX9_column 161 = .ok (.iconst 1, 1) := by decide +kernel
theorem dX9_column_162 : decode cX9_column 162 = .ok (.isub, 1) := by decide +kernel
theorem dX9_column_163 : decode cX9_column 163 = .ok (.ireturn, 1) := by decide +kernel
theorem dX9_row_0 : decode cX9_row 0 = .ok (.aload_n 0, 1) := by decide +kernel
theorem dX9_row_1 : decode cX9_row 1 = .ok (.aload_n 0, 1) := by decide +kernel
theorem dX9_row_2 : decode cX9_row 2 = .ok (.getfield 151, 3) := by decide +kernel
theorem dX9_row_5 : decode cX9_row 5 = .ok (.bipush 12, 2) := by decide +kernel
theorem dX9_row_7 : decode cX9_row 7 = .ok (.if_icmp .ne 7, 3) := by decide +kernel
theorem dX9_row_10 : decode cX9_row 10 = .ok (.iconst 1, 1) := by decide +kernel
theorem dX9_row_11 : decode cX9_row 11 = .ok (.goto 4, 3) := by decide +kernel
theorem dX9_row_14 : decode cX9_row 14 = .ok (.iconst 0, 1) := by decide +kernel
theorem dX9_row_15 : decode cX9_row 15 = .ok (.iload_n 1, 1) := by decide +kernel
theorem dX9_row_16 : decode cX9_row 16 = .ok (.i2l, 1) := by decide +kernel
theorem dX9_row_17 : decode cX9_row 17 = .ok (.lconst 0, 1) := by decide +kernel
theorem dX9_row_18 : decode cX9_row 18 = .ok (.lconst 1, 1) := by decide +kernel
theorem dX9_row_19 : decode cX9_row 19 = .ok (.invokestatic 133, 3) := by decide +kernel
theorem dX9_row_22 : decode cX9_row 22 = .ok (.ifCond .eq 17, 3) := by decide +kernel
theorem dX9_row_25 : decode cX9_row 25 = .ok (.iload_n 2, 1) := by decide +kernel
theorem dX9_row_26 : decode cX9_row 26 = .ok (.i2l, 1) := by decide +kernel
theorem dX9_row_27 : decode cX9_row 27 = .ok (.ldc2_w 154, 3) := by decide +kernel
theorem dX9_row_30 : decode cX9_row 30 = .ok (.ldc2_w 156, 3) := by decide +kernel
theorem dX9_row_33 : decode cX9_row 33 = .ok (.invokestatic 133, 3) := by decide +kernel
theorem dX9_row_36 : decode cX9_row 36 = .ok (.ifCond .ne 7, 3) := by decide +kernel
theorem dX9_row_39 : decode cX9_row 39 = .ok (.iconst 1, 1) := by decide +kernel
theorem dX9_row_40 : decode cX9_row 40 = .ok (.goto 4, 3) := by decide +kernel
theorem dX9_row_43 : decode cX9_row 43 = .ok (.iconst 0, 1) := by decide +kernel
theorem dX9_row_44 : decode cX9_row 44 = .ok (.invokevirtual 144, 3) := by decide +kernel
theorem dX9_row_47 : decode cX9_row 47 = .ok (.ifCond .ne 5, 3) := by decide +kernel
theorem dX9_row_50 : decode cX9_row 50 = .ok (.iconst 0, 1) := by decide +kernel
theorem dX9_row_51 : decode cX9_row 51 = .ok (.ireturn, 1) := by decide +kernel
theorem dX9_row_52 : decode cX9_row 52 = .ok (.aload_n 0, 1) := by decide +kernel
theorem dX9_row_53 : decode cX9_row 53 = .ok (.getfield 19, 3) := by decide +kernel
theorem dX9_row_56 : decode cX9_row 56 = .ok (.aload_n 0, 1) := by decide +kernel
theorem dX9_row_57 : decode cX9_row 57 = .ok (.getfield 151, 3) := by decide +kernel
theorem dX9_row_60 : decode cX9_row 60 = .ok (.iload_n 1, 1) := by decide +kernel
theorem dX9_row_61 : decode cX9_row 61 = .ok (.iastore, 1) := by decide +kernel
theorem dX9_row_62 : decode cX9_row 62 = .ok (.aload_n 0, 1) := by decide +kernel
theorem dX9_row_63 : decode cX9_row 63 = .ok (.getfield 22, 3) := by decide +kernel
theorem dX9_row_66 : decode cX9_row 66 = .ok (.aload_n 0, 1) := by decide +kernel
theorem dX9_row_67 : decode cX9_row 67 = .ok (.getfield 151, 3) := by decide +kernel
theorem dX9_row_70 : decode cX9_row 70 = .ok (.iload_n 2, 1) := by decide +kernel
theorem dX9_row_71 : decode cX9_row 71 = .ok (.iastore, 1) := by decide +kernel
theorem dX9_row_72 : decode cX9_row 72 = .ok (.iconst 0, 1) := by decide +kernel
theorem dX9_row_73 : decode cX9_row 73 = .ok (.istore_n 3, 1) := by decide +kernel
theorem dX9_row_74 : decode cX9_row 74 = .ok (.iload_n 3, 1) := by decide +kernel
theorem dX9_row_75 : decode cX9_row 75 = .ok (.bipush 12, 2) := by decide +kernel
theorem dX9_row_77 : decode cX9_row 77 = .ok (.if_icmp .ge 24, 3) := by decide +kernel
theorem dX9_row_80 : decode cX9_row 80 = .ok (.aload_n 0, 1) := by decide +kernel
theorem dX9_row_81 : decode cX9_row 81 = .ok (.getfield 25, 3) := by decide +kernel
theorem dX9_row_84 : decode cX9_row 84 = .ok (.bipush 12, 2) := by decide +kernel
theorem dX9_row_86 : decode cX9_row 86 = .ok (.aload_n 0, 1) := by decide +kernel
theorem dX9_row_87 : decode cX9_row 87 = .ok (.getfield 151, 3) := by decide +kernel
theorem dX9_row_90 : decode cX9_row 90 = .ok (.imul, 1) := by decide +kernel
theorem dX9_row_91 : decode cX9_row 91 = .ok (.iload_n 3, 1) := by decide +kernel
theorem dX9_row_92 : decode cX9_row 92 = .ok (.iadd, 1) := by decide +kernel
theorem dX9_row_93 : decode cX9_row 93 = .ok (.iconst 0, 1) := by decide +kernel
theorem dX9_row_94 : decode cX9_row 94 = .ok (.iastore, 1) := by decide +kernel
theorem dX9_row_95 : decode cX9_row 95 = .ok (.iinc 3 1, 3) := by decide +kernel
theorem dX9_row_98 : decode cX9_row 98 = .ok (.goto (-24), 3) := by decide +kernel
theorem dX9_row_101 : decode cX9_row 101 = .ok (.aload_n 0, 1) := by decide +kernel
theorem dX9_row_102 : decode cX9_row 102 = .ok (.dup, 1) := by decide +kernel
theorem dX9_row_103 : decode cX9_row 103 = .ok (.getfield 151, 3) := by decide +kernel
theorem dX9_row_106 : decode cX9_row 106 = .ok (.iconst 1, 1) := by decide +kernel
theorem dX9_row_107 : decode cX9_row 107 = .ok (.iadd, 1) := by decide +kernel
theorem dX9_row_108 : decode cX9_row 108 = .ok (.putfield 151, 3) := by decide +kernel
theorem dX9_row_111 : decode cX9_row 111 = .ok (.aload_n 0, 1) := by decide +kernel
theorem dX9_row_112 : decode cX9_row 112 = .ok (.invokevirtual 148, 3) := by decide +kernel
theorem dX9_row_115 : decode cX9_row 115 = .ok (.aload_n 0, 1) := by decide +kernel
theorem dX9_row_116 : decode cX9_row 116 = .ok (.getfield 151, 3) := by decide +kernel
theorem dX9_row_119 : decode cX9_row 119 = .ok (.iconst 1, 1) := by decide +kernel
theorem dX9_row_120 : decode cX9_row 120 = .ok (.isub, 1) := by decide +kernel
theorem dX9_row_121 : decode cX9_row 121 = .ok (.ireturn, 1) := by decide +kernel
theorem dX9_isRow_0 : decode cX9_isRow 0 = .ok (.iload_n 1, 1) := by decide +kernel
theorem dX9_isRow_1 : decode cX9_isRow 1 = .ok (.i2l, 1) := by decide +kernel
theorem dX9_isRow_2 : decode cX9_isRow 2 = .ok (.lconst 0, 1) := by decide +kernel
theorem dX9_isRow_3 : decode cX9_isRow 3 = .ok (.aload_n 0, 1) := by decide +kernel
theorem dX9_isRow_4 : decode cX9_isRow 4 = .ok (.getfield 151, 3) := by decide +kernel
theorem dX9_isRow_7 : decode cX9_isRow 7 = .ok (.iconst 1, 1) := by decide +kernel
theorem dX9_isRow_8 : decode cX9_isRow 8 = .ok (.isub, 1) := by decide +kernel
theorem dX9_isRow_9 : decode cX9_isRow 9 = .ok (.i2l, 1) := by decide +kernel
theorem dX9_isRow_10 : decode cX9_isRow 10 = .ok (.invokestatic 133, 3) := by decide +kernel
theorem dX9_isRow_13 : decode cX9_isRow 13 = .ok (.ireturn, 1) := by decide +kernel
theorem dX9_isColumn_0 : decode cX9_isColumn 0 = .ok (.iload_n 1, 1) := by decide +kernel
theorem dX9_isColumn_1 : decode cX9_isColumn 1 = .ok (.i2l, 1) := by decide +kernel
theorem dX9_isColumn_2 : decode cX9_isColumn 2 = .ok (.lconst 0, 1) := by decide +kernel
theorem dX9_isColumn_3 : decode cX9_isColumn 3 = .ok (.aload_n 0, 1) := by decide +kernel
theorem dX9_isColumn_4 : decode cX9_isColumn 4 = .ok (.getfield 141, 3) := by decide +kernel
theorem dX9_isColumn_7 : decode cX9_isColumn 7 = .ok (.iconst 1, 1) := by decide +kernel
theorem dX9_isColumn_8 : decode cX9_isColumn 8 = .ok (.isub, 1) := by decide +kernel
theorem dX9_isColumn_9 : decode cX9_isColumn 9 = .ok (.i2l, 1) := by decide +kernel
theorem dX9_isColumn_10 : decode cX9_isColumn 10 = .ok (.invokestatic 133, 3) := by decide +kernel
theorem dX9_isColumn_13 : decode cX9_isColumn 13 = .ok (.ireturn, 1) := by decide +kernel
theorem dX9_term_0 : decode cX9_term 0 = .ok (.aload_n 0, 1) := by decide +kernel
theorem dX9_term_1 : decode cX9_term 1 = .ok (.aload_n 0, 1) := by decide +kernel
theorem dX9_term_2 : decode cX9_term 2 = .ok (.iload_n 1, 1) := by decide +kernel
theorem dX9_term_3 : decode cX9_term 3 = .ok (.invokevirtual 158, 3) := by decide +kernel
theorem dX9_term_6 : decode cX9_term 6 = .ok (.ifCond .eq 11, 3) := by decide +kernel
theorem dX9_term_9 : decode cX9_term 9 = .ok (.aload_n 0, 1) := by decide +kernel
theorem dX9_term_10 : decode cX9_term 10 = .ok (.iload_n 2, 1) := by decide +kernel
theorem dX9_term_11 : decode cX9_term 11 = .ok (.invokevirtual 162, 3) := by decide +kernel
theorem dX9_term_14 : decode cX9_term 14 = .ok (.ifCond .ne 7, 3) := by decide +kernel
theorem dX9_term_17 : decode cX9_term 17 = .ok (.iconst 1, 1) := by decide +kernel
theorem dX9_term_18 : decode cX9_term 18 = .ok (.goto 4, 3) := by decide +kernel
theorem dX9_term_21 : decode cX9_term 21 = .ok (.iconst 0, 1) := by decide +kernel
theorem dX9_term_22 : decode cX9_term 22 = .ok (.iload_n 3, 1) := by decide +kernel
theorem dX9_term_23 : decode cX9_term 23 = .ok (.i2l, 1) := by decide +kernel
theorem dX9_term_24 : decode cX9_term 24 = .ok (.ldc2_w 137, 3) := by decide +kernel
theorem dX9_term_27 : decode cX9_term 27 = .ok (.ldc2_w 139, 3) := by decide +kernel
theorem dX9_term_30 : decode cX9_term 30 = .ok (.invokestatic 133, 3) := by decide +kernel
theorem dX9_term_33 : decode cX9_term 33 = .ok (.ifCond .ne 7, 3) := by decide +kernel
theorem dX9_term_36 : decode cX9_term 36 = .ok (.iconst 1, 1) := by decide +kernel
theorem dX9_term_37 : decode cX9_term 37 = .ok (.goto 4, 3) := by decide +kernel
theorem dX9_term_40 : decode cX9_term 40 = .ok (.iconst 0, 1) := by decide +kernel
theorem dX9_term_41 : decode cX9_term 41 = .ok (.invokevirtual 144, 3) := by decide +kernel
theorem dX9_term_44 : decode cX9_term 44 = .ok (.ifCond .eq 19, 3) := by decide +kernel
theorem dX9_term_47 : decode cX9_term 47 = .ok (.aload_n 0, 1) := by decide +kernel
theorem dX9_term_48 : decode cX9_term 48 = .ok (.getfield 25, 3) := by decide +kernel
theorem dX9_term_51 : decode cX9_term 51 = .ok (.bipush 12, 2) := by decide +kernel
theorem dX9_term_53 : decode cX9_term 53 = .ok (.iload_n 1, 1) := by decide +kernel
theorem dX9_term_54 : decode cX9_term 54 = .ok (.imul, 1) := by decide +kernel
theorem dX9_term_55 : decode cX9_term 55 = .ok (.iload_n 2, 1) := by decide +kernel
theorem dX9_term_56 : decode cX9_term 56 = .ok (.iadd, 1) := by decide +kernel
theorem dX9_term_57 : decode cX9_term 57 = .ok (.iload_n 3, 1) := by decide +kernel
theorem dX9_term_58 : decode cX9_term 58 = .ok (.iastore, 1) := by decide +kernel
theorem dX9_term_59 : decode cX9_term 59 = .ok (.aload_n 0, 1) := by decide +kernel
theorem dX9_term_60 : decode cX9_term 60 = .ok (.invokevirtual 148, 3) := by decide +kernel
theorem dX9_term_63 : decode cX9_term 63 = .ok (.return_, 1) := by decide +kernel
theorem dX9_clear_0 : decode cX9_clear 0 = .ok (.aload_n 0, 1) := by decide +kernel
theorem dX9_clear_1 : decode cX9_clear 1 = .ok (.iconst 0, 1) := by decide +kernel
theorem dX9_clear_2 : decode cX9_clear 2 = .ok (.putfield 108, 3) := by decide +kernel
theorem dX9_clear_5 : decode cX9_clear 5 = .ok (.aload_n 0, 1) := by decide +kernel
theorem dX9_clear_6 : decode cX9_clear 6 = .ok (.getfield 141, 3) := by decide +kernel
theorem dX9_clear_9 : decode cX9_clear 9 = .ok (.istore_n 1, 1) := by decide +kernel
theorem dX9_clear_10 : decode cX9_clear 10 = .ok (.aload_n 0, 1) := by decide +kernel
theorem dX9_clear_11 : decode cX9_clear 11 = .ok (.iconst 0, 1) := by decide +kernel
theorem dX9_clear_12 : decode cX9_clear 12 = .ok (.putfield 141, 3) := by decide +kernel
theorem dX9_clear_15 : decode cX9_clear 15 = .ok (.aload_n 0, 1) := by decide +kernel
theorem dX9_clear_16 : decode cX9_clear 16 = .ok (.iconst 0, 1) := by decide +kernel
theorem dX9_clear_17 : decode cX9_clear 17 = .ok (.putfield 151, 3) := by decide +kernel
theorem dX9_clear_20 : decode cX9_clear 20 = .ok (.aload_n 0, 1) := by decide +kernel
theorem dX9_clear_21 : decode cX9_clear 21 = .ok (.invokevirtual 148, 3) := by decide +kernel
theorem dX9_clear_24 : decode cX9_clear 24 = .ok (.iload_n 1, 1) := by decide +kernel
theorem dX9_clear_25 : decode cX9_clear 25 = .ok (.ireturn, 1) := by decide +kernel
theorem dX9_isTerm_0 : decode cX9_isTerm 0 = .ok (.aload_n 0, 1) := by decide +kernel
theorem dX9_isTerm_1 : decode cX9_isTerm 1 = .ok (.getfield 28, 3) := by decide +kernel
theorem dX9_isTerm_4 : decode cX9_isTerm 4 = .ok (.iload_n 2, 1) := by decide +kernel
theorem dX9_isTerm_5 : decode cX9_isTerm 5 = .ok (.iaload, 1) := by decide +kernel
theorem dX9_isTerm_6 : decode cX9_isTerm 6 = .ok (.ifCond .ne 23, 3) := by decide +kernel
theorem dX9_isTerm_9 : decode cX9_isTerm 9 = .ok (.aload_n 0, 1) := by decide +kernel
theorem dX9_isTerm_10 : decode cX9_isTerm 10 = .ok (.getfield 60, 3) := by decide +kernel
theorem dX9_isTerm_13 : decode cX9_isTerm 13 = .ok (.bipush 12, 2) := by decide +kernel
theorem dX9_isTerm_15 : decode cX9_isTerm 15 = .ok (.iload_n 1, 1) := by decide +kernel
theorem dX9_isTerm_16 : decode cX9_isTerm 16 = .ok (.imul, 1) := by decide +kernel
theorem dX9_isTerm_17 : decode cX9_isTerm 17 = .ok (.iload_n 2, 1) := by decide +kernel
theorem dX9_isTerm_18 : decode cX9_isTerm 18 = .ok (.iadd, 1) := by decide +kernel
theorem dX9_isTerm_19 : decode cX9_isTerm 19 = .ok (.laload, 1) := by decide +kernel
theorem dX9_isTerm_20 : decode cX9_isTerm 20 = .ok (.lconst 0, 1) := by decide +kernel
theorem dX9_isTerm_21 : decode cX9_isTerm 21 = .ok (.lcmp, 1) := by decide +kernel
theorem dX9_isTerm_22 : decode cX9_isTerm 22 = .ok (.ifCond .eq 7, 3) := by decide +kernel
theorem dX9_isTerm_25 : decode cX9_isTerm 25 = .ok (.iconst 1, 1) := by decide +kernel
theorem dX9_isTerm_26 : decode cX9_isTerm 26 = .ok (.goto 4, 3) := by decide +kernel
theorem dX9_isTerm_29 : decode cX9_isTerm 29 = .ok (.iconst 0, 1) := by decide +kernel
theorem dX9_isTerm_30 : decode cX9_isTerm 30 = .ok (.ireturn, 1) := by decide +kernel
theorem dX9_terms_0 : decode cX9_terms 0 = .ok (.iconst 0, 1) := by decide +kernel
theorem dX9_terms_1 : decode cX9_terms 1 = .ok (.istore_n 2, 1) := by decide +kernel
theorem dX9_terms_2 : decode cX9_terms 2 = .ok (.iconst 0, 1) := by decide +kernel
theorem dX9_terms_3 : decode cX9_terms 3 = .ok (.istore_n 3, 1) := by decide +kernel
theorem dX9_terms_4 : decode cX9_terms 4 = .ok (.iload_n 3, 1) := by decide +kernel
theorem dX9_terms_5 : decode cX9_terms 5 = .ok (.aload_n 0, 1) := by decide +kernel
theorem dX9_terms_6 : decode cX9_terms 6 = .ok (.getfield 141, 3) := by decide +kernel
theorem dX9_terms_9 : decode cX9_terms 9 = .ok (.if_icmp .ge 26, 3) := by decide +kernel
theorem dX9_terms_12 : decode cX9_terms 12 = .ok (.iload_n 2, 1) := by decide +kernel
theorem dX9_terms_13 : decode cX9_terms 13 = .ok (.aload_n 0, 1) := by decide +kernel
theorem dX9_terms_14 : decode cX9_terms 14 = .ok (.iload_n 1, 1) := by decide +kernel
theorem dX9_terms_15 : decode cX9_terms 15 = .ok (.iload_n 3, 1) := by decide +kernel
theorem dX9_terms_16 : decode cX9_terms 16 = .ok (.invokevirtual 165, 3) := by decide +kernel
theorem dX9_terms_19 : decode cX9_terms 19 = .ok (.ifCond .eq 7, 3) := by decide +kernel
theorem dX9_terms_22 : decode cX9_terms 22 = .ok (.iconst 1, 1) := by decide +kernel
theorem dX9_terms_23 : decode cX9_terms 23 = .ok (.goto 4, 3) := by decide +kernel
theorem dX9_terms_26 : decode cX9_terms 26 = .ok (.iconst 0, 1) := by decide +kernel
theorem dX9_terms_27 : decode cX9_terms 27 = .ok (.iadd, 1) := by decide +kernel
theorem dX9_terms_28 : decode cX9_terms 28 = .ok (.istore_n 2, 1) := by decide +kernel
theorem dX9_terms_29 : decode cX9_terms 29 = .ok (.iinc 3 1, 3) := by decide +kernel
theorem dX9_terms_32 : decode cX9_terms 32 = .ok (.goto (-28), 3) := by decide +kernel
theorem dX9_terms_35 : decode cX9_terms 35 = .ok (.iload_n 2, 1) := by decide +kernel
theorem dX9_terms_36 : decode cX9_terms 36 = .ok (.ireturn, 1) := by decide +kernel
theorem dX9_end_0 : decode cX9_end 0 = .ok (.lconst 0, 1) := by decide +kernel
theorem dX9_end_1 : decode cX9_end 1 = .ok (.lstore 4, 2) := by decide +kernel
theorem dX9_end_3 : decode cX9_end 3 = .ok (.iconst 0, 1) := by decide +kernel
theorem dX9_end_4 : decode cX9_end 4 = .ok (.istore 6, 2) := by decide +kernel
theorem dX9_end_6 : decode cX9_end 6 = .ok (.iload 6, 2) := by decide +kernel
theorem dX9_end_8 : decode cX9_end 8 = .ok (.aload_n 0, 1) := by decide +kernel
theorem dX9_end_9 : decode cX9_end 9 = .ok (.getfield 141, 3) := by decide +kernel
theorem dX9_end_12 : decode cX9_end 12 = .ok (.if_icmp .ge 81, 3) := by decide +kernel
theorem dX9_end_15 : decode cX9_end 15 = .ok (.iload 6, 2) := by decide +kernel
theorem dX9_end_17 : decode cX9_end 17 = .ok (.iload_n 2, 1) := by decide +kernel
theorem dX9_end_18 : decode cX9_end 18 = .ok (.if_icmp .eq 69, 3) := by decide +kernel
theorem dX9_end_21 : decode cX9_end 21 = .ok (.aload_n 0, 1) := by decide +kernel
theorem dX9_end_22 : decode cX9_end 22 = .ok (.iload_n 1, 1) := by decide +kernel
theorem dX9_end_23 : decode cX9_end 23 = .ok (.iload 6, 2) := by decide +kernel
theorem dX9_end_25 : decode cX9_end 25 = .ok (.invokevirtual 165, 3) := by decide +kernel
theorem dX9_end_28 : decode cX9_end 28 = .ok (.ifCond .eq 59, 3) := by decide +kernel
theorem dX9_end_31 : decode cX9_end 31 = .ok (.aload_n 0, 1) := by decide +kernel
theorem dX9_end_32 : decode cX9_end 32 = .ok (.getfield 60, 3) := by decide +kernel
theorem dX9_end_35 : decode cX9_end 35 = .ok (.bipush 12, 2) := by decide +kernel
theorem dX9_end_37 : decode cX9_end 37 = .ok (.iload_n 1, 1) := by decide +kernel
theorem dX9_end_38 : decode cX9_end 38 = .ok (.imul, 1) := by decide +kernel
theorem dX9_end_39 : decode cX9_end 39 = .ok (.iload 6, 2) := by decide +kernel
theorem dX9_end_41 : decode cX9_end 41 = .ok (.iadd, 1) := by decide +kernel
theorem dX9_end_42 : decode cX9_end 42 = .ok (.laload, 1) := by decide +kernel
theorem dX9_end_43 : decode cX9_end 43 = .ok (.lstore 7, 2) := by decide +kernel
theorem dX9_end_45 : decode cX9_end 45 = .ok (.lload 4, 2) := by decide +kernel
theorem dX9_end_47 : decode cX9_end 47 = .ok (.lload 7, 2) := by decide +kernel
theorem dX9_end_49 : decode cX9_end 49 = .ok (.lload 7, 2) := by decide +kernel
theorem dX9_end_51 : decode cX9_end 51 = .ok (.lconst 0, 1) := by decide +kernel
theorem dX9_end_52 : decode cX9_end 52 = .ok (.lcmp, 1) := by decide +kernel
theorem dX9_end_53 : decode cX9_end 53 = .ok (.ifCond .le 7, 3) := by decide +kernel
theorem dX9_end_56 : decode cX9_end 56 = .ok (.iconst 1, 1) := by decide +kernel
theorem dX9_end_57 : decode cX9_end 57 = .ok (.goto 4, 3) := by decide +kernel
theorem dX9_end_60 : decode cX9_end 60 = .ok (.iconst 0, 1) := by decide +kernel
theorem dX9_end_61 : decode cX9_end 61 = .ok (.iload_n 3, 1) := by decide +kernel
theorem dX9_end_62 : decode cX9_end 62 = .ok (.if_icmp .ne 13, 3) := by decide +kernel
theorem dX9_end_65 : decode cX9_end 65 = .ok (.aload_n 0, 1) := by decide +kernel
theorem dX9_end_66 : decode cX9_end 66 = .ok (.getfield 34, 3) := by decide +kernel
theorem dX9_end_69 : decode cX9_end 69 = .ok (.iload 6, 2) := by decide +kernel
theorem dX9_end_71 : decode cX9_end 71 = .ok (.iaload, 1) := by decide +kernel
theorem dX9_end_72 : decode cX9_end 72 = .ok (.goto 10, 3) := by decide +kernel
theorem dX9_end_75 : decode cX9_end 75 = .ok (.aload_n 0, 1) := by decide +kernel
theorem dX9_end_76 : decode cX9_end 76 = .ok (.getfield 31, 3) := by decide +kernel
theorem dX9_end_79 : decode cX9_end 79 = .ok (.iload 6, 2) := by decide +kernel
theorem dX9_end_81 : decode cX9_end 81 = .ok (.iaload, 1) := by decide +kernel
theorem dX9_end_82 : decode cX9_end 82 = .ok (.i2l, 1) := by decide +kernel
theorem dX9_end_83 : decode cX9_end 83 = .ok (.lmul, 1) := by decide +kernel
theorem dX9_end_84 : decode cX9_end 84 = .ok (.ladd, 1) := by decide +kernel
theorem dX9_end_85 : decode cX9_end 85 = .ok (.lstore 4, 2) := by decide +kernel
theorem dX9_end_87 : decode cX9_end 87 = .ok (.iinc 6 1, 3) := by decide +kernel
theorem dX9_end_90 : decode cX9_end 90 = .ok (.goto (-84), 3) := by decide +kernel
theorem dX9_end_93 : decode cX9_end 93 = .ok (.lload 4, 2) := by decide +kernel
theorem dX9_end_95 : decode cX9_end 95 = .ok (.lreturn, 1) := by decide +kernel
theorem dX9_from_0 : decode cX9_from 0 = .ok (.iconst 0, 1) := by decide +kernel
theorem dX9_from_1 : decode cX9_from 1 = .ok (.istore 4, 2) := by decide +kernel
theorem dX9_from_3 : decode cX9_from 3 = .ok (.iconst 0, 1) := by decide +kernel
theorem dX9_from_4 : decode cX9_from 4 = .ok (.istore 5, 2) := by decide +kernel
theorem dX9_from_6 : decode cX9_from 6 = .ok (.iload 5, 2) := by decide +kernel
theorem dX9_from_8 : decode cX9_from 8 = .ok (.aload_n 0, 1) := by decide +kernel
theorem dX9_from_9 : decode cX9_from 9 = .ok (.getfield 141, 3) := by decide +kernel
theorem dX9_from_12 : decode cX9_from 12 = .ok (.if_icmp .ge 73, 3) := by decide +kernel
theorem dX9_from_15 : decode cX9_from 15 = .ok (.iload 5, 2) := by decide +kernel
theorem dX9_from_17 : decode cX9_from 17 = .ok (.iload_n 2, 1) := by decide +kernel
theorem dX9_from_18 : decode cX9_from 18 = .ok (.if_icmp .eq 61, 3) := by decide +kernel
theorem dX9_from_21 : decode cX9_from 21 = .ok (.aload_n 0, 1) := by decide +kernel
theorem dX9_from_22 : decode cX9_from 22 = .ok (.iload_n 1, 1) := by decide +kernel
theorem dX9_from_23 : decode cX9_from 23 = .ok (.iload 5, 2) := by decide +kernel
theorem dX9_from_25 : decode cX9_from 25 = .ok (.invokevirtual 165, 3) := by decide +kernel
theorem dX9_from_28 : decode cX9_from 28 = .ok (.ifCond .eq 51, 3) := by decide +kernel
theorem dX9_from_31 : decode cX9_from 31 = .ok (.iload 4, 2) := by decide +kernel
theorem dX9_from_33 : decode cX9_from 33 = .ok (.aload_n 0, 1) := by decide +kernel
theorem dX9_from_34 : decode cX9_from 34 = .ok (.getfield 60, 3) := by decide +kernel
theorem dX9_from_37 : decode cX9_from 37 = .ok (.bipush 12, 2) := by decide +kernel
theorem dX9_from_39 : decode cX9_from 39 = .ok (.iload_n 1, 1) := by decide +kernel
theorem dX9_from_40 : decode cX9_from 40 = .ok (.imul, 1) := by decide +kernel
theorem dX9_from_41 : decode cX9_from 41 = .ok (.iload 5, 2) := by decide +kernel
theorem dX9_from_43 : decode cX9_from 43 = .ok (.iadd, 1) := by decide +kernel
theorem dX9_from_44 : decode cX9_from 44 = .ok (.laload, 1) := by decide +kernel
theorem dX9_from_45 : decode cX9_from 45 = .ok (.lconst 0, 1) := by decide +kernel
theorem dX9_from_46 : decode cX9_from 46 = .ok (.lcmp, 1) := by decide +kernel
theorem dX9_from_47 : decode cX9_from 47 = .ok (.ifCond .le 7, 3) := by decide +kernel
theorem dX9_from_50 : decode cX9_from 50 = .ok (.iconst 1, 1) := by decide +kernel
theorem dX9_from_51 : decode cX9_from 51 = .ok (.goto 4, 3) := by decide +kernel
theorem dX9_from_54 : decode cX9_from 54 = .ok (.iconst 0, 1) := by decide +kernel
theorem dX9_from_55 : decode cX9_from 55 = .ok (.iload_n 3, 1) := by decide +kernel
theorem dX9_from_56 : decode cX9_from 56 = .ok (.if_icmp .ne 13, 3) := by decide +kernel
theorem dX9_from_59 : decode cX9_from 59 = .ok (.aload_n 0, 1) := by decide +kernel
theorem dX9_from_60 : decode cX9_from 60 = .ok (.getfield 40, 3) := by decide +kernel
theorem dX9_from_63 : decode cX9_from 63 = .ok (.iload 5, 2) := by decide +kernel
theorem dX9_from_65 : decode cX9_from 65 = .ok (.iaload, 1) := by decide +kernel
theorem dX9_from_66 : decode cX9_from 66 = .ok (.goto 10, 3) := by decide +kernel
theorem dX9_from_69 : decode cX9_from 69 = .ok (.aload_n 0, 1) := by decide +kernel
theorem dX9_from_70 : decode cX9_from 70 = .ok (.getfield 37, 3) := by decide +kernel
theorem dX9_from_73 : decode cX9_from 73 = .ok (.iload 5, 2) := by decide +kernel
theorem dX9_from_75 : decode cX9_from 75 = .ok (.iaload, 1) := by decide +kernel
theorem dX9_from_76 : decode cX9_from 76 = .ok (.ior, 1) := by decide +kernel
theorem dX9_from_77 : decode cX9_from 77 = .ok (.istore 4, 2) := by decide +kernel
theorem dX9_from_79 : decode cX9_from 79 = .ok (.iinc 5 1, 3) := by decide +kernel
theorem dX9_from_82 : decode cX9_from 82 = .ok (.goto (-76), 3) := by decide +kernel
theorem dX9_from_85 : decode cX9_from 85 = .ok (.iload 4, 2) := by decide +kernel
theorem dX9_from_87 : decode cX9_from 87 = .ok (.ireturn, 1) := by decide +kernel
theorem dX9_act_0 : decode cX9_act 0 = .ok (.aload_n 0, 1) := by decide +kernel
theorem dX9_act_1 : decode cX9_act 1 = .ok (.getfield 169, 3) := by decide +kernel
theorem dX9_act_4 : decode cX9_act 4 = .ok (.sipush 400, 3) := by decide +kernel
theorem dX9_act_7 : decode cX9_act 7 = .ok (.if_icmp .ge 55, 3) := by decide +kernel
theorem dX9_act_10 : decode cX9_act 10 = .ok (.aload_n 0, 1) := by decide +kernel
theorem dX9_act_11 : decode cX9_act 11 = .ok (.getfield 63, 3) := by decide +kernel
theorem dX9_act_14 : decode cX9_act 14 = .ok (.aload_n 0, 1) := by decide +kernel
theorem dX9_act_15 : decode cX9_act 15 = .ok (.getfield 169, 3) := by decide +kernel
theorem dX9_act_18 : decode cX9_act 18 = .ok (.iload_n 1, 1) := by decide +kernel
theorem dX9_act_19 : decode cX9_act 19 = .ok (.iastore, 1) := by decide +kernel
theorem dX9_act_20 : decode cX9_act 20 = .ok (.aload_n 0, 1) := by decide +kernel
theorem dX9_act_21 : decode cX9_act 21 = .ok (.getfield 66, 3) := by decide +kernel
theorem dX9_act_24 : decode cX9_act 24 = .ok (.aload_n 0, 1) := by decide +kernel
theorem dX9_act_25 : decode cX9_act 25 = .ok (.getfield 169, 3) := by decide +kernel
theorem dX9_act_28 : decode cX9_act 28 = .ok (.iload_n 2, 1) := by decide +kernel
theorem dX9_act_29 : decode cX9_act 29 = .ok (.iastore, 1) := by decide +kernel
theorem dX9_act_30 : decode cX9_act 30 = .ok (.aload_n 0, 1) := by decide +kernel
theorem dX9_act_31 : decode cX9_act 31 = .ok (.getfield 69, 3) := by decide +kernel
theorem dX9_act_34 : decode cX9_act 34 = .ok (.aload_n 0, 1) := by decide +kernel
theorem dX9_act_35 : decode cX9_act 35 = .ok (.getfield 169, 3) := by decide +kernel
theorem dX9_act_38 : decode cX9_act 38 = .ok (.iload_n 3, 1) := by decide +kernel
theorem dX9_act_39 : decode cX9_act 39 = .ok (.iastore, 1) := by decide +kernel
theorem dX9_act_40 : decode cX9_act 40 = .ok (.aload_n 0, 1) := by decide +kernel
theorem dX9_act_41 : decode cX9_act 41 = .ok (.getfield 72, 3) := by decide +kernel
theorem dX9_act_44 : decode cX9_act 44 = .ok (.aload_n 0, 1) := by decide +kernel
theorem dX9_act_45 : decode cX9_act 45 = .ok (.getfield 169, 3) := by decide +kernel
theorem dX9_act_48 : decode cX9_act 48 = .ok (.iload 4, 2) := by decide +kernel
theorem dX9_act_50 : decode cX9_act 50 = .ok (.iastore, 1) := by decide +kernel
theorem dX9_act_51 : decode cX9_act 51 = .ok (.aload_n 0, 1) := by decide +kernel
theorem dX9_act_52 : decode cX9_act 52 = .ok (.getfield 75, 3) := by decide +kernel
theorem dX9_act_55 : decode cX9_act 55 = .ok (.aload_n 0, 1) := by decide +kernel
theorem dX9_act_56 : decode cX9_act 56 = .ok (.getfield 169, 3) := by decide +kernel
theorem dX9_act_59 : decode cX9_act 59 = .ok (.lload 5, 2) := by decide +kernel
theorem dX9_act_61 : decode cX9_act 61 = .ok (.lastore, 1) := by decide +kernel
theorem dX9_act_62 : decode cX9_act 62 = .ok (.aload_n 0, 1) := by decide +kernel
theorem dX9_act_63 : decode cX9_act 63 = .ok (.dup, 1) := by decide +kernel
theorem dX9_act_64 : decode cX9_act 64 = .ok (.getfield 169, 3) := by decide +kernel
theorem dX9_act_67 : decode cX9_act 67 = .ok (.iconst 1, 1) := by decide +kernel
theorem dX9_act_68 : decode cX9_act 68 = .ok (.iadd, 1) := by decide +kernel
theorem dX9_act_69 : decode cX9_act 69 = .ok (.putfield 169, 3) := by decide +kernel
theorem dX9_act_72 : decode cX9_act 72 = .ok (.return_, 1) := by decide +kernel
theorem dX9_impossible_0 : decode cX9_impossible 0 = .ok (.aload_n 0, 1) := by decide +kernel
theorem dX9_impossible_1 : decode cX9_impossible 1 = .ok (.aload_n 0, 1) := by decide +kernel
theorem dX9_impossible_2 : decode cX9_impossible 2 = .ok (.getfield 172, 3) := by decide +kernel
theorem dX9_impossible_5 : decode cX9_impossible 5 = .ok (.iconst (-1), 1) := by decide +kernel
theorem dX9_impossible_6 : decode cX9_impossible 6 = .ok (.if_icmp .ne 7, 3) := by decide +kernel
theorem dX9_impossible_9 : decode cX9_impossible 9 = .ok (.iload_n 1, 1) := by decide +kernel
theorem dX9_impossible_10 : decode cX9_impossible 10 = .ok (.goto 7, 3) := by decide +kernel
theorem dX9_impossible_13 : decode cX9_impossible 13 = .ok (.aload_n 0, 1) := by decide +kernel
theorem dX9_impossible_14 : decode cX9_impossible 14 = .ok (.getfield 172, 3) := by decide +kernel
theorem dX9_impossible_17 : decode cX9_impossible 17 = .ok (.putfield 172, 3) := by decide +kernel
theorem dX9_impossible_20 : decode cX9_impossible 20 = .ok (.return_, 1) := by decide +kernel
theorem dX9_goesOn_0 : decode cX9_goesOn 0 = .ok (.aload_n 0, 1) := by decide +kernel
theorem dX9_goesOn_1 : decode cX9_goesOn 1 = .ok (.getfield 172, 3) := by decide +kernel
theorem dX9_goesOn_4 : decode cX9_goesOn 4 = .ok (.iconst (-1), 1) := by decide +kernel
theorem dX9_goesOn_5 : decode cX9_goesOn 5 = .ok (.if_icmp .ne 7, 3) := by decide +kernel
theorem dX9_goesOn_8 : decode cX9_goesOn 8 = .ok (.iconst 1, 1) := by decide +kernel
theorem dX9_goesOn_9 : decode cX9_goesOn 9 = .ok (.goto 4, 3) := by decide +kernel
theorem dX9_goesOn_12 : decode cX9_goesOn 12 = .ok (.iconst 0, 1) := by decide +kernel
theorem dX9_goesOn_13 : decode cX9_goesOn 13 = .ok (.ireturn, 1) := by decide +kernel
theorem dX9_narrowLow_0 : decode cX9_narrowLow 0 = .ok (.aload_n 0, 1) := by decide +kernel
theorem dX9_narrowLow_1 : decode cX9_narrowLow 1 = .ok (.invokevirtual 175, 3) := by decide +kernel
theorem dX9_narrowLow_4 : decode cX9_narrowLow 4 = .ok (.ifCond .eq 16, 3) := by decide +kernel
theorem dX9_narrowLow_7 : decode cX9_narrowLow 7 = .ok (.lload 4, 2) := by decide +kernel
theorem dX9_narrowLow_9 : decode cX9_narrowLow 9 = .ok (.aload_n 0, 1) := by decide +kernel
theorem dX9_narrowLow_10 : decode cX9_narrowLow 10 = .ok (.getfield 31, 3) := by decide +kernel
theorem dX9_narrowLow_13 : decode cX9_narrowLow 13 = .ok (.iload_n 3, 1) := by decide +kernel
theorem dX9_narrowLow_14 : decode cX9_narrowLow 14 = .ok (.iaload, 1) := by decide +kernel
theorem dX9_narrowLow_15 : decode cX9_narrowLow 15 = .ok (.i2l, 1) := by decide +kernel
theorem dX9_narrowLow_16 : decode cX9_narrowLow 16 = .ok (.lcmp, 1) := by decide +kernel
theorem dX9_narrowLow_17 : decode cX9_narrowLow 17 = .ok (.ifCond .gt 4, 3) := by decide +kernel
theorem dX9_narrowLow_20 : decode cX9_narrowLow 20 = .ok (.return_, 1) := by decide +kernel
theorem dX9_narrowLow_21 : decode cX9_narrowLow 21 = .ok (.lload 4, 2) := by decide +kernel
theorem dX9_narrowLow_23 : decode cX9_narrowLow 23 = .ok (.aload_n 0, 1) := by decide +kernel
theorem dX9_narrowLow_24 : decode cX9_narrowLow 24 = .ok (.getfield 34, 3) := by decide +kernel
theorem dX9_narrowLow_27 : decode cX9_narrowLow 27 = .ok (.iload_n 3, 1) := by decide +kernel
theorem dX9_narrowLow_28 : decode cX9_narrowLow 28 = .ok (.iaload, 1) := by decide +kernel
theorem dX9_narrowLow_29 : decode cX9_narrowLow 29 = .ok (.i2l, 1) := by decide +kernel
theorem dX9_narrowLow_30 : decode cX9_narrowLow 30 = .ok (.lcmp, 1) := by decide +kernel
theorem dX9_narrowLow_31 : decode cX9_narrowLow 31 = .ok (.ifCond .le 17, 3) := by decide +kernel
theorem dX9_narrowLow_34 : decode cX9_narrowLow 34 = .ok (.aload_n 0, 1) := by decide +kernel
theorem dX9_narrowLow_35 : decode cX9_narrowLow 35 = .ok (.iload 6, 2) := by decide +kernel
theorem dX9_narrowLow_37 : decode cX9_narrowLow 37 = .ok (.aload_n 0, 1) := by decide +kernel
theorem dX9_narrowLow_38 : decode cX9_narrowLow 38 = .ok (.getfield 40, 3) := by decide +kernel
theorem dX9_narrowLow_41 : decode cX9_narrowLow 41 = .ok (.iload_n 3, 1) := by decide +kernel
theorem dX9_narrowLow_42 : decode cX9_narrowLow 42 = .ok (.iaload, 1) := by decide +kernel
theorem dX9_narrowLow_43 : decode cX9_narrowLow 43 = .ok (.ior, 1) := by decide +kernel
theorem dX9_narrowLow_44 : decode cX9_narrowLow 44 = .ok (.invokevirtual 179, 3) := by decide +kernel
theorem dX9_narrowLow_47 : decode cX9_narrowLow 47 = .ok (.return_, 1) := by decide +kernel
theorem dX9_narrowLow_48 : decode cX9_narrowLow 48 = .ok (.aload_n 0, 1) := by decide +kernel
theorem dX9_narrowLow_49 : decode cX9_narrowLow 49 = .ok (.getfield 31, 3) := by decide +kernel
theorem dX9_narrowLow_52 : decode cX9_narrowLow 52 = .ok (.iload_n 3, 1) := by decide +kernel
theorem dX9_narrowLow_53 : decode cX9_narrowLow 53 = .ok (.lload 4, 2) := by decide +kernel
theorem dX9_narrowLow_55 : decode cX9_narrowLow 55 = .ok (.l2i, 1) := by decide +kernel
theorem dX9_narrowLow_56 : decode cX9_narrowLow 56 = .ok (.iastore, 1) := by decide +kernel
theorem dX9_narrowLow_57 : decode cX9_narrowLow 57 = .ok (.aload_n 0, 1) := by decide +kernel
theorem dX9_narrowLow_58 : decode cX9_narrowLow 58 = .ok (.getfield 37, 3) := by decide +kernel
theorem dX9_narrowLow_61 : decode cX9_narrowLow 61 = .ok (.iload_n 3, 1) := by decide +kernel
theorem dX9_narrowLow_62 : decode cX9_narrowLow 62 = .ok (.iload 6, 2) := by decide +kernel
theorem dX9_narrowLow_64 : decode cX9_narrowLow 64 = .ok (.iastore, 1) := by decide +kernel
theorem dX9_narrowLow_65 : decode cX9_narrowLow 65 = .ok (.aload_n 0, 1) := by decide +kernel
theorem dX9_narrowLow_66 : decode cX9_narrowLow 66 = .ok (.iload_n 1, 1) := by decide +kernel
theorem dX9_narrowLow_67 : decode cX9_narrowLow 67 = .ok (.iload_n 2, 1) := by decide +kernel
theorem dX9_narrowLow_68 : decode cX9_narrowLow 68 = .ok (.iload_n 3, 1) := by decide +kernel
theorem dX9_narrowLow_69 : decode cX9_narrowLow 69 = .ok (.iconst 1, 1) := by decide +kernel
theorem dX9_narrowLow_70 : decode cX9_narrowLow 70 = .ok (.lload 4, 2) := by decide +kernel
theorem dX9_narrowLow_72 : decode cX9_narrowLow 72 = .ok (.invokevirtual 183, 3) := by decide +kernel
theorem dX9_narrowLow_75 : decode cX9_narrowLow 75 = .ok (.return_, 1) := by decide +kernel
theorem dX9_narrowHigh_0 : decode cX9_narrowHigh 0 = .ok (.aload_n 0, 1) := by decide +kernel
theorem dX9_narrowHigh_1 : decode cX9_narrowHigh 1 = .ok (.invokevirtual 175, 3) := by decide +kernel
theorem dX9_narrowHigh_4 : decode cX9_narrowHigh 4 = .ok (.ifCond .eq 16, 3) := by decide +kernel
theorem dX9_narrowHigh_7 : decode cX9_narrowHigh 7 = .ok (.lload 4, 2) := by decide +kernel
theorem dX9_narrowHigh_9 : decode cX9_narrowHigh 9 = .ok (.aload_n 0, 1) := by decide +kernel
theorem dX9_narrowHigh_10 : decode cX9_narrowHigh 10 = .ok (.getfield 34, 3) := by decide +kernel
theorem dX9_narrowHigh_13 : decode cX9_narrowHigh 13 = .ok (.iload_n 3, 1) := by decide +kernel
theorem dX9_narrowHigh_14 : decode cX9_narrowHigh 14 = .ok (.iaload, 1) := by decide +kernel
theorem dX9_narrowHigh_15 : decode cX9_narrowHigh 15 = .ok (.i2l, 1) := by decide +kernel
theorem dX9_narrowHigh_16 : decode cX9_narrowHigh 16 = .ok (.lcmp, 1) := by decide +kernel
theorem dX9_narrowHigh_17 : decode cX9_narrowHigh 17 = .ok (.ifCond .lt 4, 3) := by decide +kernel
theorem dX9_narrowHigh_20 : decode cX9_narrowHigh 20 = .ok (.return_, 1) := by decide +kernel
theorem dX9_narrowHigh_21 : decode cX9_narrowHigh 21 = .ok (.lload 4, 2) := by decide +kernel
theorem dX9_narrowHigh_23 : decode cX9_narrowHigh 23 = .ok (.aload_n 0, 1) := by decide +kernel
theorem dX9_narrowHigh_24 : decode cX9_narrowHigh 24 = .ok (.getfield 31, 3) := by decide +kernel
theorem dX9_narrowHigh_27 : decode cX9_narrowHigh 27 = .ok (.iload_n 3, 1) := by decide +kernel
theorem dX9_narrowHigh_28 : decode cX9_narrowHigh 28 = .ok (.iaload, 1) := by decide +kernel
theorem dX9_narrowHigh_29 : decode cX9_narrowHigh 29 = .ok (.i2l, 1) := by decide +kernel
theorem dX9_narrowHigh_30 : decode cX9_narrowHigh 30 = .ok (.lcmp, 1) := by decide +kernel
theorem dX9_narrowHigh_31 : decode cX9_narrowHigh 31 = .ok (.ifCond .ge 17, 3) := by decide +kernel
theorem dX9_narrowHigh_34 : decode cX9_narrowHigh 34 = .ok (.aload_n 0, 1) := by decide +kernel
theorem dX9_narrowHigh_35 : decode cX9_narrowHigh 35 = .ok (.iload 6, 2) := by decide +kernel
theorem dX9_narrowHigh_37 : decode cX9_narrowHigh 37 = .ok (.aload_n 0, 1) := by decide +kernel
theorem dX9_narrowHigh_38 : decode cX9_narrowHigh 38 = .ok (.getfield 37, 3) := by decide +kernel
theorem dX9_narrowHigh_41 : decode cX9_narrowHigh 41 = .ok (.iload_n 3, 1) := by decide +kernel
theorem dX9_narrowHigh_42 : decode cX9_narrowHigh 42 = .ok (.iaload, 1) := by decide +kernel
theorem dX9_narrowHigh_43 : decode cX9_narrowHigh 43 = .ok (.ior, 1) := by decide +kernel
theorem dX9_narrowHigh_44 : decode cX9_narrowHigh 44 = .ok (.invokevirtual 179, 3) := by decide +kernel
theorem dX9_narrowHigh_47 : decode cX9_narrowHigh 47 = .ok (.return_, 1) := by decide +kernel
theorem dX9_narrowHigh_48 : decode cX9_narrowHigh 48 = .ok (.aload_n 0, 1) := by decide +kernel
theorem dX9_narrowHigh_49 : decode cX9_narrowHigh 49 = .ok (.getfield 34, 3) := by decide +kernel
theorem dX9_narrowHigh_52 : decode cX9_narrowHigh 52 = .ok (.iload_n 3, 1) := by decide +kernel
theorem dX9_narrowHigh_53 : decode cX9_narrowHigh 53 = .ok (.lload 4, 2) := by decide +kernel
theorem dX9_narrowHigh_55 : decode cX9_narrowHigh 55 = .ok (.l2i, 1) := by decide +kernel
theorem dX9_narrowHigh_56 : decode cX9_narrowHigh 56 = .ok (.iastore, 1) := by decide +kernel
theorem dX9_narrowHigh_57 : decode cX9_narrowHigh 57 = .ok (.aload_n 0, 1) := by decide +kernel
theorem dX9_narrowHigh_58 : decode cX9_narrowHigh 58 = .ok (.getfield 40, 3) := by decide +kernel
theorem dX9_narrowHigh_61 : decode cX9_narrowHigh 61 = .ok (.iload_n 3, 1) := by decide +kernel
theorem dX9_narrowHigh_62 : decode cX9_narrowHigh 62 = .ok (.iload 6, 2) := by decide +kernel
theorem dX9_narrowHigh_64 : decode cX9_narrowHigh 64 = .ok (.iastore, 1) := by decide +kernel
theorem dX9_narrowHigh_65 : decode cX9_narrowHigh 65 = .ok (.aload_n 0, 1) := by decide +kernel
theorem dX9_narrowHigh_66 : decode cX9_narrowHigh 66 = .ok (.iload_n 1, 1) := by decide +kernel
theorem dX9_narrowHigh_67 : decode cX9_narrowHigh 67 = .ok (.iload_n 2, 1) := by decide +kernel
theorem dX9_narrowHigh_68 : decode cX9_narrowHigh 68 = .ok (.iload_n 3, 1) := by decide +kernel
theorem dX9_narrowHigh_69 : decode cX9_narrowHigh 69 = .ok (.iconst 2, 1) := by decide +kernel
theorem dX9_narrowHigh_70 : decode cX9_narrowHigh 70 = .ok (.lload 4, 2) := by decide +kernel
theorem dX9_narrowHigh_72 : decode cX9_narrowHigh 72 = .ok (.invokevirtual 183, 3) := by decide +kernel
theorem dX9_narrowHigh_75 : decode cX9_narrowHigh 75 = .ok (.return_, 1) := by decide +kernel
theorem dX9_leave_0 : decode cX9_leave 0 = .ok (.aload_n 0, 1) := by decide +kernel
theorem dX9_leave_1 : decode cX9_leave 1 = .ok (.invokevirtual 175, 3) := by decide +kernel
theorem dX9_leave_4 : decode cX9_leave 4 = .ok (.ifCond .eq 24, 3) := by decide +kernel
theorem dX9_leave_7 : decode cX9_leave 7 = .ok (.aload_n 0, 1) := by decide +kernel
theorem dX9_leave_8 : decode cX9_leave 8 = .ok (.getfield 50, 3) := by decide +kernel
theorem dX9_leave_11 : decode cX9_leave 11 = .ok (.iload_n 2, 1) := by decide +kernel
theorem dX9_leave_12 : decode cX9_leave 12 = .ok (.iconst 1, 1) := by decide +kernel
theorem dX9_leave_13 : decode cX9_leave 13 = .ok (.bastore, 1) := by decide +kernel
theorem dX9_leave_14 : decode cX9_leave 14 = .ok (.aload_n 0, 1) := by decide +kernel
theorem dX9_leave_15 : decode cX9_leave 15 = .ok (.iload_n 1, 1) := by decide +kernel
theorem dX9_leave_16 : decode cX9_leave 16 = .ok (.iload_n 2, 1) := by decide +kernel
theorem dX9_leave_17 : decode cX9_leave 17 = .ok (.iconst (-1), 1) := by decide +kernel
theorem dX9_leave_18 : decode cX9_leave 18 = .ok (.iconst 0, 1) := by decide +kernel
theorem dX9_leave_19 : decode cX9_leave 19 = .ok (.aload_n 0, 1) := by decide +kernel
theorem dX9_leave_20 : decode cX9_leave 20 = .ok (.getfield 54, 3) := by decide +kernel
theorem dX9_leave_23 : decode cX9_leave 23 = .ok (.iload_n 2, 1) := by decide +kernel
theorem dX9_leave_24 : decode cX9_leave 24 = .ok (.laload, 1) := by decide +kernel
theorem dX9_leave_25 : decode cX9_leave 25 = .ok (.invokevirtual 183, 3) := by decide +kernel
theorem dX9_leave_28 : decode cX9_leave 28 = .ok (.return_, 1) := by decide +kernel
theorem dX9_empty_0 : decode cX9_empty 0 = .ok (.aload_n 0, 1) := by decide +kernel
theorem dX9_empty_1 : decode cX9_empty 1 = .ok (.iload_n 1, 1) := by decide +kernel
theorem dX9_empty_2 : decode cX9_empty 2 = .ok (.invokevirtual 187, 3) := by decide +kernel
theorem dX9_empty_5 : decode cX9_empty 5 = .ok (.ifCond .le 4, 3) := by decide +kernel
theorem dX9_empty_8 : decode cX9_empty 8 = .ok (.return_, 1) := by decide +kernel
theorem dX9_empty_9 : decode cX9_empty 9 = .ok (.aload_n 0, 1) := by decide +kernel
theorem dX9_empty_10 : decode cX9_empty 10 = .ok (.getfield 47, 3) := by decide +kernel
theorem dX9_empty_13 : decode cX9_empty 13 = .ok (.iload_n 1, 1) := by decide +kernel
theorem dX9_empty_14 : decode cX9_empty 14 = .ok (.iaload, 1) := by decide +kernel
theorem dX9_empty_15 : decode cX9_empty 15 = .ok (.ifCond .ne 17, 3) := by decide +kernel
theorem dX9_empty_18 : decode cX9_empty 18 = .ok (.aload_n 0, 1) := by decide +kernel
theorem dX9_empty_19 : decode cX9_empty 19 = .ok (.getfield 54, 3) := by decide +kernel
theorem dX9_empty_22 : decode cX9_empty 22 = .ok (.iload_n 1, 1) := by decide +kernel
theorem dX9_empty_23 : decode cX9_empty 23 = .ok (.laload, 1) := by decide +kernel
theorem dX9_empty_24 : decode cX9_empty 24 = .ok (.lconst 0, 1) := by decide +kernel
theorem dX9_empty_25 : decode cX9_empty 25 = .ok (.lcmp, 1) := by decide +kernel
theorem dX9_empty_26 : decode cX9_empty 26 = .ok (.ifCond .lt 26, 3) := by decide +kernel
theorem dX9_empty_29 : decode cX9_empty 29 = .ok (.goto 14, 3) := by decide +kernel
theorem dX9_empty_32 : decode cX9_empty 32 = .ok (.aload_n 0, 1) := by decide +kernel
theorem dX9_empty_33 : decode cX9_empty 33 = .ok (.getfield 54, 3) := by decide +kernel
theorem dX9_empty_36 : decode cX9_empty 36 = .ok (.iload_n 1, 1) := by decide +kernel
theorem dX9_empty_37 : decode cX9_empty 37 = .ok (.laload, 1) := by decide +kernel
theorem dX9_empty_38 : decode cX9_empty 38 = .ok (.lconst 0, 1) := by decide +kernel
theorem dX9_empty_39 : decode cX9_empty 39 = .ok (.lcmp, 1) := by decide +kernel
theorem dX9_empty_40 : decode cX9_empty 40 = .ok (.ifCond .ne 12, 3) := by decide +kernel
theorem dX9_empty_43 : decode cX9_empty 43 = .ok (.aload_n 0, 1) := by decide +kernel
theorem dX9_empty_44 : decode cX9_empty 44 = .ok (.iconst 1, 1) := by decide +kernel
theorem dX9_empty_45 : decode cX9_empty 45 = .ok (.iload_n 1, 1) := by decide +kernel
theorem dX9_empty_46 : decode cX9_empty 46 = .ok (.invokevirtual 191, 3) := by decide +kernel
theorem dX9_empty_49 : decode cX9_empty 49 = .ok (.goto 13, 3) := by decide +kernel
theorem dX9_empty_52 : decode cX9_empty 52 = .ok (.aload_n 0, 1) := by decide +kernel
theorem dX9_empty_53 : decode cX9_empty 53 = .ok (.aload_n 0, 1) := by decide +kernel
theorem dX9_empty_54 : decode cX9_empty 54 = .ok (.getfield 57, 3) := by decide +kernel
theorem dX9_empty_57 : decode cX9_empty 57 = .ok (.iload_n 1, 1) := by decide +kernel
theorem dX9_empty_58 : decode cX9_empty 58 = .ok (.iaload, 1) := by decide +kernel
theorem dX9_empty_59 : decode cX9_empty 59 = .ok (.invokevirtual 179, 3) := by decide +kernel
theorem dX9_empty_62 : decode cX9_empty 62 = .ok (.return_, 1) := by decide +kernel
theorem dX9_divisor_0 : decode cX9_divisor 0 = .ok (.lload_n 0, 1) := by decide +kernel
theorem dX9_divisor_1 : decode cX9_divisor 1 = .ok (.lstore 4, 2) := by decide +kernel
theorem dX9_divisor_3 : decode cX9_divisor 3 = .ok (.lload_n 2, 1) := by decide +kernel
theorem dX9_divisor_4 : decode cX9_divisor 4 = .ok (.lstore 6, 2) := by decide +kernel
theorem dX9_divisor_6 : decode cX9_divisor 6 = .ok (.iconst 0, 1) := by decide +kernel
theorem dX9_divisor_7 : decode cX9_divisor 7 = .ok (.istore 8, 2) := by decide +kernel
theorem dX9_divisor_9 : decode cX9_divisor 9 = .ok (.iload 8, 2) := by decide +kernel
theorem dX9_divisor_11 : decode cX9_divisor 11 = .ok (.sipush 200, 3) := by decide +kernel
theorem dX9_divisor_14 : decode cX9_divisor 14 = .ok (.if_icmp .ge 31, 3) := by decide +kernel
theorem dX9_divisor_17 : decode cX9_divisor 17 = .ok (.lload 6, 2) := by decide +kernel
theorem dX9_divisor_19 : decode cX9_divisor 19 = .ok (.lconst 0, 1) := by decide +kernel
theorem dX9_divisor_20 : decode cX9_divisor 20 = .ok (.lcmp, 1) := by decide +kernel
theorem dX9_divisor_21 : decode cX9_divisor 21 = .ok (.ifCond .eq 24, 3) := by decide +kernel
theorem dX9_divisor_24 : decode cX9_divisor 24 = .ok (.lload 4, 2) := by decide +kernel
theorem dX9_divisor_26 : decode cX9_divisor 26 = .ok (.lload 6, 2) := by decide +kernel
theorem dX9_divisor_28 : decode cX9_divisor 28 = .ok (.lrem, 1) := by decide +kernel
theorem dX9_divisor_29 : decode cX9_divisor 29 = .ok (.lstore 9, 2) := by decide +kernel
theorem dX9_divisor_31 : decode cX9_divisor 31 = .ok (.lload 6, 2) := by decide +kernel
theorem dX9_divisor_33 : decode cX9_divisor 33 = .ok (.lstore 4, 2) := by decide +kernel
theorem dX9_divisor_35 : decode cX9_divisor 35 = .ok (.lload 9, 2) := by decide +kernel
theorem dX9_divisor_37 : decode cX9_divisor 37 = .ok (.lstore 6, 2) := by decide +kernel
theorem dX9_divisor_39 : decode cX9_divisor 39 = .ok (.iinc 8 1, 3) := by decide +kernel
theorem dX9_divisor_42 : decode cX9_divisor 42 = .ok (.goto (-33), 3) := by decide +kernel
theorem dX9_divisor_45 : decode cX9_divisor 45 = .ok (.lload 4, 2) := by decide +kernel
theorem dX9_divisor_47 : decode cX9_divisor 47 = .ok (.lreturn, 1) := by decide +kernel
theorem dX9_shared_0 : decode cX9_shared 0 = .ok (.lconst 0, 1) := by decide +kernel
theorem dX9_shared_1 : decode cX9_shared 1 = .ok (.lstore_n 2, 1) := by decide +kernel
theorem dX9_shared_2 : decode cX9_shared 2 = .ok (.iconst (-1), 1) := by decide +kernel
theorem dX9_shared_3 : decode cX9_shared 3 = .ok (.istore 4, 2) := by decide +kernel
theorem dX9_shared_5 : decode cX9_shared 5 = .ok (.aload_n 0, 1) := by decide +kernel
theorem dX9_shared_6 : decode cX9_shared 6 = .ok (.getfield 141, 3) := by decide +kernel
theorem dX9_shared_9 : decode cX9_shared 9 = .ok (.iconst 1, 1) := by decide +kernel
theorem dX9_shared_10 : decode cX9_shared 10 = .ok (.isub, 1) := by decide +kernel
theorem dX9_shared_11 : decode cX9_shared 11 = .ok (.istore 5, 2) := by decide +kernel
theorem dX9_shared_13 : decode cX9_shared 13 = .ok (.iload 5, 2) := by decide +kernel
theorem dX9_shared_15 : decode cX9_shared 15 = .ok (.ifCond .lt 57, 3) := by decide +kernel
theorem dX9_shared_18 : decode cX9_shared 18 = .ok (.aload_n 0, 1) := by decide +kernel
theorem dX9_shared_19 : decode cX9_shared 19 = .ok (.iload_n 1, 1) := by decide +kernel
theorem dX9_shared_20 : decode cX9_shared 20 = .ok (.iload 5, 2) := by decide +kernel
theorem dX9_shared_22 : decode cX9_shared 22 = .ok (.invokevirtual 165, 3) := by decide +kernel
theorem dX9_shared_25 : decode cX9_shared 25 = .ok (.ifCond .eq 41, 3) := by decide +kernel
theorem dX9_shared_28 : decode cX9_shared 28 = .ok (.aload_n 0, 1) := by decide +kernel
theorem dX9_shared_29 : decode cX9_shared 29 = .ok (.getfield 60, 3) := by decide +kernel
theorem dX9_shared_32 : decode cX9_shared 32 = .ok (.bipush 12, 2) := by decide +kernel
theorem dX9_shared_34 : decode cX9_shared 34 = .ok (.iload_n 1, 1) := by decide +kernel
theorem dX9_shared_35 : decode cX9_shared 35 = .ok (.imul, 1) := by decide +kernel
theorem dX9_shared_36 : decode cX9_shared 36 = .ok (.iload 5, 2) := by decide +kernel
theorem dX9_shared_38 : decode cX9_shared 38 = .ok (.iadd, 1) := by decide +kernel
theorem dX9_shared_39 : decode cX9_shared 39 = .ok (.laload, 1) := by decide +kernel
theorem dX9_shared_40 : decode cX9_shared 40 = .ok (.lstore 6, 2) := by decide +kernel
theorem dX9_shared_42 : decode cX9_shared 42 = .ok (.lload 6, 2) := by decide +kernel
theorem dX9_shared_44 : decode cX9_shared 44 = .ok (.lconst 0, 1) := by decide +kernel
theorem dX9_shared_45 : decode cX9_shared 45 = .ok (.lcmp, 1) := by decide +kernel
theorem dX9_shared_46 : decode cX9_shared 46 = .ok (.ifCond .ge 9, 3) := by decide +kernel
theorem dX9_shared_49 : decode cX9_shared 49 = .ok (.lload 6, 2) := by decide +kernel
theorem dX9_shared_51 : decode cX9_shared 51 = .ok (.lneg, 1) := by decide +kernel
theorem dX9_shared_52 : decode cX9_shared 52 = .ok (.goto 5, 3) := by decide +kernel
theorem dX9_shared_55 : decode cX9_shared 55 = .ok (.lload 6, 2) := by decide +kernel
theorem dX9_shared_57 : decode cX9_shared 57 = .ok (.lload_n 2, 1) := by decide +kernel
theorem dX9_shared_58 : decode cX9_shared 58 = .ok (.invokestatic 195, 3) := by decide +kernel
theorem dX9_shared_61 : decode cX9_shared 61 = .ok (.lstore_n 2, 1) := by decide +kernel
theorem dX9_shared_62 : decode cX9_shared 62 = .ok (.iload 5, 2) := by decide +kernel
theorem dX9_shared_64 : decode cX9_shared 64 = .ok (.istore 4, 2) := by decide +kernel
theorem dX9_shared_66 : decode cX9_shared 66 = .ok (.iinc 5 (-1), 3) := by decide +kernel
theorem dX9_shared_69 : decode cX9_shared 69 = .ok (.goto (-56), 3) := by decide +kernel
theorem dX9_shared_72 : decode cX9_shared 72 = .ok (.iload 4, 2) := by decide +kernel
theorem dX9_shared_74 : decode cX9_shared 74 = .ok (.iconst (-1), 1) := by decide +kernel
theorem dX9_shared_75 : decode cX9_shared 75 = .ok (.if_icmp .ne 4, 3) := by decide +kernel
theorem dX9_shared_78 : decode cX9_shared 78 = .ok (.return_, 1) := by decide +kernel
theorem dX9_shared_79 : decode cX9_shared 79 = .ok (.aload_n 0, 1) := by decide +kernel
theorem dX9_shared_80 : decode cX9_shared 80 = .ok (.getfield 47, 3) := by decide +kernel
theorem dX9_shared_83 : decode cX9_shared 83 = .ok (.iload_n 1, 1) := by decide +kernel
theorem dX9_shared_84 : decode cX9_shared 84 = .ok (.iaload, 1) := by decide +kernel
theorem dX9_shared_85 : decode cX9_shared 85 = .ok (.iconst 1, 1) := by decide +kernel
theorem dX9_shared_86 : decode cX9_shared 86 = .ok (.if_icmp .ne 27, 3) := by decide +kernel
theorem dX9_shared_89 : decode cX9_shared 89 = .ok (.aload_n 0, 1) := by decide +kernel
theorem dX9_shared_90 : decode cX9_shared 90 = .ok (.getfield 54, 3) := by decide +kernel
theorem dX9_shared_93 : decode cX9_shared 93 = .ok (.iload_n 1, 1) := by decide +kernel
theorem dX9_shared_94 : decode cX9_shared 94 = .ok (.laload, 1) := by decide +kernel
theorem dX9_shared_95 : decode cX9_shared 95 = .ok (.lload_n 2, 1) := by decide +kernel
theorem dX9_shared_96 : decode cX9_shared 96 = .ok (.lrem, 1) := by decide +kernel
theorem dX9_shared_97 : decode cX9_shared 97 = .ok (.lconst 0, 1) := by decide +kernel
theorem dX9_shared_98 : decode cX9_shared 98 = .ok (.lcmp, 1) := by decide +kernel
theorem dX9_shared_99 : decode cX9_shared 99 = .ok (.ifCond .eq 14, 3) := by decide +kernel
theorem dX9_shared_102 : decode cX9_shared 102 = .ok (.aload_n 0, 1) := by decide +kernel
theorem dX9_shared_103 : decode cX9_shared 103 = .ok (.aload_n 0, 1) := by decide +kernel
theorem dX9_shared_104 : decode cX9_shared 104 = .ok (.getfield 57, 3) := by decide +kernel
theorem dX9_shared_107 : decode cX9_shared 107 = .ok (.iload_n 1, 1) := by decide +kernel
theorem dX9_shared_108 : decode cX9_shared 108 = .ok (.iaload, 1) := by decide +kernel
theorem dX9_shared_109 : decode cX9_shared 109 = .ok (.invokevirtual 179, 3) := by decide +kernel
theorem dX9_shared_112 : decode cX9_shared 112 = .ok (.return_, 1) := by decide +kernel
theorem dX9_shared_113 : decode cX9_shared 113 = .ok (.aload_n 0, 1) := by decide +kernel
theorem dX9_shared_114 : decode cX9_shared 114 = .ok (.getfield 47, 3) := by decide +kernel
theorem dX9_shared_117 : decode cX9_shared 117 = .ok (.iload_n 1, 1) := by decide +kernel
theorem dX9_shared_118 : decode cX9_shared 118 = .ok (.iaload, 1) := by decide +kernel
theorem dX9_shared_119 : decode cX9_shared 119 = .ok (.iconst 1, 1) := by decide +kernel
theorem dX9_shared_120 : decode cX9_shared 120 = .ok (.if_icmp .ne 24, 3) := by decide +kernel
theorem dX9_shared_123 : decode cX9_shared 123 = .ok (.aload_n 0, 1) := by decide +kernel
theorem dX9_shared_124 : decode cX9_shared 124 = .ok (.getfield 60, 3) := by decide +kernel
theorem dX9_shared_127 : decode cX9_shared 127 = .ok (.bipush 12, 2) := by decide +kernel
theorem dX9_shared_129 : decode cX9_shared 129 = .ok (.iload_n 1, 1) := by decide +kernel
theorem dX9_shared_130 : decode cX9_shared 130 = .ok (.imul, 1) := by decide +kernel
theorem dX9_shared_131 : decode cX9_shared 131 = .ok (.iload 4, 2) := by decide +kernel
theorem dX9_shared_133 : decode cX9_shared 133 = .ok (.iadd, 1) := by decide +kernel
theorem dX9_shared_134 : decode cX9_shared 134 = .ok (.laload, 1) := by decide +kernel
theorem dX9_shared_135 : decode cX9_shared 135 = .ok (.lconst 0, 1) := by decide +kernel
theorem dX9_shared_136 : decode cX9_shared 136 = .ok (.lcmp, 1) := by decide +kernel
theorem dX9_shared_137 : decode cX9_shared 137 = .ok (.ifCond .ge 7, 3) := by decide +kernel
theorem dX9_shared_140 : decode cX9_shared 140 = .ok (.iconst 1, 1) := by decide +kernel
theorem dX9_shared_141 : decode cX9_shared 141 = .ok (.goto 4, 3) := by decide +kernel
theorem dX9_shared_144 : decode cX9_shared 144 = .ok (.iconst 0, 1) := by decide +kernel
theorem dX9_shared_145 : decode cX9_shared 145 = .ok (.istore 5, 2) := by decide +kernel
theorem dX9_shared_147 : decode cX9_shared 147 = .ok (.lload_n 2, 1) := by decide +kernel
theorem dX9_shared_148 : decode cX9_shared 148 = .ok (.lconst 1, 1) := by decide +kernel
theorem dX9_shared_149 : decode cX9_shared 149 = .ok (.lcmp, 1) := by decide +kernel
theorem dX9_shared_150 : decode cX9_shared 150 = .ok (.ifCond .ne 9, 3) := by decide +kernel
theorem dX9_shared_153 : decode cX9_shared 153 = .ok (.iload 5, 2) := by decide +kernel
theorem dX9_shared_155 : decode cX9_shared 155 = .ok (.ifCond .ne 4, 3) := by decide +kernel
theorem dX9_shared_158 : decode cX9_shared 158 = .ok (.return_, 1) := by decide +kernel
theorem dX9_shared_159 : decode cX9_shared 159 = .ok (.iload 5, 2) := by decide +kernel
theorem dX9_shared_161 : decode cX9_shared 161 = .ok (.ifCond .eq 9, 3) := by decide +kernel
theorem dX9_shared_164 : decode cX9_shared 164 = .ok (.ldc2_w 198, 3) := by decide +kernel
theorem dX9_shared_167 : decode cX9_shared 167 = .ok (.goto 4, 3) := by decide +kernel
theorem dX9_shared_170 : decode cX9_shared 170 = .ok (.lconst 1, 1) := by decide +kernel
theorem dX9_shared_171 : decode cX9_shared 171 = .ok (.lstore 6, 2) := by decide +kernel
theorem dX9_shared_173 : decode cX9_shared 173 = .ok (.iconst 0, 1) := by decide +kernel
theorem dX9_shared_174 : decode cX9_shared 174 = .ok (.istore 8, 2) := by decide +kernel
theorem dX9_shared_176 : decode cX9_shared 176 = .ok (.iload 8, 2) := by decide +kernel
theorem dX9_shared_178 : decode cX9_shared 178 = .ok (.aload_n 0, 1) := by decide +kernel
theorem dX9_shared_179 : decode cX9_shared 179 = .ok (.getfield 141, 3) := by decide +kernel
theorem dX9_shared_182 : decode cX9_shared 182 = .ok (.if_icmp .ge 48, 3) := by decide +kernel
theorem dX9_shared_185 : decode cX9_shared 185 = .ok (.aload_n 0, 1) := by decide +kernel
theorem dX9_shared_186 : decode cX9_shared 186 = .ok (.iload_n 1, 1) := by decide +kernel
theorem dX9_shared_187 : decode cX9_shared 187 = .ok (.iload 8, 2) := by decide +kernel
theorem dX9_shared_189 : decode cX9_shared 189 = .ok (.invokevirtual 165, 3) := by decide +kernel
theorem dX9_shared_192 : decode cX9_shared 192 = .ok (.ifCond .eq 32, 3) := by decide +kernel
theorem dX9_shared_195 : decode cX9_shared 195 = .ok (.aload_n 0, 1) := by decide +kernel
theorem dX9_shared_196 : decode cX9_shared 196 = .ok (.getfield 60, 3) := by decide +kernel
theorem dX9_shared_199 : decode cX9_shared 199 = .ok (.bipush 12, 2) := by decide +kernel
theorem dX9_shared_201 : decode cX9_shared 201 = .ok (.iload_n 1, 1) := by decide +kernel
theorem dX9_shared_202 : decode cX9_shared 202 = .ok (.imul, 1) := by decide +kernel
theorem dX9_shared_203 : decode cX9_shared 203 = .ok (.iload 8, 2) := by decide +kernel
theorem dX9_shared_205 : decode cX9_shared 205 = .ok (.iadd, 1) := by decide +kernel
theorem dX9_shared_206 : decode cX9_shared 206 = .ok (.lload 6, 2) := by decide +kernel
theorem dX9_shared_208 : decode cX9_shared 208 = .ok (.aload_n 0, 1) := by decide +kernel
theorem dX9_shared_209 : decode cX9_shared 209 = .ok (.getfield 60, 3) := by decide +kernel
theorem dX9_shared_212 : decode cX9_shared 212 = .ok (.bipush 12, 2) := by decide +kernel
theorem dX9_shared_214 : decode cX9_shared 214 = .ok (.iload_n 1, 1) := by decide +kernel
theorem dX9_shared_215 : decode cX9_shared 215 = .ok (.imul, 1) := by decide +kernel
theorem dX9_shared_216 : decode cX9_shared 216 = .ok (.iload 8, 2) := by decide +kernel
theorem dX9_shared_218 : decode cX9_shared 218 = .ok (.iadd, 1) := by decide +kernel
theorem dX9_shared_219 : decode cX9_shared 219 = .ok (.laload, 1) := by decide +kernel
theorem dX9_shared_220 : decode cX9_shared 220 = .ok (.lload_n 2, 1) := by decide +kernel
theorem dX9_shared_221 : decode cX9_shared 221 = .ok (.ldiv, 1) := by decide +kernel
theorem dX9_shared_222 : decode cX9_shared 222 = .ok (.lmul, 1) := by decide +kernel
theorem dX9_shared_223 : decode cX9_shared 223 = .ok (.lastore, 1) := by decide +kernel
theorem dX9_shared_224 : decode cX9_shared 224 = .ok (.iinc 8 1, 3) := by decide +kernel
theorem dX9_shared_227 : decode cX9_shared 227 = .ok (.goto (-51), 3) := by decide +kernel
theorem dX9_shared_230 : decode cX9_shared 230 = .ok (.aload_n 0, 1) := by decide +kernel
theorem dX9_shared_231 : decode cX9_shared 231 = .ok (.getfield 54, 3) := by decide +kernel
theorem dX9_shared_234 : decode cX9_shared 234 = .ok (.iload_n 1, 1) := by decide +kernel
theorem dX9_shared_235 : decode cX9_shared 235 = .ok (.lload 6, 2) := by decide +kernel
theorem dX9_shared_237 : decode cX9_shared 237 = .ok (.aload_n 0, 1) := by decide +kernel
theorem dX9_shared_238 : decode cX9_shared 238 = .ok (.getfield 54, 3) := by decide +kernel
theorem dX9_shared_241 : decode cX9_shared 241 = .ok (.iload_n 1, 1) := by decide +kernel
theorem dX9_shared_242 : decode cX9_shared 242 = .ok (.laload, 1) := by decide +kernel
theorem dX9_shared_243 : decode cX9_shared 243 = .ok (.lload_n 2, 1) := by decide +kernel
theorem dX9_shared_244 : decode cX9_shared 244 = .ok (.invokestatic 112, 3) := by decide +kernel
theorem dX9_shared_247 : decode cX9_shared 247 = .ok (.lmul, 1) := by decide +kernel
theorem dX9_shared_248 : decode cX9_shared 248 = .ok (.lastore, 1) := by decide +kernel
theorem dX9_shared_249 : decode cX9_shared 249 = .ok (.aload_n 0, 1) := by decide +kernel
theorem dX9_shared_250 : decode cX9_shared 250 = .ok (.iconst 2, 1) := by decide +kernel
theorem dX9_shared_251 : decode cX9_shared 251 = .ok (.iload_n 1, 1) := by decide +kernel
theorem dX9_shared_252 : decode cX9_shared 252 = .ok (.iconst (-1), 1) := by decide +kernel
theorem dX9_shared_253 : decode cX9_shared 253 = .ok (.iconst 3, 1) := by decide +kernel
theorem dX9_shared_254 : decode cX9_shared 254 = .ok (.aload_n 0, 1) := by decide +kernel
theorem dX9_shared_255 : decode cX9_shared 255 = .ok (.getfield 54, 3) := by decide +kernel
theorem dX9_shared_258 : decode cX9_shared 258 = .ok (.iload_n 1, 1) := by decide +kernel
theorem dX9_shared_259 : decode cX9_shared 259 = .ok (.laload, 1) := by decide +kernel
theorem dX9_shared_260 : decode cX9_shared 260 = .ok (.invokevirtual 183, 3) := by decide +kernel
theorem dX9_shared_263 : decode cX9_shared 263 = .ok (.return_, 1) := by decide +kernel
theorem dX9_single_0 : decode cX9_single 0 = .ok (.aload_n 0, 1) := by decide +kernel
theorem dX9_single_1 : decode cX9_single 1 = .ok (.iload_n 1, 1) := by decide +kernel
theorem dX9_single_2 : decode cX9_single 2 = .ok (.invokevirtual 187, 3) := by decide +kernel
theorem dX9_single_5 : decode cX9_single 5 = .ok (.iconst 1, 1) := by decide +kernel
theorem dX9_single_6 : decode cX9_single 6 = .ok (.if_icmp .eq 4, 3) := by decide +kernel
theorem dX9_single_9 : decode cX9_single 9 = .ok (.return_, 1) := by decide +kernel
theorem dX9_single_10 : decode cX9_single 10 = .ok (.iconst 0, 1) := by decide +kernel
theorem dX9_single_11 : decode cX9_single 11 = .ok (.istore_n 2, 1) := by decide +kernel
theorem dX9_single_12 : decode cX9_single 12 = .ok (.aload_n 0, 1) := by decide +kernel
theorem dX9_single_13 : decode cX9_single 13 = .ok (.iload_n 1, 1) := by decide +kernel
theorem dX9_single_14 : decode cX9_single 14 = .ok (.iload_n 2, 1) := by decide +kernel
theorem dX9_single_15 : decode cX9_single 15 = .ok (.invokevirtual 165, 3) := by decide +kernel
theorem dX9_single_18 : decode cX9_single 18 = .ok (.ifCond .ne 9, 3) := by decide +kernel
theorem dX9_single_21 : decode cX9_single 21 = .ok (.iinc 2 1, 3) := by decide +kernel
theorem dX9_single_24 : decode cX9_single 24 = .ok (.goto (-12), 3) := by decide +kernel
theorem dX9_single_27 : decode cX9_single 27 = .ok (.aload_n 0, 1) := by decide +kernel
theorem dX9_single_28 : decode cX9_single 28 = .ok (.getfield 60, 3) := by decide +kernel
theorem dX9_single_31 : decode cX9_single 31 = .ok (.bipush 12, 2) := by decide +kernel
theorem dX9_single_33 : decode cX9_single 33 = .ok (.iload_n 1, 1) := by decide +kernel
theorem dX9_single_34 : decode cX9_single 34 = .ok (.imul, 1) := by decide +kernel
theorem dX9_single_35 : decode cX9_single 35 = .ok (.iload_n 2, 1) := by decide +kernel
theorem dX9_single_36 : decode cX9_single 36 = .ok (.iadd, 1) := by decide +kernel
theorem dX9_single_37 : decode cX9_single 37 = .ok (.laload, 1) := by decide +kernel
theorem dX9_single_38 : decode cX9_single 38 = .ok (.lstore_n 3, 1) := by decide +kernel
theorem dX9_single_39 : decode cX9_single 39 = .ok (.aload_n 0, 1) := by decide +kernel
theorem dX9_single_40 : decode cX9_single 40 = .ok (.getfield 47, 3) := by decide +kernel
theorem dX9_single_43 : decode cX9_single 43 = .ok (.iload_n 1, 1) := by decide +kernel
theorem dX9_single_44 : decode cX9_single 44 = .ok (.iaload, 1) := by decide +kernel
theorem dX9_single_45 : decode cX9_single 45 = .ok (.iconst 1, 1) := by decide +kernel
theorem dX9_single_46 : decode cX9_single 46 = .ok (.if_icmp .ne 7, 3) := by decide +kernel
theorem dX9_single_49 : decode cX9_single 49 = .ok (.iconst 1, 1) := by decide +kernel
theorem dX9_single_50 : decode cX9_single 50 = .ok (.goto 4, 3) := by decide +kernel
theorem dX9_single_53 : decode cX9_single 53 = .ok (.iconst 0, 1) := by decide +kernel
theorem dX9_single_54 : decode cX9_single 54 = .ok (.istore 5, 2) := by decide +kernel
theorem dX9_single_56 : decode cX9_single 56 = .ok (.iload 5, 2) := by decide +kernel
theorem dX9_single_58 : decode cX9_single 58 = .ok (.ifCond .eq 27, 3) := by decide +kernel
theorem dX9_single_61 : decode cX9_single 61 = .ok (.aload_n 0, 1) := by decide +kernel
theorem dX9_single_62 : decode cX9_single 62 = .ok (.getfield 54, 3) := by decide +kernel
theorem dX9_single_65 : decode cX9_single 65 = .ok (.iload_n 1, 1) := by decide +kernel
theorem dX9_single_66 : decode cX9_single 66 = .ok (.laload, 1) := by decide +kernel
theorem dX9_single_67 : decode cX9_single 67 = .ok (.lload_n 3, 1) := by decide +kernel
theorem dX9_single_68 : decode cX9_single 68 = .ok (.lrem, 1) := by decide +kernel
theorem dX9_single_69 : decode cX9_single 69 = .ok (.lconst 0, 1) := by decide +kernel
theorem dX9_single_70 : decode cX9_single 70 = .ok (.lcmp, 1) := by decide +kernel
theorem dX9_single_71 : decode cX9_single 71 = .ok (.ifCond .eq 14, 3) := by decide +kernel
theorem dX9_single_74 : decode cX9_single 74 = .ok (.aload_n 0, 1) := by decide +kernel
theorem dX9_single_75 : decode cX9_single 75 = .ok (.aload_n 0, 1) := by decide +kernel
theorem dX9_single_76 : decode cX9_single 76 = .ok (.getfield 57, 3) := by decide +kernel
theorem dX9_single_79 : decode cX9_single 79 = .ok (.iload_n 1, 1) := by decide +kernel
theorem dX9_single_80 : decode cX9_single 80 = .ok (.iaload, 1) := by decide +kernel
theorem dX9_single_81 : decode cX9_single 81 = .ok (.invokevirtual 179, 3) := by decide +kernel
theorem dX9_single_84 : decode cX9_single 84 = .ok (.return_, 1) := by decide +kernel
theorem dX9_single_85 : decode cX9_single 85 = .ok (.aload_n 0, 1) := by decide +kernel
theorem dX9_single_86 : decode cX9_single 86 = .ok (.getfield 57, 3) := by decide +kernel
theorem dX9_single_89 : decode cX9_single 89 = .ok (.iload_n 1, 1) := by decide +kernel
theorem dX9_single_90 : decode cX9_single 90 = .ok (.iaload, 1) := by decide +kernel
theorem dX9_single_91 : decode cX9_single 91 = .ok (.istore 6, 2) := by decide +kernel
theorem dX9_single_93 : decode cX9_single 93 = .ok (.iload 5, 2) := by decide +kernel
theorem dX9_single_95 : decode cX9_single 95 = .ok (.ifCond .ne 9, 3) := by decide +kernel
theorem dX9_single_98 : decode cX9_single 98 = .ok (.lload_n 3, 1) := by decide +kernel
theorem dX9_single_99 : decode cX9_single 99 = .ok (.lconst 0, 1) := by decide +kernel
theorem dX9_single_100 : decode cX9_single 100 = .ok (.lcmp, 1) := by decide +kernel
theorem dX9_single_101 : decode cX9_single 101 = .ok (.ifCond .ge 22, 3) := by decide +kernel
theorem dX9_single_104 : decode cX9_single 104 = .ok (.aload_n 0, 1) := by decide +kernel
theorem dX9_single_105 : decode cX9_single 105 = .ok (.iconst 3, 1) := by decide +kernel
theorem dX9_single_106 : decode cX9_single 106 = .ok (.iload_n 1, 1) := by decide +kernel
