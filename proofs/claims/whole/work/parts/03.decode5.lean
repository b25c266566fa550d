theorem dX9_cliqueAt_15 : decode cX9_cliqueAt 15 = .ok (.invokevirtual 158, 3) := by decide +kernel
theorem dX9_cliqueAt_18 : decode cX9_cliqueAt 18 = .ok (.ifCond .ne 7, 3) := by decide +kernel
theorem dX9_cliqueAt_21 : decode cX9_cliqueAt 21 = .ok (.iconst 1, 1) := by decide +kernel
theorem dX9_cliqueAt_22 : decode cX9_cliqueAt 22 = .ok (.goto 4, 3) := by decide +kernel
theorem dX9_cliqueAt_25 : decode cX9_cliqueAt 25 = .ok (.iconst 0, 1) := by decide +kernel
theorem dX9_cliqueAt_26 : decode cX9_cliqueAt 26 = .ok (.invokevirtual 144, 3) := by decide +kernel
theorem dX9_cliqueAt_29 : decode cX9_cliqueAt 29 = .ok (.ifCond .ne 5, 3) := by decide +kernel
theorem dX9_cliqueAt_32 : decode cX9_cliqueAt 32 = .ok (.iconst 0, 1) := by decide +kernel
theorem dX9_cliqueAt_33 : decode cX9_cliqueAt 33 = .ok (.ireturn, 1) := by decide +kernel
theorem dX9_cliqueAt_34 : decode cX9_cliqueAt 34 = .ok (.aload_n 0, 1) := by decide +kernel
theorem dX9_cliqueAt_35 : decode cX9_cliqueAt 35 = .ok (.iload_n 1, 1) := by decide +kernel
theorem dX9_cliqueAt_36 : decode cX9_cliqueAt 36 = .ok (.invokevirtual 345, 3) := by decide +kernel
theorem dX9_cliqueAt_39 : decode cX9_cliqueAt 39 = .ok (.istore_n 3, 1) := by decide +kernel
theorem dX9_cliqueAt_40 : decode cX9_cliqueAt 40 = .ok (.aload_n 0, 1) := by decide +kernel
theorem dX9_cliqueAt_41 : decode cX9_cliqueAt 41 = .ok (.iconst 0, 1) := by decide +kernel
theorem dX9_cliqueAt_42 : decode cX9_cliqueAt 42 = .ok (.iload_n 2, 1) := by decide +kernel
theorem dX9_cliqueAt_43 : decode cX9_cliqueAt 43 = .ok (.i2l, 1) := by decide +kernel
theorem dX9_cliqueAt_44 : decode cX9_cliqueAt 44 = .ok (.lconst 0, 1) := by decide +kernel
theorem dX9_cliqueAt_45 : decode cX9_cliqueAt 45 = .ok (.iload_n 3, 1) := by decide +kernel
theorem dX9_cliqueAt_46 : decode cX9_cliqueAt 46 = .ok (.iconst 1, 1) := by decide +kernel
theorem dX9_cliqueAt_47 : decode cX9_cliqueAt 47 = .ok (.isub, 1) := by decide +kernel
theorem dX9_cliqueAt_48 : decode cX9_cliqueAt 48 = .ok (.i2l, 1) := by decide +kernel
theorem dX9_cliqueAt_49 : decode cX9_cliqueAt 49 = .ok (.invokestatic 133, 3) := by decide +kernel
theorem dX9_cliqueAt_52 : decode cX9_cliqueAt 52 = .ok (.ifCond .ne 7, 3) := by decide +kernel
theorem dX9_cliqueAt_55 : decode cX9_cliqueAt 55 = .ok (.iconst 1, 1) := by decide +kernel
theorem dX9_cliqueAt_56 : decode cX9_cliqueAt 56 = .ok (.goto 4, 3) := by decide +kernel
theorem dX9_cliqueAt_59 : decode cX9_cliqueAt 59 = .ok (.iconst 0, 1) := by decide +kernel
theorem dX9_cliqueAt_60 : decode cX9_cliqueAt 60 = .ok (.invokevirtual 144, 3) := by decide +kernel
theorem dX9_cliqueAt_63 : decode cX9_cliqueAt 63 = .ok (.ifCond .ne 5, 3) := by decide +kernel
theorem dX9_cliqueAt_66 : decode cX9_cliqueAt 66 = .ok (.iconst 0, 1) := by decide +kernel
theorem dX9_cliqueAt_67 : decode cX9_cliqueAt 67 = .ok (.ireturn, 1) := by decide +kernel
theorem dX9_cliqueAt_68 : decode cX9_cliqueAt 68 = .ok (.iconst 2, 1) := by decide +kernel
theorem dX9_cliqueAt_69 : decode cX9_cliqueAt 69 = .ok (.aload_n 0, 1) := by decide +kernel
theorem dX9_cliqueAt_70 : decode cX9_cliqueAt 70 = .ok (.getfield 105, 3) := by decide +kernel
theorem dX9_cliqueAt_73 : decode cX9_cliqueAt 73 = .ok (.iload_n 2, 1) := by decide +kernel
theorem dX9_cliqueAt_74 : decode cX9_cliqueAt 74 = .ok (.iaload, 1) := by decide +kernel
theorem dX9_cliqueAt_75 : decode cX9_cliqueAt 75 = .ok (.imul, 1) := by decide +kernel
theorem dX9_cliqueAt_76 : decode cX9_cliqueAt 76 = .ok (.aload_n 0, 1) := by decide +kernel
theorem dX9_cliqueAt_77 : decode cX9_cliqueAt 77 = .ok (.getfield 60, 3) := by decide +kernel
theorem dX9_cliqueAt_80 : decode cX9_cliqueAt 80 = .ok (.bipush 12, 2) := by decide +kernel
theorem dX9_cliqueAt_82 : decode cX9_cliqueAt 82 = .ok (.iload_n 1, 1) := by decide +kernel
theorem dX9_cliqueAt_83 : decode cX9_cliqueAt 83 = .ok (.imul, 1) := by decide +kernel
theorem dX9_cliqueAt_84 : decode cX9_cliqueAt 84 = .ok (.aload_n 0, 1) := by decide +kernel
theorem dX9_cliqueAt_85 : decode cX9_cliqueAt 85 = .ok (.getfield 105, 3) := by decide +kernel
theorem dX9_cliqueAt_88 : decode cX9_cliqueAt 88 = .ok (.iload_n 2, 1) := by decide +kernel
theorem dX9_cliqueAt_89 : decode cX9_cliqueAt 89 = .ok (.iaload, 1) := by decide +kernel
theorem dX9_cliqueAt_90 : decode cX9_cliqueAt 90 = .ok (.iadd, 1) := by decide +kernel
theorem dX9_cliqueAt_91 : decode cX9_cliqueAt 91 = .ok (.laload, 1) := by decide +kernel
theorem dX9_cliqueAt_92 : decode cX9_cliqueAt 92 = .ok (.lconst 0, 1) := by decide +kernel
theorem dX9_cliqueAt_93 : decode cX9_cliqueAt 93 = .ok (.lcmp, 1) := by decide +kernel
theorem dX9_cliqueAt_94 : decode cX9_cliqueAt 94 = .ok (.ifCond .le 7, 3) := by decide +kernel
theorem dX9_cliqueAt_97 : decode cX9_cliqueAt 97 = .ok (.iconst 1, 1) := by decide +kernel
theorem dX9_cliqueAt_98 : decode cX9_cliqueAt 98 = .ok (.goto 4, 3) := by decide +kernel
theorem dX9_cliqueAt_101 : decode cX9_cliqueAt 101 = .ok (.iconst 0, 1) := by decide +kernel
theorem dX9_cliqueAt_102 : decode cX9_cliqueAt 102 = .ok (.iadd, 1) := by decide +kernel
theorem dX9_cliqueAt_103 : decode cX9_cliqueAt 103 = .ok (.ireturn, 1) := by decide +kernel
theorem dX9_same_0 : decode cX9_same 0 = .ok (.aload_n 0, 1) := by decide +kernel
theorem dX9_same_1 : decode cX9_same 1 = .ok (.aload_n 0, 1) := by decide +kernel
theorem dX9_same_2 : decode cX9_same 2 = .ok (.getfield 123, 3) := by decide +kernel
theorem dX9_same_5 : decode cX9_same 5 = .ok (.ifCond .ne 7, 3) := by decide +kernel
theorem dX9_same_8 : decode cX9_same 8 = .ok (.iconst 1, 1) := by decide +kernel
theorem dX9_same_9 : decode cX9_same 9 = .ok (.goto 4, 3) := by decide +kernel
theorem dX9_same_12 : decode cX9_same 12 = .ok (.iconst 0, 1) := by decide +kernel
theorem dX9_same_13 : decode cX9_same 13 = .ok (.aload_n 0, 1) := by decide +kernel
theorem dX9_same_14 : decode cX9_same 14 = .ok (.iload_n 1, 1) := by decide +kernel
theorem dX9_same_15 : decode cX9_same 15 = .ok (.invokevirtual 162, 3) := by decide +kernel
theorem dX9_same_18 : decode cX9_same 18 = .ok (.ifCond .eq 11, 3) := by decide +kernel
theorem dX9_same_21 : decode cX9_same 21 = .ok (.aload_n 0, 1) := by decide +kernel
theorem dX9_same_22 : decode cX9_same 22 = .ok (.iload_n 2, 1) := by decide +kernel
theorem dX9_same_23 : decode cX9_same 23 = .ok (.invokevirtual 162, 3) := by decide +kernel
theorem dX9_same_26 : decode cX9_same 26 = .ok (.ifCond .ne 7, 3) := by decide +kernel
theorem dX9_same_29 : decode cX9_same 29 = .ok (.iconst 1, 1) := by decide +kernel
theorem dX9_same_30 : decode cX9_same 30 = .ok (.goto 4, 3) := by decide +kernel
theorem dX9_same_33 : decode cX9_same 33 = .ok (.iconst 0, 1) := by decide +kernel
theorem dX9_same_34 : decode cX9_same 34 = .ok (.invokevirtual 144, 3) := by decide +kernel
theorem dX9_same_37 : decode cX9_same 37 = .ok (.ifCond .ne 5, 3) := by decide +kernel
theorem dX9_same_40 : decode cX9_same 40 = .ok (.iconst 0, 1) := by decide +kernel
theorem dX9_same_41 : decode cX9_same 41 = .ok (.ireturn, 1) := by decide +kernel
theorem dX9_same_42 : decode cX9_same 42 = .ok (.aload_n 0, 1) := by decide +kernel
theorem dX9_same_43 : decode cX9_same 43 = .ok (.getfield 28, 3) := by decide +kernel
theorem dX9_same_46 : decode cX9_same 46 = .ok (.iload_n 1, 1) := by decide +kernel
theorem dX9_same_47 : decode cX9_same 47 = .ok (.iaload, 1) := by decide +kernel
theorem dX9_same_48 : decode cX9_same 48 = .ok (.ifCond .ne 62, 3) := by decide +kernel
theorem dX9_same_51 : decode cX9_same 51 = .ok (.aload_n 0, 1) := by decide +kernel
theorem dX9_same_52 : decode cX9_same 52 = .ok (.getfield 28, 3) := by decide +kernel
theorem dX9_same_55 : decode cX9_same 55 = .ok (.iload_n 2, 1) := by decide +kernel
theorem dX9_same_56 : decode cX9_same 56 = .ok (.iaload, 1) := by decide +kernel
theorem dX9_same_57 : decode cX9_same 57 = .ok (.ifCond .ne 53, 3) := by decide +kernel
theorem dX9_same_60 : decode cX9_same 60 = .ok (.aload_n 0, 1) := by decide +kernel
theorem dX9_same_61 : decode cX9_same 61 = .ok (.getfield 31, 3) := by decide +kernel
theorem dX9_same_64 : decode cX9_same 64 = .ok (.iload_n 1, 1) := by decide +kernel
theorem dX9_same_65 : decode cX9_same 65 = .ok (.iaload, 1) := by decide +kernel
theorem dX9_same_66 : decode cX9_same 66 = .ok (.aload_n 0, 1) := by decide +kernel
theorem dX9_same_67 : decode cX9_same 67 = .ok (.getfield 31, 3) := by decide +kernel
theorem dX9_same_70 : decode cX9_same 70 = .ok (.iload_n 2, 1) := by decide +kernel
theorem dX9_same_71 : decode cX9_same 71 = .ok (.iaload, 1) := by decide +kernel
theorem dX9_same_72 : decode cX9_same 72 = .ok (.if_icmp .ne 38, 3) := by decide +kernel
theorem dX9_same_75 : decode cX9_same 75 = .ok (.aload_n 0, 1) := by decide +kernel
theorem dX9_same_76 : decode cX9_same 76 = .ok (.getfield 34, 3) := by decide +kernel
theorem dX9_same_79 : decode cX9_same 79 = .ok (.iload_n 1, 1) := by decide +kernel
theorem dX9_same_80 : decode cX9_same 80 = .ok (.iaload, 1) := by decide +kernel
theorem dX9_same_81 : decode cX9_same 81 = .ok (.aload_n 0, 1) := by decide +kernel
theorem dX9_same_82 : decode cX9_same 82 = .ok (.getfield 34, 3) := by decide +kernel
theorem dX9_same_85 : decode cX9_same 85 = .ok (.iload_n 2, 1) := by decide +kernel
theorem dX9_same_86 : decode cX9_same 86 = .ok (.iaload, 1) := by decide +kernel
theorem dX9_same_87 : decode cX9_same 87 = .ok (.if_icmp .ne 23, 3) := by decide +kernel
theorem dX9_same_90 : decode cX9_same 90 = .ok (.aload_n 0, 1) := by decide +kernel
theorem dX9_same_91 : decode cX9_same 91 = .ok (.getfield 43, 3) := by decide +kernel
theorem dX9_same_94 : decode cX9_same 94 = .ok (.iload_n 1, 1) := by decide +kernel
theorem dX9_same_95 : decode cX9_same 95 = .ok (.laload, 1) := by decide +kernel
theorem dX9_same_96 : decode cX9_same 96 = .ok (.aload_n 0, 1) := by decide +kernel
theorem dX9_same_97 : decode cX9_same 97 = .ok (.getfield 43, 3) := by decide +kernel
theorem dX9_same_100 : decode cX9_same 100 = .ok (.iload_n 2, 1) := by decide +kernel
theorem dX9_same_101 : decode cX9_same 101 = .ok (.laload, 1) := by decide +kernel
theorem dX9_same_102 : decode cX9_same 102 = .ok (.lcmp, 1) := by decide +kernel
theorem dX9_same_103 : decode cX9_same 103 = .ok (.ifCond .ne 7, 3) := by decide +kernel
theorem dX9_same_106 : decode cX9_same 106 = .ok (.iconst 1, 1) := by decide +kernel
theorem dX9_same_107 : decode cX9_same 107 = .ok (.goto 4, 3) := by decide +kernel
theorem dX9_same_110 : decode cX9_same 110 = .ok (.iconst 0, 1) := by decide +kernel
theorem dX9_same_111 : decode cX9_same 111 = .ok (.istore_n 3, 1) := by decide +kernel
theorem dX9_same_112 : decode cX9_same 112 = .ok (.iconst 0, 1) := by decide +kernel
theorem dX9_same_113 : decode cX9_same 113 = .ok (.istore 4, 2) := by decide +kernel
theorem dX9_same_115 : decode cX9_same 115 = .ok (.iload 4, 2) := by decide +kernel
theorem dX9_same_117 : decode cX9_same 117 = .ok (.aload_n 0, 1) := by decide +kernel
theorem dX9_same_118 : decode cX9_same 118 = .ok (.getfield 151, 3) := by decide +kernel
theorem dX9_same_121 : decode cX9_same 121 = .ok (.if_icmp .ge 57, 3) := by decide +kernel
theorem dX9_same_124 : decode cX9_same 124 = .ok (.iload_n 3, 1) := by decide +kernel
theorem dX9_same_125 : decode cX9_same 125 = .ok (.ifCond .eq 45, 3) := by decide +kernel
theorem dX9_same_128 : decode cX9_same 128 = .ok (.aload_n 0, 1) := by decide +kernel
theorem dX9_same_129 : decode cX9_same 129 = .ok (.getfield 50, 3) := by decide +kernel
theorem dX9_same_132 : decode cX9_same 132 = .ok (.iload 4, 2) := by decide +kernel
theorem dX9_same_134 : decode cX9_same 134 = .ok (.baload, 1) := by decide +kernel
theorem dX9_same_135 : decode cX9_same 135 = .ok (.ifCond .ne 31, 3) := by decide +kernel
theorem dX9_same_138 : decode cX9_same 138 = .ok (.aload_n 0, 1) := by decide +kernel
theorem dX9_same_139 : decode cX9_same 139 = .ok (.getfield 60, 3) := by decide +kernel
theorem dX9_same_142 : decode cX9_same 142 = .ok (.bipush 12, 2) := by decide +kernel
theorem dX9_same_144 : decode cX9_same 144 = .ok (.iload 4, 2) := by decide +kernel
theorem dX9_same_146 : decode cX9_same 146 = .ok (.imul, 1) := by decide +kernel
theorem dX9_same_147 : decode cX9_same 147 = .ok (.iload_n 1, 1) := by decide +kernel
theorem dX9_same_148 : decode cX9_same 148 = .ok (.iadd, 1) := by decide +kernel
theorem dX9_same_149 : decode cX9_same 149 = .ok (.laload, 1) := by decide +kernel
theorem dX9_same_150 : decode cX9_same 150 = .ok (.aload_n 0, 1) := by decide +kernel
theorem dX9_same_151 : decode cX9_same 151 = .ok (.getfield 60, 3) := by decide +kernel
theorem dX9_same_154 : decode cX9_same 154 = .ok (.bipush 12, 2) := by decide +kernel
theorem dX9_same_156 : decode cX9_same 156 = .ok (.iload 4, 2) := by decide +kernel
theorem dX9_same_158 : decode cX9_same 158 = .ok (.imul, 1) := by decide +kernel
theorem dX9_same_159 : decode cX9_same 159 = .ok (.iload_n 2, 1) := by decide +kernel
theorem dX9_same_160 : decode cX9_same 160 = .ok (.iadd, 1) := by decide +kernel
theorem dX9_same_161 : decode cX9_same 161 = .ok (.laload, 1) := by decide +kernel
theorem dX9_same_162 : decode cX9_same 162 = .ok (.lcmp, 1) := by decide +kernel
theorem dX9_same_163 : decode cX9_same 163 = .ok (.ifCond .ne 7, 3) := by decide +kernel
theorem dX9_same_166 : decode cX9_same 166 = .ok (.iconst 1, 1) := by decide +kernel
theorem dX9_same_167 : decode cX9_same 167 = .ok (.goto 4, 3) := by decide +kernel
theorem dX9_same_170 : decode cX9_same 170 = .ok (.iconst 0, 1) := by decide +kernel
theorem dX9_same_171 : decode cX9_same 171 = .ok (.istore_n 3, 1) := by decide +kernel
theorem dX9_same_172 : decode cX9_same 172 = .ok (.iinc 4 1, 3) := by decide +kernel
theorem dX9_same_175 : decode cX9_same 175 = .ok (.goto (-60), 3) := by decide +kernel
theorem dX9_same_178 : decode cX9_same 178 = .ok (.iload_n 3, 1) := by decide +kernel
theorem dX9_same_179 : decode cX9_same 179 = .ok (.ireturn, 1) := by decide +kernel
theorem dX9_put_0 : decode cX9_put 0 = .ok (.aload_n 0, 1) := by decide +kernel
theorem dX9_put_1 : decode cX9_put 1 = .ok (.getfield 123, 3) := by decide +kernel
theorem dX9_put_4 : decode cX9_put 4 = .ok (.ifCond .eq 15, 3) := by decide +kernel
theorem dX9_put_7 : decode cX9_put 7 = .ok (.aload_n 0, 1) := by decide +kernel
theorem dX9_put_8 : decode cX9_put 8 = .ok (.getfield 172, 3) := by decide +kernel
theorem dX9_put_11 : decode cX9_put 11 = .ok (.iconst (-1), 1) := by decide +kernel
theorem dX9_put_12 : decode cX9_put 12 = .ok (.if_icmp .ne 7, 3) := by decide +kernel
theorem dX9_put_15 : decode cX9_put 15 = .ok (.iconst 1, 1) := by decide +kernel
theorem dX9_put_16 : decode cX9_put 16 = .ok (.goto 4, 3) := by decide +kernel
theorem dX9_put_19 : decode cX9_put 19 = .ok (.iconst 0, 1) := by decide +kernel
theorem dX9_put_20 : decode cX9_put 20 = .ok (.istore_n 3, 1) := by decide +kernel
theorem dX9_put_21 : decode cX9_put 21 = .ok (.aload_n 0, 1) := by decide +kernel
theorem dX9_put_22 : decode cX9_put 22 = .ok (.iload_n 3, 1) := by decide +kernel
theorem dX9_put_23 : decode cX9_put 23 = .ok (.ifCond .ne 7, 3) := by decide +kernel
theorem dX9_put_26 : decode cX9_put 26 = .ok (.iconst 1, 1) := by decide +kernel
theorem dX9_put_27 : decode cX9_put 27 = .ok (.goto 4, 3) := by decide +kernel
theorem dX9_put_30 : decode cX9_put 30 = .ok (.iconst 0, 1) := by decide +kernel
theorem dX9_put_31 : decode cX9_put 31 = .ok (.aload_n 0, 1) := by decide +kernel
theorem dX9_put_32 : decode cX9_put 32 = .ok (.iload_n 1, 1) := by decide +kernel
theorem dX9_put_33 : decode cX9_put 33 = .ok (.invokevirtual 162, 3) := by decide +kernel
theorem dX9_put_36 : decode cX9_put 36 = .ok (.ifCond .ne 7, 3) := by decide +kernel
theorem dX9_put_39 : decode cX9_put 39 = .ok (.iconst 1, 1) := by decide +kernel
theorem dX9_put_40 : decode cX9_put 40 = .ok (.goto 4, 3) := by decide +kernel
theorem dX9_put_43 : decode cX9_put 43 = .ok (.iconst 0, 1) := by decide +kernel
theorem dX9_put_44 : decode cX9_put 44 = .ok (.iload_n 3, 1) := by decide +kernel
theorem dX9_put_45 : decode cX9_put 45 = .ok (.ifCond .eq 46, 3) := by decide +kernel
theorem dX9_put_48 : decode cX9_put 48 = .ok (.aload_n 0, 1) := by decide +kernel
theorem dX9_put_49 : decode cX9_put 49 = .ok (.iload_n 1, 1) := by decide +kernel
theorem dX9_put_50 : decode cX9_put 50 = .ok (.invokevirtual 162, 3) := by decide +kernel
theorem dX9_put_53 : decode cX9_put 53 = .ok (.ifCond .eq 38, 3) := by decide +kernel
theorem dX9_put_56 : decode cX9_put 56 = .ok (.aload_n 0, 1) := by decide +kernel
theorem dX9_put_57 : decode cX9_put 57 = .ok (.getfield 28, 3) := by decide +kernel
theorem dX9_put_60 : decode cX9_put 60 = .ok (.iload_n 1, 1) := by decide +kernel
theorem dX9_put_61 : decode cX9_put 61 = .ok (.iaload, 1) := by decide +kernel
theorem dX9_put_62 : decode cX9_put 62 = .ok (.ifCond .ne 25, 3) := by decide +kernel
theorem dX9_put_65 : decode cX9_put 65 = .ok (.iload_n 2, 1) := by decide +kernel
theorem dX9_put_66 : decode cX9_put 66 = .ok (.i2l, 1) := by decide +kernel
theorem dX9_put_67 : decode cX9_put 67 = .ok (.aload_n 0, 1) := by decide +kernel
theorem dX9_put_68 : decode cX9_put 68 = .ok (.getfield 31, 3) := by decide +kernel
theorem dX9_put_71 : decode cX9_put 71 = .ok (.iload_n 1, 1) := by decide +kernel
theorem dX9_put_72 : decode cX9_put 72 = .ok (.iaload, 1) := by decide +kernel
theorem dX9_put_73 : decode cX9_put 73 = .ok (.i2l, 1) := by decide +kernel
theorem dX9_put_74 : decode cX9_put 74 = .ok (.aload_n 0, 1) := by decide +kernel
theorem dX9_put_75 : decode cX9_put 75 = .ok (.getfield 34, 3) := by decide +kernel
theorem dX9_put_78 : decode cX9_put 78 = .ok (.iload_n 1, 1) := by decide +kernel
theorem dX9_put_79 : decode cX9_put 79 = .ok (.iaload, 1) := by decide +kernel
theorem dX9_put_80 : decode cX9_put 80 = .ok (.i2l, 1) := by decide +kernel
theorem dX9_put_81 : decode cX9_put 81 = .ok (.invokestatic 133, 3) := by decide +kernel
theorem dX9_put_84 : decode cX9_put 84 = .ok (.ifCond .ne 7, 3) := by decide +kernel
theorem dX9_put_87 : decode cX9_put 87 = .ok (.iconst 1, 1) := by decide +kernel
theorem dX9_put_88 : decode cX9_put 88 = .ok (.goto 4, 3) := by decide +kernel
theorem dX9_put_91 : decode cX9_put 91 = .ok (.iconst 0, 1) := by decide +kernel
theorem dX9_put_92 : decode cX9_put 92 = .ok (.invokevirtual 314, 3) := by decide +kernel
theorem dX9_put_95 : decode cX9_put 95 = .ok (.ifCond .eq 17, 3) := by decide +kernel
theorem dX9_put_98 : decode cX9_put 98 = .ok (.aload_n 0, 1) := by decide +kernel
theorem dX9_put_99 : decode cX9_put 99 = .ok (.getfield 90, 3) := by decide +kernel
theorem dX9_put_102 : decode cX9_put 102 = .ok (.iload_n 1, 1) := by decide +kernel
theorem dX9_put_103 : decode cX9_put 103 = .ok (.iload_n 2, 1) := by decide +kernel
theorem dX9_put_104 : decode cX9_put 104 = .ok (.iastore, 1) := by decide +kernel
theorem dX9_put_105 : decode cX9_put 105 = .ok (.aload_n 0, 1) := by decide +kernel
theorem dX9_put_106 : decode cX9_put 106 = .ok (.getfield 87, 3) := by decide +kernel
theorem dX9_put_109 : decode cX9_put 109 = .ok (.iload_n 1, 1) := by decide +kernel
theorem dX9_put_110 : decode cX9_put 110 = .ok (.iconst 1, 1) := by decide +kernel
theorem dX9_put_111 : decode cX9_put 111 = .ok (.bastore, 1) := by decide +kernel
theorem dX9_put_112 : decode cX9_put 112 = .ok (.return_, 1) := by decide +kernel
theorem dX9_back_0 : decode cX9_back 0 = .ok (.aload_n 0, 1) := by decide +kernel
theorem dX9_back_1 : decode cX9_back 1 = .ok (.getfield 123, 3) := by decide +kernel
theorem dX9_back_4 : decode cX9_back 4 = .ok (.ifCond .eq 15, 3) := by decide +kernel
theorem dX9_back_7 : decode cX9_back 7 = .ok (.aload_n 0, 1) := by decide +kernel
theorem dX9_back_8 : decode cX9_back 8 = .ok (.getfield 172, 3) := by decide +kernel
theorem dX9_back_11 : decode cX9_back 11 = .ok (.iconst (-1), 1) := by decide +kernel
theorem dX9_back_12 : decode cX9_back 12 = .ok (.if_icmp .ne 7, 3) := by decide +kernel
theorem dX9_back_15 : decode cX9_back 15 = .ok (.iconst 1, 1) := by decide +kernel
theorem dX9_back_16 : decode cX9_back 16 = .ok (.goto 4, 3) := by decide +kernel
theorem dX9_back_19 : decode cX9_back 19 = .ok (.iconst 0, 1) := by decide +kernel
theorem dX9_back_20 : decode cX9_back 20 = .ok (.istore_n 1, 1) := by decide +kernel
theorem dX9_back_21 : decode cX9_back 21 = .ok (.iconst 0, 1) := by decide +kernel
theorem dX9_back_22 : decode cX9_back 22 = .ok (.istore_n 2, 1) := by decide +kernel
theorem dX9_back_23 : decode cX9_back 23 = .ok (.iload_n 2, 1) := by decide +kernel
theorem dX9_back_24 : decode cX9_back 24 = .ok (.aload_n 0, 1) := by decide +kernel
theorem dX9_back_25 : decode cX9_back 25 = .ok (.getfield 141, 3) := by decide +kernel
theorem dX9_back_28 : decode cX9_back 28 = .ok (.if_icmp .ge 37, 3) := by decide +kernel
theorem dX9_back_31 : decode cX9_back 31 = .ok (.iload_n 1, 1) := by decide +kernel
theorem dX9_back_32 : decode cX9_back 32 = .ok (.ifCond .eq 25, 3) := by decide +kernel
theorem dX9_back_35 : decode cX9_back 35 = .ok (.aload_n 0, 1) := by decide +kernel
theorem dX9_back_36 : decode cX9_back 36 = .ok (.getfield 28, 3) := by decide +kernel
theorem dX9_back_39 : decode cX9_back 39 = .ok (.iload_n 2, 1) := by decide +kernel
theorem dX9_back_40 : decode cX9_back 40 = .ok (.iaload, 1) := by decide +kernel
theorem dX9_back_41 : decode cX9_back 41 = .ok (.ifCond .ne 12, 3) := by decide +kernel
theorem dX9_back_44 : decode cX9_back 44 = .ok (.aload_n 0, 1) := by decide +kernel
theorem dX9_back_45 : decode cX9_back 45 = .ok (.getfield 87, 3) := by decide +kernel
theorem dX9_back_48 : decode cX9_back 48 = .ok (.iload_n 2, 1) := by decide +kernel
theorem dX9_back_49 : decode cX9_back 49 = .ok (.baload, 1) := by decide +kernel
theorem dX9_back_50 : decode cX9_back 50 = .ok (.ifCond .eq 7, 3) := by decide +kernel
theorem dX9_back_53 : decode cX9_back 53 = .ok (.iconst 1, 1) := by decide +kernel
theorem dX9_back_54 : decode cX9_back 54 = .ok (.goto 4, 3) := by decide +kernel
theorem dX9_back_57 : decode cX9_back 57 = .ok (.iconst 0, 1) := by decide +kernel
theorem dX9_back_58 : decode cX9_back 58 = .ok (.istore_n 1, 1) := by decide +kernel
theorem dX9_back_59 : decode cX9_back 59 = .ok (.iinc 2 1, 3) := by decide +kernel
theorem dX9_back_62 : decode cX9_back 62 = .ok (.goto (-39), 3) := by decide +kernel
theorem dX9_back_65 : decode cX9_back 65 = .ok (.aload_n 0, 1) := by decide +kernel
theorem dX9_back_66 : decode cX9_back 66 = .ok (.iload_n 1, 1) := by decide +kernel
theorem dX9_back_67 : decode cX9_back 67 = .ok (.ifCond .ne 7, 3) := by decide +kernel
theorem dX9_back_70 : decode cX9_back 70 = .ok (.iconst 1, 1) := by decide +kernel
theorem dX9_back_71 : decode cX9_back 71 = .ok (.goto 4, 3) := by decide +kernel
theorem dX9_back_74 : decode cX9_back 74 = .ok (.iconst 0, 1) := by decide +kernel
theorem dX9_back_75 : decode cX9_back 75 = .ok (.iconst 0, 1) := by decide +kernel
theorem dX9_back_76 : decode cX9_back 76 = .ok (.invokevirtual 144, 3) := by decide +kernel
theorem dX9_back_79 : decode cX9_back 79 = .ok (.ifCond .ne 5, 3) := by decide +kernel
theorem dX9_back_82 : decode cX9_back 82 = .ok (.iconst 0, 1) := by decide +kernel
theorem dX9_back_83 : decode cX9_back 83 = .ok (.ireturn, 1) := by decide +kernel
theorem dX9_back_84 : decode cX9_back 84 = .ok (.iconst 0, 1) := by decide +kernel
theorem dX9_back_85 : decode cX9_back 85 = .ok (.istore_n 2, 1) := by decide +kernel
theorem dX9_back_86 : decode cX9_back 86 = .ok (.iload_n 2, 1) := by decide +kernel
theorem dX9_back_87 : decode cX9_back 87 = .ok (.aload_n 0, 1) := by decide +kernel
theorem dX9_back_88 : decode cX9_back 88 = .ok (.getfield 141, 3) := by decide +kernel
theorem dX9_back_91 : decode cX9_back 91 = .ok (.if_icmp .ge 39, 3) := by decide +kernel
theorem dX9_back_94 : decode cX9_back 94 = .ok (.aload_n 0, 1) := by decide +kernel
theorem dX9_back_95 : decode cX9_back 95 = .ok (.getfield 99, 3) := by decide +kernel
theorem dX9_back_98 : decode cX9_back 98 = .ok (.iload_n 2, 1) := by decide +kernel
theorem dX9_back_99 : decode cX9_back 99 = .ok (.aload_n 0, 1) := by decide +kernel
theorem dX9_back_100 : decode cX9_back 100 = .ok (.getfield 28, 3) := by decide +kernel
theorem dX9_back_103 : decode cX9_back 103 = .ok (.iload_n 2, 1) := by decide +kernel
theorem dX9_back_104 : decode cX9_back 104 = .ok (.iaload, 1) := by decide +kernel
theorem dX9_back_105 : decode cX9_back 105 = .ok (.ifCond .ne 12, 3) := by decide +kernel
theorem dX9_back_108 : decode cX9_back 108 = .ok (.aload_n 0, 1) := by decide +kernel
theorem dX9_back_109 : decode cX9_back 109 = .ok (.getfield 90, 3) := by decide +kernel
theorem dX9_back_112 : decode cX9_back 112 = .ok (.iload_n 2, 1) := by decide +kernel
theorem dX9_back_113 : decode cX9_back 113 = .ok (.iaload, 1) := by decide +kernel
theorem dX9_back_114 : decode cX9_back 114 = .ok (.goto 9, 3) := by decide +kernel
theorem dX9_back_117 : decode cX9_back 117 = .ok (.aload_n 0, 1) := by decide +kernel
theorem dX9_back_118 : decode cX9_back 118 = .ok (.getfield 31, 3) := by decide +kernel
theorem dX9_back_121 : decode cX9_back 121 = .ok (.iload_n 2, 1) := by decide +kernel
theorem dX9_back_122 : decode cX9_back 122 = .ok (.iaload, 1) := by decide +kernel
theorem dX9_back_123 : decode cX9_back 123 = .ok (.iastore, 1) := by decide +kernel
theorem dX9_back_124 : decode cX9_back 124 = .ok (.iinc 2 1, 3) := by decide +kernel
theorem dX9_back_127 : decode cX9_back 127 = .ok (.goto (-41), 3) := by decide +kernel
theorem dX9_back_130 : decode cX9_back 130 = .ok (.aload_n 0, 1) := by decide +kernel
theorem dX9_back_131 : decode cX9_back 131 = .ok (.getfield 249, 3) := by decide +kernel
theorem dX9_back_134 : decode cX9_back 134 = .ok (.iconst 1, 1) := by decide +kernel
theorem dX9_back_135 : decode cX9_back 135 = .ok (.isub, 1) := by decide +kernel
theorem dX9_back_136 : decode cX9_back 136 = .ok (.istore_n 2, 1) := by decide +kernel
theorem dX9_back_137 : decode cX9_back 137 = .ok (.iload_n 2, 1) := by decide +kernel
theorem dX9_back_138 : decode cX9_back 138 = .ok (.ifCond .lt 77, 3) := by decide +kernel
theorem dX9_back_141 : decode cX9_back 141 = .ok (.aload_n 0, 1) := by decide +kernel
theorem dX9_back_142 : decode cX9_back 142 = .ok (.getfield 78, 3) := by decide +kernel
theorem dX9_back_145 : decode cX9_back 145 = .ok (.iload_n 2, 1) := by decide +kernel
theorem dX9_back_146 : decode cX9_back 146 = .ok (.iaload, 1) := by decide +kernel
theorem dX9_back_147 : decode cX9_back 147 = .ok (.istore_n 3, 1) := by decide +kernel
theorem dX9_back_148 : decode cX9_back 148 = .ok (.aload_n 0, 1) := by decide +kernel
theorem dX9_back_149 : decode cX9_back 149 = .ok (.getfield 81, 3) := by decide +kernel
theorem dX9_back_152 : decode cX9_back 152 = .ok (.iload_n 3, 1) := by decide +kernel
theorem dX9_back_153 : decode cX9_back 153 = .ok (.laload, 1) := by decide +kernel
theorem dX9_back_154 : decode cX9_back 154 = .ok (.lstore 4, 2) := by decide +kernel
theorem dX9_back_156 : decode cX9_back 156 = .ok (.iconst 0, 1) := by decide +kernel
theorem dX9_back_157 : decode cX9_back 157 = .ok (.istore 6, 2) := by decide +kernel
theorem dX9_back_159 : decode cX9_back 159 = .ok (.iload 6, 2) := by decide +kernel
theorem dX9_back_161 : decode cX9_back 161 = .ok (.aload_n 0, 1) := by decide +kernel
theorem dX9_back_162 : decode cX9_back 162 = .ok (.getfield 141, 3) := by decide +kernel
theorem dX9_back_165 : decode cX9_back 165 = .ok (.if_icmp .ge 35, 3) := by decide +kernel
theorem dX9_back_168 : decode cX9_back 168 = .ok (.lload 4, 2) := by decide +kernel
theorem dX9_back_170 : decode cX9_back 170 = .ok (.aload_n 0, 1) := by decide +kernel
theorem dX9_back_171 : decode cX9_back 171 = .ok (.getfield 84, 3) := by decide +kernel
theorem dX9_back_174 : decode cX9_back 174 = .ok (.bipush 12, 2) := by decide +kernel
theorem dX9_back_176 : decode cX9_back 176 = .ok (.iload_n 3, 1) := by decide +kernel
theorem dX9_back_177 : decode cX9_back 177 = .ok (.imul, 1) := by decide +kernel
theorem dX9_back_178 : decode cX9_back 178 = .ok (.iload 6, 2) := by decide +kernel
theorem dX9_back_180 : decode cX9_back 180 = .ok (.iadd, 1) := by decide +kernel
theorem dX9_back_181 : decode cX9_back 181 = .ok (.laload, 1) := by decide +kernel
theorem dX9_back_182 : decode cX9_back 182 = .ok (.aload_n 0, 1) := by decide +kernel
theorem dX9_back_183 : decode cX9_back 183 = .ok (.getfield 99, 3) := by decide +kernel
theorem dX9_back_186 : decode cX9_back 186 = .ok (.iload 6, 2) := by decide +kernel
theorem dX9_back_188 : decode cX9_back 188 = .ok (.iaload, 1) := by decide +kernel
theorem dX9_back_189 : decode cX9_back 189 = .ok (.i2l, 1) := by decide +kernel
theorem dX9_back_190 : decode cX9_back 190 = .ok (.lmul, 1) := by decide +kernel
theorem dX9_back_191 : decode cX9_back 191 = .ok (.ladd, 1) := by decide +kernel
theorem dX9_back_192 : decode cX9_back 192 = .ok (.lstore 4, 2) := by decide +kernel
theorem dX9_back_194 : decode cX9_back 194 = .ok (.iinc 6 1, 3) := by decide +kernel
theorem dX9_back_197 : decode cX9_back 197 = .ok (.goto (-38), 3) := by decide +kernel
theorem dX9_back_200 : decode cX9_back 200 = .ok (.aload_n 0, 1) := by decide +kernel
theorem dX9_back_201 : decode cX9_back 201 = .ok (.getfield 99, 3) := by decide +kernel
theorem dX9_back_204 : decode cX9_back 204 = .ok (.iload_n 3, 1) := by decide +kernel
theorem dX9_back_205 : decode cX9_back 205 = .ok (.lload 4, 2) := by decide +kernel
theorem dX9_back_207 : decode cX9_back 207 = .ok (.l2i, 1) := by decide +kernel
theorem dX9_back_208 : decode cX9_back 208 = .ok (.iastore, 1) := by decide +kernel
theorem dX9_back_209 : decode cX9_back 209 = .ok (.iinc 2 (-1), 3) := by decide +kernel
theorem dX9_back_212 : decode cX9_back 212 = .ok (.goto (-75), 3) := by decide +kernel
theorem dX9_back_215 : decode cX9_back 215 = .ok (.iconst 1, 1) := by decide +kernel
theorem dX9_back_216 : decode cX9_back 216 = .ok (.istore_n 2, 1) := by decide +kernel
theorem dX9_back_217 : decode cX9_back 217 = .ok (.iconst 0, 1) := by decide +kernel
theorem dX9_back_218 : decode cX9_back 218 = .ok (.istore_n 3, 1) := by decide +kernel
theorem dX9_back_219 : decode cX9_back 219 = .ok (.iload_n 3, 1) := by decide +kernel
theorem dX9_back_220 : decode cX9_back 220 = .ok (.aload_n 0, 1) := by decide +kernel
theorem dX9_back_221 : decode cX9_back 221 = .ok (.getfield 141, 3) := by decide +kernel
theorem dX9_back_224 : decode cX9_back 224 = .ok (.if_icmp .ge 54, 3) := by decide +kernel
theorem dX9_back_227 : decode cX9_back 227 = .ok (.aload_n 0, 1) := by decide +kernel
theorem dX9_back_228 : decode cX9_back 228 = .ok (.getfield 93, 3) := by decide +kernel
theorem dX9_back_231 : decode cX9_back 231 = .ok (.iload_n 3, 1) := by decide +kernel
theorem dX9_back_232 : decode cX9_back 232 = .ok (.aload_n 0, 1) := by decide +kernel
theorem dX9_back_233 : decode cX9_back 233 = .ok (.getfield 99, 3) := by decide +kernel
theorem dX9_back_236 : decode cX9_back 236 = .ok (.iload_n 3, 1) := by decide +kernel
theorem dX9_back_237 : decode cX9_back 237 = .ok (.iaload, 1) := by decide +kernel
theorem dX9_back_238 : decode cX9_back 238 = .ok (.iastore, 1) := by decide +kernel
theorem dX9_back_239 : decode cX9_back 239 = .ok (.aload_n 0, 1) := by decide +kernel
theorem dX9_back_240 : decode cX9_back 240 = .ok (.getfield 99, 3) := by decide +kernel
theorem dX9_back_243 : decode cX9_back 243 = .ok (.iload_n 3, 1) := by decide +kernel
theorem dX9_back_244 : decode cX9_back 244 = .ok (.iaload, 1) := by decide +kernel
theorem dX9_back_245 : decode cX9_back 245 = .ok (.i2l, 1) := by decide +kernel
theorem dX9_back_246 : decode cX9_back 246 = .ok (.aload_n 0, 1) := by decide +kernel
theorem dX9_back_247 : decode cX9_back 247 = .ok (.getfield 7, 3) := by decide +kernel
theorem dX9_back_250 : decode cX9_back 250 = .ok (.iload_n 3, 1) := by decide +kernel
theorem dX9_back_251 : decode cX9_back 251 = .ok (.iaload, 1) := by decide +kernel
theorem dX9_back_252 : decode cX9_back 252 = .ok (.i2l, 1) := by decide +kernel
theorem dX9_back_253 : decode cX9_back 253 = .ok (.aload_n 0, 1) := by decide +kernel
theorem dX9_back_254 : decode cX9_back 254 = .ok (.getfield 13, 3) := by decide +kernel
theorem dX9_back_257 : decode cX9_back 257 = .ok (.iload_n 3, 1) := by decide +kernel
theorem dX9_back_258 : decode cX9_back 258 = .ok (.iaload, 1) := by decide +kernel
theorem dX9_back_259 : decode cX9_back 259 = .ok (.i2l, 1) := by decide +kernel
theorem dX9_back_260 : decode cX9_back 260 = .ok (.invokestatic 133, 3) := by decide +kernel
theorem dX9_back_263 : decode cX9_back 263 = .ok (.ifCond .eq 7, 3) := by decide +kernel
theorem dX9_back_266 : decode cX9_back 266 = .ok (.iload_n 2, 1) := by decide +kernel
theorem dX9_back_267 : decode cX9_back 267 = .ok (.goto 4, 3) := by decide +kernel
theorem dX9_back_270 : decode cX9_back 270 = .ok (.iconst 0, 1) := by decide +kernel
theorem dX9_back_271 : decode cX9_back 271 = .ok (.istore_n 2, 1) := by decide +kernel
theorem dX9_back_272 : decode cX9_back 272 = .ok (.iinc 3 1, 3) := by decide +kernel
theorem dX9_back_275 : decode cX9_back 275 = .ok (.goto (-56), 3) := by decide +kernel
theorem dX9_back_278 : decode cX9_back 278 = .ok (.iconst 0, 1) := by decide +kernel
theorem dX9_back_279 : decode cX9_back 279 = .ok (.istore_n 3, 1) := by decide +kernel
theorem dX9_back_280 : decode cX9_back 280 = .ok (.iload_n 3, 1) := by decide +kernel
theorem dX9_back_281 : decode cX9_back 281 = .ok (.aload_n 0, 1) := by decide +kernel
theorem dX9_back_282 : decode cX9_back 282 = .ok (.getfield 151, 3) := by decide +kernel
theorem dX9_back_285 : decode cX9_back 285 = .ok (.if_icmp .ge 23, 3) := by decide +kernel
theorem dX9_back_288 : decode cX9_back 288 = .ok (.aload_n 0, 1) := by decide +kernel
theorem dX9_back_289 : decode cX9_back 289 = .ok (.iload_n 3, 1) := by decide +kernel
theorem dX9_back_290 : decode cX9_back 290 = .ok (.invokevirtual 330, 3) := by decide +kernel
theorem dX9_back_293 : decode cX9_back 293 = .ok (.ifCond .eq 7, 3) := by decide +kernel
theorem dX9_back_296 : decode cX9_back 296 = .ok (.iload_n 2, 1) := by decide +kernel
theorem dX9_back_297 : decode cX9_back 297 = .ok (.goto 4, 3) := by decide +kernel
theorem dX9_back_300 : decode cX9_back 300 = .ok (.iconst 0, 1) := by decide +kernel
theorem dX9_back_301 : decode cX9_back 301 = .ok (.istore_n 2, 1) := by decide +kernel
theorem dX9_back_302 : decode cX9_back 302 = .ok (.iinc 3 1, 3) := by decide +kernel
theorem dX9_back_305 : decode cX9_back 305 = .ok (.goto (-25), 3) := by decide +kernel
theorem dX9_back_308 : decode cX9_back 308 = .ok (.aload_n 0, 1) := by decide +kernel
theorem dX9_back_309 : decode cX9_back 309 = .ok (.iconst 1, 1) := by decide +kernel
theorem dX9_back_310 : decode cX9_back 310 = .ok (.putfield 116, 3) := by decide +kernel
theorem dX9_back_313 : decode cX9_back 313 = .ok (.iload_n 2, 1) := by decide +kernel
theorem dX9_back_314 : decode cX9_back 314 = .ok (.ireturn, 1) := by decide +kernel
theorem dX9_at_0 : decode cX9_at 0 = .ok (.aload_n 0, 1) := by decide +kernel
theorem dX9_at_1 : decode cX9_at 1 = .ok (.aload_n 0, 1) := by decide +kernel
theorem dX9_at_2 : decode cX9_at 2 = .ok (.getfield 123, 3) := by decide +kernel
theorem dX9_at_5 : decode cX9_at 5 = .ok (.ifCond .eq 10, 3) := by decide +kernel
theorem dX9_at_8 : decode cX9_at 8 = .ok (.aload_n 0, 1) := by decide +kernel
theorem dX9_at_9 : decode cX9_at 9 = .ok (.getfield 116, 3) := by decide +kernel
theorem dX9_at_12 : decode cX9_at 12 = .ok (.ifCond .ne 7, 3) := by decide +kernel
theorem dX9_at_15 : decode cX9_at 15 = .ok (.iconst 1, 1) := by decide +kernel
theorem dX9_at_16 : decode cX9_at 16 = .ok (.goto 4, 3) := by decide +kernel
theorem dX9_at_19 : decode cX9_at 19 = .ok (.iconst 0, 1) := by decide +kernel
theorem dX9_at_20 : decode cX9_at 20 = .ok (.aload_n 0, 1) := by decide +kernel
theorem dX9_at_21 : decode cX9_at 21 = .ok (.iload_n 1, 1) := by decide +kernel
theorem dX9_at_22 : decode cX9_at 22 = .ok (.invokevirtual 162, 3) := by decide +kernel
theorem dX9_at_25 : decode cX9_at 25 = .ok (.ifCond .ne 7, 3) := by decide +kernel
theorem dX9_at_28 : decode cX9_at 28 = .ok (.iconst 1, 1) := by decide +kernel
theorem dX9_at_29 : decode cX9_at 29 = .ok (.goto 4, 3) := by decide +kernel
theorem dX9_at_32 : decode cX9_at 32 = .ok (.iconst 0, 1) := by decide +kernel
theorem dX9_at_33 : decode cX9_at 33 = .ok (.invokevirtual 144, 3) := by decide +kernel
theorem dX9_at_36 : decode cX9_at 36 = .ok (.ifCond .eq 12, 3) := by decide +kernel
theorem dX9_at_39 : decode cX9_at 39 = .ok (.aload_n 0, 1) := by decide +kernel
theorem dX9_at_40 : decode cX9_at 40 = .ok (.getfield 93, 3) := by decide +kernel
theorem dX9_at_43 : decode cX9_at 43 = .ok (.iload_n 1, 1) := by decide +kernel
theorem dX9_at_44 : decode cX9_at 44 = .ok (.iaload, 1) := by decide +kernel
theorem dX9_at_45 : decode cX9_at 45 = .ok (.goto 4, 3) := by decide +kernel
theorem dX9_at_48 : decode cX9_at 48 = .ok (.iconst 0, 1) := by decide +kernel
theorem dX9_at_49 : decode cX9_at 49 = .ok (.ireturn, 1) := by decide +kernel
theorem dX9_value_0 : decode cX9_value 0 = .ok (.lconst 0, 1) := by decide +kernel
theorem dX9_value_1 : decode cX9_value 1 = .ok (.lstore_n 1, 1) := by decide +kernel
theorem dX9_value_2 : decode cX9_value 2 = .ok (.aload_n 0, 1) := by decide +kernel
theorem dX9_value_3 : decode cX9_value 3 = .ok (.aload_n 0, 1) := by decide +kernel
theorem dX9_value_4 : decode cX9_value 4 = .ok (.getfield 123, 3) := by decide +kernel
theorem dX9_value_7 : decode cX9_value 7 = .ok (.ifCond .eq 10, 3) := by decide +kernel
theorem dX9_value_10 : decode cX9_value 10 = .ok (.aload_n 0, 1) := by decide +kernel
theorem dX9_value_11 : decode cX9_value 11 = .ok (.getfield 116, 3) := by decide +kernel
theorem dX9_value_14 : decode cX9_value 14 = .ok (.ifCond .ne 7, 3) := by decide +kernel
theorem dX9_value_17 : decode cX9_value 17 = .ok (.iconst 1, 1) := by decide +kernel
theorem dX9_value_18 : decode cX9_value 18 = .ok (.goto 4, 3) := by decide +kernel
theorem dX9_value_21 : decode cX9_value 21 = .ok (.iconst 0, 1) := by decide +kernel
theorem dX9_value_22 : decode cX9_value 22 = .ok (.iconst 0, 1) := by decide +kernel
theorem dX9_value_23 : decode cX9_value 23 = .ok (.invokevirtual 144, 3) := by decide +kernel
theorem dX9_value_26 : decode cX9_value 26 = .ok (.ifCond .eq 37, 3) := by decide +kernel
theorem dX9_value_29 : decode cX9_value 29 = .ok (.iconst 0, 1) := by decide +kernel
theorem dX9_value_30 : decode cX9_value 30 = .ok (.istore_n 3, 1) := by decide +kernel
theorem dX9_value_31 : decode cX9_value 31 = .ok (.iload_n 3, 1) := by decide +kernel
theorem dX9_value_32 : decode cX9_value 32 = .ok (.aload_n 0, 1) := by decide +kernel
theorem dX9_value_33 : decode cX9_value 33 = .ok (.getfield 141, 3) := by decide +kernel
theorem dX9_value_36 : decode cX9_value 36 = .ok (.if_icmp .ge 27, 3) := by decide +kernel
theorem dX9_value_39 : decode cX9_value 39 = .ok (.lload_n 1, 1) := by decide +kernel
theorem dX9_value_40 : decode cX9_value 40 = .ok (.aload_n 0, 1) := by decide +kernel
theorem dX9_value_41 : decode cX9_value 41 = .ok (.getfield 16, 3) := by decide +kernel
theorem dX9_value_44 : decode cX9_value 44 = .ok (.iload_n 3, 1) := by decide +kernel
theorem dX9_value_45 : decode cX9_value 45 = .ok (.iaload, 1) := by decide +kernel
theorem dX9_value_46 : decode cX9_value 46 = .ok (.i2l, 1) := by decide +kernel
theorem dX9_value_47 : decode cX9_value 47 = .ok (.aload_n 0, 1) := by decide +kernel
theorem dX9_value_48 : decode cX9_value 48 = .ok (.getfield 93, 3) := by decide +kernel
theorem dX9_value_51 : decode cX9_value 51 = .ok (.iload_n 3, 1) := by decide +kernel
theorem dX9_value_52 : decode cX9_value 52 = .ok (.iaload, 1) := by decide +kernel
theorem dX9_value_53 : decode cX9_value 53 = .ok (.i2l, 1) := by decide +kernel
theorem dX9_value_54 : decode cX9_value 54 = .ok (.lmul, 1) := by decide +kernel
theorem dX9_value_55 : decode cX9_value 55 = .ok (.ladd, 1) := by decide +kernel
theorem dX9_value_56 : decode cX9_value 56 = .ok (.lstore_n 1, 1) := by decide +kernel
theorem dX9_value_57 : decode cX9_value 57 = .ok (.iinc 3 1, 3) := by decide +kernel
theorem dX9_value_60 : decode cX9_value 60 = .ok (.goto (-29), 3) := by decide +kernel
theorem dX9_value_63 : decode cX9_value 63 = .ok (.lload_n 1, 1) := by decide +kernel
theorem dX9_value_64 : decode cX9_value 64 = .ok (.lreturn, 1) := by decide +kernel
theorem dX9_price_0 : decode cX9_price 0 = .ok (.iload_n 1, 1) := by decide +kernel
theorem dX9_price_1 : decode cX9_price 1 = .ok (.ifCond .eq 10, 3) := by decide +kernel
theorem dX9_price_4 : decode cX9_price 4 = .ok (.aload_n 0, 1) := by decide +kernel
theorem dX9_price_5 : decode cX9_price 5 = .ok (.getfield 222, 3) := by decide +kernel
theorem dX9_price_8 : decode cX9_price 8 = .ok (.goto 4, 3) := by decide +kernel
theorem dX9_price_11 : decode cX9_price 11 = .ok (.lconst 0, 1) := by decide +kernel
theorem dX9_price_12 : decode cX9_price 12 = .ok (.lstore_n 2, 1) := by decide +kernel
theorem dX9_price_13 : decode cX9_price 13 = .ok (.iconst 0, 1) := by decide +kernel
theorem dX9_price_14 : decode cX9_price 14 = .ok (.istore 4, 2) := by decide +kernel
theorem dX9_price_16 : decode cX9_price 16 = .ok (.iload 4, 2) := by decide +kernel
theorem dX9_price_18 : decode cX9_price 18 = .ok (.aload_n 0, 1) := by decide +kernel
theorem dX9_price_19 : decode cX9_price 19 = .ok (.getfield 141, 3) := by decide +kernel
theorem dX9_price_22 : decode cX9_price 22 = .ok (.if_icmp .ge 66, 3) := by decide +kernel
theorem dX9_price_25 : decode cX9_price 25 = .ok (.lload_n 2, 1) := by decide +kernel
theorem dX9_price_26 : decode cX9_price 26 = .ok (.iload_n 1, 1) := by decide +kernel
theorem dX9_price_27 : decode cX9_price 27 = .ok (.ifCond .ne 23, 3) := by decide +kernel
theorem dX9_price_30 : decode cX9_price 30 = .ok (.aload_n 0, 1) := by decide +kernel
theorem dX9_price_31 : decode cX9_price 31 = .ok (.getfield 16, 3) := by decide +kernel
theorem dX9_price_34 : decode cX9_price 34 = .ok (.iload 4, 2) := by decide +kernel
theorem dX9_price_36 : decode cX9_price 36 = .ok (.iaload, 1) := by decide +kernel
theorem dX9_price_37 : decode cX9_price 37 = .ok (.i2l, 1) := by decide +kernel
theorem dX9_price_38 : decode cX9_price 38 = .ok (.aload_n 0, 1) := by decide +kernel
theorem dX9_price_39 : decode cX9_price 39 = .ok (.getfield 99, 3) := by decide +kernel
theorem dX9_price_42 : decode cX9_price 42 = .ok (.iload 4, 2) := by decide +kernel
theorem dX9_price_44 : decode cX9_price 44 = .ok (.iaload, 1) := by decide +kernel
theorem dX9_price_45 : decode cX9_price 45 = .ok (.i2l, 1) := by decide +kernel
theorem dX9_price_46 : decode cX9_price 46 = .ok (.lmul, 1) := by decide +kernel
theorem dX9_price_47 : decode cX9_price 47 = .ok (.goto 33, 3) := by decide +kernel
theorem dX9_price_50 : decode cX9_price 50 = .ok (.aload_n 0, 1) := by decide +kernel
theorem dX9_price_51 : decode cX9_price 51 = .ok (.getfield 28, 3) := by decide +kernel
theorem dX9_price_54 : decode cX9_price 54 = .ok (.iload 4, 2) := by decide +kernel
theorem dX9_price_56 : decode cX9_price 56 = .ok (.iaload, 1) := by decide +kernel
theorem dX9_price_57 : decode cX9_price 57 = .ok (.ifCond .ne 22, 3) := by decide +kernel
theorem dX9_price_60 : decode cX9_price 60 = .ok (.aload_n 0, 1) := by decide +kernel
theorem dX9_price_61 : decode cX9_price 61 = .ok (.getfield 43, 3) := by decide +kernel
theorem dX9_price_64 : decode cX9_price 64 = .ok (.iload 4, 2) := by decide +kernel
theorem dX9_price_66 : decode cX9_price 66 = .ok (.laload, 1) := by decide +kernel
theorem dX9_price_67 : decode cX9_price 67 = .ok (.aload_n 0, 1) := by decide +kernel
theorem dX9_price_68 : decode cX9_price 68 = .ok (.getfield 99, 3) := by decide +kernel
theorem dX9_price_71 : decode cX9_price 71 = .ok (.iload 4, 2) := by decide +kernel
theorem dX9_price_73 : decode cX9_price 73 = .ok (.iaload, 1) := by decide +kernel
theorem dX9_price_74 : decode cX9_price 74 = .ok (.i2l, 1) := by decide +kernel
theorem dX9_price_75 : decode cX9_price 75 = .ok (.lmul, 1) := by decide +kernel
theorem dX9_price_76 : decode cX9_price 76 = .ok (.goto 4, 3) := by decide +kernel
theorem dX9_price_79 : decode cX9_price 79 = .ok (.lconst 0, 1) := by decide +kernel
theorem dX9_price_80 : decode cX9_price 80 = .ok (.ladd, 1) := by decide +kernel
theorem dX9_price_81 : decode cX9_price 81 = .ok (.lstore_n 2, 1) := by decide +kernel
theorem dX9_price_82 : decode cX9_price 82 = .ok (.iinc 4 1, 3) := by decide +kernel
theorem dX9_price_85 : decode cX9_price 85 = .ok (.goto (-69), 3) := by decide +kernel
theorem dX9_price_88 : decode cX9_price 88 = .ok (.lload_n 2, 1) := by decide +kernel
theorem dX9_price_89 : decode cX9_price 89 = .ok (.lreturn, 1) := by decide +kernel
theorem dX9_best_0 : decode cX9_best 0 = .ok (.aload_n 0, 1) := by decide +kernel
theorem dX9_best_1 : decode cX9_best 1 = .ok (.iload_n 1, 1) := by decide +kernel
theorem dX9_best_2 : decode cX9_best 2 = .ok (.ifCond .eq 14, 3) := by decide +kernel
theorem dX9_best_5 : decode cX9_best 5 = .ok (.aload_n 0, 1) := by decide +kernel
theorem dX9_best_6 : decode cX9_best 6 = .ok (.getfield 123, 3) := by decide +kernel
theorem dX9_best_9 : decode cX9_best 9 = .ok (.ifCond .ne 7, 3) := by decide +kernel
theorem dX9_best_12 : decode cX9_best 12 = .ok (.iconst 1, 1) := by decide +kernel
theorem dX9_best_13 : decode cX9_best 13 = .ok (.goto 4, 3) := by decide +kernel
theorem dX9_best_16 : decode cX9_best 16 = .ok (.iconst 0, 1) := by decide +kernel
theorem dX9_best_17 : decode cX9_best 17 = .ok (.iconst 0, 1) := by decide +kernel
theorem dX9_best_18 : decode cX9_best 18 = .ok (.invokevirtual 144, 3) := by decide +kernel
theorem dX9_best_21 : decode cX9_best 21 = .ok (.ifCond .ne 5, 3) := by decide +kernel
theorem dX9_best_24 : decode cX9_best 24 = .ok (.iconst 0, 1) := by decide +kernel
theorem dX9_best_25 : decode cX9_best 25 = .ok (.ireturn, 1) := by decide +kernel
theorem dX9_best_26 : decode cX9_best 26 = .ok (.aload_n 0, 1) := by decide +kernel
theorem dX9_best_27 : decode cX9_best 27 = .ok (.iconst 0, 1) := by decide +kernel
theorem dX9_best_28 : decode cX9_best 28 = .ok (.putfield 120, 3) := by decide +kernel
theorem dX9_best_31 : decode cX9_best 31 = .ok (.iload_n 1, 1) := by decide +kernel
theorem dX9_best_32 : decode cX9_best 32 = .ok (.ifCond .eq 13, 3) := by decide +kernel
theorem dX9_best_35 : decode cX9_best 35 = .ok (.aload_n 0, 1) := by decide +kernel
theorem dX9_best_36 : decode cX9_best 36 = .ok (.getfield 172, 3) := by decide +kernel
theorem dX9_best_39 : decode cX9_best 39 = .ok (.iconst (-1), 1) := by decide +kernel
theorem dX9_best_40 : decode cX9_best 40 = .ok (.if_icmp .eq 5, 3) := by decide +kernel
theorem dX9_best_43 : decode cX9_best 43 = .ok (.iconst 0, 1) := by decide +kernel
theorem dX9_best_44 : decode cX9_best 44 = .ok (.ireturn, 1) := by decide +kernel
theorem dX9_best_45 : decode cX9_best 45 = .ok (.aload_n 0, 1) := by decide +kernel
theorem dX9_best_46 : decode cX9_best 46 = .ok (.iload_n 1, 1) := by decide +kernel
theorem dX9_best_47 : decode cX9_best 47 = .ok (.invokevirtual 322, 3) := by decide +kernel
theorem dX9_best_50 : decode cX9_best 50 = .ok (.istore_n 2, 1) := by decide +kernel
theorem dX9_best_51 : decode cX9_best 51 = .ok (.iload_n 2, 1) := by decide +kernel
theorem dX9_best_52 : decode cX9_best 52 = .ok (.sipush 4000, 3) := by decide +kernel
theorem dX9_best_55 : decode cX9_best 55 = .ok (.if_icmp .le 5, 3) := by decide +kernel
theorem dX9_best_58 : decode cX9_best 58 = .ok (.iconst (-1), 1) := by decide +kernel
theorem dX9_best_59 : decode cX9_best 59 = .ok (.ireturn, 1) := by decide +kernel
theorem dX9_best_60 : decode cX9_best 60 = .ok (.aload_n 0, 1) := by decide +kernel
theorem dX9_best_61 : decode cX9_best 61 = .ok (.iload_n 1, 1) := by decide +kernel
theorem dX9_best_62 : decode cX9_best 62 = .ok (.invokevirtual 326, 3) := by decide +kernel
theorem dX9_best_65 : decode cX9_best 65 = .ok (.iconst 0, 1) := by decide +kernel
theorem dX9_best_66 : decode cX9_best 66 = .ok (.istore_n 3, 1) := by decide +kernel
theorem dX9_best_67 : decode cX9_best 67 = .ok (.iload_n 3, 1) := by decide +kernel
theorem dX9_best_68 : decode cX9_best 68 = .ok (.iload_n 2, 1) := by decide +kernel
theorem dX9_best_69 : decode cX9_best 69 = .ok (.if_icmp .ge 144, 3) := by decide +kernel
theorem dX9_best_72 : decode cX9_best 72 = .ok (.iconst 1, 1) := by decide +kernel
theorem dX9_best_73 : decode cX9_best 73 = .ok (.istore 4, 2) := by decide +kernel
theorem dX9_best_75 : decode cX9_best 75 = .ok (.iconst 0, 1) := by decide +kernel
theorem dX9_best_76 : decode cX9_best 76 = .ok (.istore 5, 2) := by decide +kernel
theorem dX9_best_78 : decode cX9_best 78 = .ok (.iload 5, 2) := by decide +kernel
theorem dX9_best_80 : decode cX9_best 80 = .ok (.aload_n 0, 1) := by decide +kernel
theorem dX9_best_81 : decode cX9_best 81 = .ok (.getfield 151, 3) := by decide +kernel
theorem dX9_best_84 : decode cX9_best 84 = .ok (.if_icmp .ge 46, 3) := by decide +kernel
theorem dX9_best_87 : decode cX9_best 87 = .ok (.iload 4, 2) := by decide +kernel
theorem dX9_best_89 : decode cX9_best 89 = .ok (.ifCond .eq 32, 3) := by decide +kernel
theorem dX9_best_92 : decode cX9_best 92 = .ok (.iload_n 1, 1) := by decide +kernel
theorem dX9_best_93 : decode cX9_best 93 = .ok (.ifCond .eq 15, 3) := by decide +kernel
theorem dX9_best_96 : decode cX9_best 96 = .ok (.aload_n 0, 1) := by decide +kernel
theorem dX9_best_97 : decode cX9_best 97 = .ok (.iload 5, 2) := by decide +kernel
theorem dX9_best_99 : decode cX9_best 99 = .ok (.invokevirtual 348, 3) := by decide +kernel
theorem dX9_best_102 : decode cX9_best 102 = .ok (.ifCond .eq 19, 3) := by decide +kernel
theorem dX9_best_105 : decode cX9_best 105 = .ok (.goto 12, 3) := by decide +kernel
theorem dX9_best_108 : decode cX9_best 108 = .ok (.aload_n 0, 1) := by decide +kernel
theorem dX9_best_109 : decode cX9_best 109 = .ok (.iload 5, 2) := by decide +kernel
theorem dX9_best_111 : decode cX9_best 111 = .ok (.invokevirtual 330, 3) := by decide +kernel
theorem dX9_best_114 : decode cX9_best 114 = .ok (.ifCond .eq 7, 3) := by decide +kernel
theorem dX9_best_117 : decode cX9_best 117 = .ok (.iconst 1, 1) := by decide +kernel
theorem dX9_best_118 : decode cX9_best 118 = .ok (.goto 4, 3) := by decide +kernel
theorem dX9_best_121 : decode cX9_best 121 = .ok (.iconst 0, 1) := by decide +kernel
theorem dX9_best_122 : decode cX9_best 122 = .ok (.istore 4, 2) := by decide +kernel
theorem dX9_best_124 : decode cX9_best 124 = .ok (.iinc 5 1, 3) := by decide +kernel
theorem dX9_best_127 : decode cX9_best 127 = .ok (.goto (-49), 3) := by decide +kernel
theorem dX9_best_130 : decode cX9_best 130 = .ok (.aload_n 0, 1) := by decide +kernel
theorem dX9_best_131 : decode cX9_best 131 = .ok (.iload_n 1, 1) := by decide +kernel
theorem dX9_best_132 : decode cX9_best 132 = .ok (.invokevirtual 351, 3) := by decide +kernel
theorem dX9_best_135 : decode cX9_best 135 = .ok (.lstore 5, 2) := by decide +kernel
theorem dX9_best_137 : decode cX9_best 137 = .ok (.iload 4, 2) := by decide +kernel
theorem dX9_best_139 : decode cX9_best 139 = .ok (.ifCond .eq 63, 3) := by decide +kernel
theorem dX9_best_142 : decode cX9_best 142 = .ok (.aload_n 0, 1) := by decide +kernel
theorem dX9_best_143 : decode cX9_best 143 = .ok (.getfield 120, 3) := by decide +kernel
theorem dX9_best_146 : decode cX9_best 146 = .ok (.ifCond .eq 13, 3) := by decide +kernel
theorem dX9_best_149 : decode cX9_best 149 = .ok (.lload 5, 2) := by decide +kernel
theorem dX9_best_151 : decode cX9_best 151 = .ok (.aload_n 0, 1) := by decide +kernel
theorem dX9_best_152 : decode cX9_best 152 = .ok (.getfield 355, 3) := by decide +kernel
theorem dX9_best_155 : decode cX9_best 155 = .ok (.lcmp, 1) := by decide +kernel
theorem dX9_best_156 : decode cX9_best 156 = .ok (.ifCond .ge 46, 3) := by decide +kernel
theorem dX9_best_159 : decode cX9_best 159 = .ok (.aload_n 0, 1) := by decide +kernel
theorem dX9_best_160 : decode cX9_best 160 = .ok (.iconst 1, 1) := by decide +kernel
theorem dX9_best_161 : decode cX9_best 161 = .ok (.putfield 120, 3) := by decide +kernel
theorem dX9_best_164 : decode cX9_best 164 = .ok (.aload_n 0, 1) := by decide +kernel
theorem dX9_best_165 : decode cX9_best 165 = .ok (.lload 5, 2) := by decide +kernel
theorem dX9_best_167 : decode cX9_best 167 = .ok (.putfield 355, 3) := by decide +kernel
theorem dX9_best_170 : decode cX9_best 170 = .ok (.iconst 0, 1) := by decide +kernel
theorem dX9_best_171 : decode cX9_best 171 = .ok (.istore 7, 2) := by decide +kernel
theorem dX9_best_173 : decode cX9_best 173 = .ok (.iload 7, 2) := by decide +kernel
theorem dX9_best_175 : decode cX9_best 175 = .ok (.aload_n 0, 1) := by decide +kernel
theorem dX9_best_176 : decode cX9_best 176 = .ok (.getfield 141, 3) := by decide +kernel
theorem dX9_best_179 : decode cX9_best 179 = .ok (.if_icmp .ge 23, 3) := by decide +kernel
theorem dX9_best_182 : decode cX9_best 182 = .ok (.aload_n 0, 1) := by decide +kernel
theorem dX9_best_183 : decode cX9_best 183 = .ok (.getfield 96, 3) := by decide +kernel
theorem dX9_best_186 : decode cX9_best 186 = .ok (.iload 7, 2) := by decide +kernel
theorem dX9_best_188 : decode cX9_best 188 = .ok (.aload_n 0, 1) := by decide +kernel
theorem dX9_best_189 : decode cX9_best 189 = .ok (.getfield 99, 3) := by decide +kernel
theorem dX9_best_192 : decode cX9_best 192 = .ok (.iload 7, 2) := by decide +kernel
theorem dX9_best_194 : decode cX9_best 194 = .ok (.iaload, 1) := by decide +kernel
theorem dX9_best_195 : decode cX9_best 195 = .ok (.iastore, 1) := by decide +kernel
theorem dX9_best_196 : decode cX9_best 196 = .ok (.iinc 7 1, 3) := by decide +kernel
theorem dX9_best_199 : decode cX9_best 199 = .ok (.goto (-26), 3) := by decide +kernel
theorem dX9_best_202 : decode cX9_best 202 = .ok (.aload_n 0, 1) := by decide +kernel
theorem dX9_best_203 : decode cX9_best 203 = .ok (.iload_n 1, 1) := by decide +kernel
theorem dX9_best_204 : decode cX9_best 204 = .ok (.invokevirtual 333, 3) := by decide +kernel
theorem dX9_best_207 : decode cX9_best 207 = .ok (.iinc 3 1, 3) := by decide +kernel
theorem dX9_best_210 : decode cX9_best 210 = .ok (.goto (-143), 3) := by decide +kernel
theorem dX9_best_213 : decode cX9_best 213 = .ok (.aload_n 0, 1) := by decide +kernel
theorem dX9_best_214 : decode cX9_best 214 = .ok (.getfield 120, 3) := by decide +kernel
theorem dX9_best_217 : decode cX9_best 217 = .ok (.ifCond .eq 7, 3) := by decide +kernel
theorem dX9_best_220 : decode cX9_best 220 = .ok (.iconst 1, 1) := by decide +kernel
theorem dX9_best_221 : decode cX9_best 221 = .ok (.goto 4, 3) := by decide +kernel
theorem dX9_best_224 : decode cX9_best 224 = .ok (.iconst 0, 1) := by decide +kernel
theorem dX9_best_225 : decode cX9_best 225 = .ok (.ireturn, 1) := by decide +kernel
theorem dX9_bestValue_0 : decode cX9_bestValue 0 = .ok (.aload_n 0, 1) := by decide +kernel
theorem dX9_bestValue_1 : decode cX9_bestValue 1 = .ok (.aload_n 0, 1) := by decide +kernel
theorem dX9_bestValue_2 : decode cX9_bestValue 2 = .ok (.getfield 120, 3) := by decide +kernel
theorem dX9_bestValue_5 : decode cX9_bestValue 5 = .ok (.ifCond .ne 7, 3) := by decide +kernel
theorem dX9_bestValue_8 : decode cX9_bestValue 8 = .ok (.iconst 1, 1) := by decide +kernel
theorem dX9_bestValue_9 : decode cX9_bestValue 9 = .ok (.goto 4, 3) := by decide +kernel
theorem dX9_bestValue_12 : decode cX9_bestValue 12 = .ok (.iconst 0, 1) := by decide +kernel
theorem dX9_bestValue_13 : decode cX9_bestValue 13 = .ok (.iconst 0, 1) := by decide +kernel
theorem dX9_bestValue_14 : decode cX9_bestValue 14 = .ok (.invokevirtual 144, 3) := by decide +kernel
theorem dX9_bestValue_17 : decode cX9_bestValue 17 = .ok (.ifCond .eq 10, 3) := by decide +kernel
theorem dX9_bestValue_20 : decode cX9_bestValue 20 = .ok (.aload_n 0, 1) := by decide +kernel
theorem dX9_bestValue_21 : decode cX9_bestValue 21 = .ok (.getfield 355, 3) := by decide +kernel
theorem dX9_bestValue_24 : decode cX9_bestValue 24 = .ok (.goto 4, 3) := by decide +kernel
theorem dX9_bestValue_27 : decode cX9_bestValue 27 = .ok (.lconst 0, 1) := by decide +kernel
theorem dX9_bestValue_28 : decode cX9_bestValue 28 = .ok (.lreturn, 1) := by decide +kernel
theorem dX9_bestAt_0 : decode cX9_bestAt 0 = .ok (.aload_n 0, 1) := by decide +kernel
theorem dX9_bestAt_1 : decode cX9_bestAt 1 = .ok (.aload_n 0, 1) := by decide +kernel
theorem dX9_bestAt_2 : decode cX9_bestAt 2 = .ok (.getfield 120, 3) := by decide +kernel
theorem dX9_bestAt_5 : decode cX9_bestAt 5 = .ok (.ifCond .ne 7, 3) := by decide +kernel
theorem dX9_bestAt_8 : decode cX9_bestAt 8 = .ok (.iconst 1, 1) := by decide +kernel
theorem dX9_bestAt_9 : decode cX9_bestAt 9 = .ok (.goto 4, 3) := by decide +kernel
theorem dX9_bestAt_12 : decode cX9_bestAt 12 = .ok (.iconst 0, 1) := by decide +kernel
theorem dX9_bestAt_13 : decode cX9_bestAt 13 = .ok (.aload_n 0, 1) := by decide +kernel
theorem dX9_bestAt_14 : decode cX9_bestAt 14 = .ok (.iload_n 1, 1) := by decide +kernel
theorem dX9_bestAt_15 : decode cX9_bestAt 15 = .ok (.invokevirtual 162, 3) := by decide +kernel
theorem dX9_bestAt_18 : decode cX9_bestAt 18 = .ok (.ifCond .ne 7, 3) := by decide +kernel
theorem dX9_bestAt_21 : decode cX9_bestAt 21 = .ok (.iconst 1, 1) := by decide +kernel
theorem dX9_bestAt_22 : decode cX9_bestAt 22 = .ok (.goto 4, 3) := by decide +kernel
theorem dX9_bestAt_25 : decode cX9_bestAt 25 = .ok (.iconst 0, 1) := by decide +kernel
theorem dX9_bestAt_26 : decode cX9_bestAt 26 = .ok (.invokevirtual 144, 3) := by decide +kernel
theorem dX9_bestAt_29 : decode cX9_bestAt 29 = .ok (.ifCond .eq 12, 3) := by decide +kernel
theorem dX9_bestAt_32 : decode cX9_bestAt 32 = .ok (.aload_n 0, 1) := by decide +kernel
theorem dX9_bestAt_33 : decode cX9_bestAt 33 = .ok (.getfield 96, 3) := by decide +kernel
theorem dX9_bestAt_36 : decode cX9_bestAt 36 = .ok (.iload_n 1, 1) := by decide +kernel
theorem dX9_bestAt_37 : decode cX9_bestAt 37 = .ok (.iaload, 1) := by decide +kernel
theorem dX9_bestAt_38 : decode cX9_bestAt 38 = .ok (.goto 4, 3) := by decide +kernel
theorem dX9_bestAt_41 : decode cX9_bestAt 41 = .ok (.iconst 0, 1) := by decide +kernel
theorem dX9_bestAt_42 : decode cX9_bestAt 42 = .ok (.ireturn, 1) := by decide +kernel
theorem dX8_column_0 : decode cX8_column 0 = .ok (.aload_n 0, 1) := by decide +kernel
theorem dX8_column_1 : decode cX8_column 1 = .ok (.getfield 10, 3) := by decide +kernel
theorem dX8_column_4 : decode cX8_column 4 = .ok (.getfield 58, 3) := by decide +kernel
theorem dX8_column_7 : decode cX8_column 7 = .ok (.bipush 12, 2) := by decide +kernel
theorem dX8_column_9 : decode cX8_column 9 = .ok (.if_icmp .lt 13, 3) := by decide +kernel
theorem dX8_column_12 : decode cX8_column 12 = .ok (.new 62, 3) := by decide +kernel
theorem dX8_column_15 : decode cX8_column 15 = .ok (.dup, 1) := by decide +kernel
theorem dX8_column_16 : decode cX8_column 16 = .ok (.ldc 64, 2) := by decide +kernel
theorem dX8_column_18 : decode cX8_column 18 = .ok (.invokespecial 66, 3) := by decide +kernel
theorem dX8_column_21 : decode cX8_column 21 = .ok (.athrow, 1) := by decide +kernel
theorem dX8_column_22 : decode cX8_column 22 = .ok (.iload_n 1, 1) := by decide +kernel
theorem dX8_column_23 : decode cX8_column 23 = .ok (.i2l, 1) := by decide +kernel
theorem dX8_column_24 : decode cX8_column 24 = .ok (.ldc2_w 69, 3) := by decide +kernel
theorem dX8_column_27 : decode cX8_column 27 = .ok (.invokestatic 71, 3) := by decide +kernel
theorem dX8_column_30 : decode cX8_column 30 = .ok (.ifCond .ne 30, 3) := by decide +kernel
theorem dX8_column_33 : decode cX8_column 33 = .ok (.iload_n 2, 1) := by decide +kernel
theorem dX8_column_34 : decode cX8_column 34 = .ok (.i2l, 1) := by decide +kernel
theorem dX8_column_35 : decode cX8_column 35 = .ok (.ldc2_w 69, 3) := by decide +kernel
theorem dX8_column_38 : decode cX8_column 38 = .ok (.invokestatic 71, 3) := by decide +kernel
theorem dX8_column_41 : decode cX8_column 41 = .ok (.ifCond .ne 19, 3) := by decide +kernel
theorem dX8_column_44 : decode cX8_column 44 = .ok (.iload_n 1, 1) := by decide +kernel
theorem dX8_column_45 : decode cX8_column 45 = .ok (.iload_n 2, 1) := by decide +kernel
theorem dX8_column_46 : decode cX8_column 46 = .ok (.if_icmp .gt 14, 3) := by decide +kernel
theorem dX8_column_49 : decode cX8_column 49 = .ok (.iload_n 3, 1) := by decide +kernel
theorem dX8_column_50 : decode cX8_column 50 = .ok (.i2l, 1) := by decide +kernel
theorem dX8_column_51 : decode cX8_column 51 = .ok (.ldc2_w 75, 3) := by decide +kernel
theorem dX8_column_54 : decode cX8_column 54 = .ok (.invokestatic 71, 3) := by decide +kernel
theorem dX8_column_57 : decode cX8_column 57 = .ok (.ifCond .eq 13, 3) := by decide +kernel
theorem dX8_column_60 : decode cX8_column 60 = .ok (.new 77, 3) := by decide +kernel
theorem dX8_column_63 : decode cX8_column 63 = .ok (.dup, 1) := by decide +kernel
theorem dX8_column_64 : decode cX8_column 64 = .ok (.ldc 79, 2) := by decide +kernel
theorem dX8_column_66 : decode cX8_column 66 = .ok (.invokespecial 81, 3) := by decide +kernel
theorem dX8_column_69 : decode cX8_column 69 = .ok (.athrow, 1) := by decide +kernel
theorem dX8_column_70 : decode cX8_column 70 = .ok (.aload_n 0, 1) := by decide +kernel
theorem dX8_column_71 : decode cX8_column 71 = .ok (.invokevirtual 82, 3) := by decide +kernel
theorem dX8_column_74 : decode cX8_column 74 = .ok (.aload_n 0, 1) := by decide +kernel
theorem dX8_column_75 : decode cX8_column 75 = .ok (.getfield 10, 3) := by decide +kernel
theorem dX8_column_78 : decode cX8_column 78 = .ok (.getfield 58, 3) := by decide +kernel
theorem dX8_column_81 : decode cX8_column 81 = .ok (.istore 4, 2) := by decide +kernel
theorem dX8_column_83 : decode cX8_column 83 = .ok (.aload_n 0, 1) := by decide +kernel
theorem dX8_column_84 : decode cX8_column 84 = .ok (.getfield 10, 3) := by decide +kernel
theorem dX8_column_87 : decode cX8_column 87 = .ok (.getfield 85, 3) := by decide +kernel
theorem dX8_column_90 : decode cX8_column 90 = .ok (.iload 4, 2) := by decide +kernel
theorem dX8_column_92 : decode cX8_column 92 = .ok (.iload_n 1, 1) := by decide +kernel
theorem dX8_column_93 : decode cX8_column 93 = .ok (.i2l, 1) := by decide +kernel
theorem dX8_column_94 : decode cX8_column 94 = .ok (.lastore, 1) := by decide +kernel
theorem dX8_column_95 : decode cX8_column 95 = .ok (.aload_n 0, 1) := by decide +kernel
theorem dX8_column_96 : decode cX8_column 96 = .ok (.getfield 10, 3) := by decide +kernel
theorem dX8_column_99 : decode cX8_column 99 = .ok (.getfield 88, 3) := by decide +kernel
theorem dX8_column_102 : decode cX8_column 102 = .ok (.iload 4, 2) := by decide +kernel
theorem dX8_column_104 : decode cX8_column 104 = .ok (.iload_n 2, 1) := by decide +kernel
theorem dX8_column_105 : decode cX8_column 105 = .ok (.i2l, 1) := by decide +kernel
theorem dX8_column_106 : decode cX8_column 106 = .ok (.lastore, 1) := by decide +kernel
theorem dX8_column_107 : decode cX8_column 107 = .ok (.aload_n 0, 1) := by decide +kernel
theorem dX8_column_108 : decode cX8_column 108 = .ok (.getfield 10, 3) := by decide +kernel
theorem dX8_column_111 : decode cX8_column 111 = .ok (.getfield 91, 3) := by decide +kernel
theorem dX8_column_114 : decode cX8_column 114 = .ok (.iload 4, 2) := by decide +kernel
theorem dX8_column_116 : decode cX8_column 116 = .ok (.iload_n 3, 1) := by decide +kernel
theorem dX8_column_117 : decode cX8_column 117 = .ok (.i2l, 1) := by decide +kernel
theorem dX8_column_118 : decode cX8_column 118 = .ok (.lastore, 1) := by decide +kernel
theorem dX8_column_119 : decode cX8_column 119 = .ok (.aload_n 0, 1) := by decide +kernel
theorem dX8_column_120 : decode cX8_column 120 = .ok (.getfield 10, 3) := by decide +kernel
theorem dX8_column_123 : decode cX8_column 123 = .ok (.iload 4, 2) := by decide +kernel
theorem dX8_column_125 : decode cX8_column 125 = .ok (.iconst 1, 1) := by decide +kernel
theorem dX8_column_126 : decode cX8_column 126 = .ok (.iadd, 1) := by decide +kernel
theorem dX8_column_127 : decode cX8_column 127 = .ok (.putfield 58, 3) := by decide +kernel
theorem dX8_column_130 : decode cX8_column 130 = .ok (.iload 4, 2) := by decide +kernel
theorem dX8_column_132 : decode cX8_column 132 = .ok (.ireturn, 1) := by decide +kernel
theorem dX8_row_0 : decode cX8_row 0 = .ok (.aload_n 0, 1) := by decide +kernel
theorem dX8_row_1 : decode cX8_row 1 = .ok (.getfield 10, 3) := by decide +kernel
theorem dX8_row_4 : decode cX8_row 4 = .ok (.getfield 94, 3) := by decide +kernel
theorem dX8_row_7 : decode cX8_row 7 = .ok (.bipush 12, 2) := by decide +kernel
theorem dX8_row_9 : decode cX8_row 9 = .ok (.if_icmp .lt 13, 3) := by decide +kernel
theorem dX8_row_12 : decode cX8_row 12 = .ok (.new 62, 3) := by decide +kernel
theorem dX8_row_15 : decode cX8_row 15 = .ok (.dup, 1) := by decide +kernel
theorem dX8_row_16 : decode cX8_row 16 = .ok (.ldc 97, 2) := by decide +kernel
theorem dX8_row_18 : decode cX8_row 18 = .ok (.invokespecial 66, 3) := by decide +kernel
theorem dX8_row_21 : decode cX8_row 21 = .ok (.athrow, 1) := by decide +kernel
theorem dX8_row_22 : decode cX8_row 22 = .ok (.iload_n 1, 1) := by decide +kernel
theorem dX8_row_23 : decode cX8_row 23 = .ok (.ifCond .eq 8, 3) := by decide +kernel
theorem dX8_row_26 : decode cX8_row 26 = .ok (.iload_n 1, 1) := by decide +kernel
theorem dX8_row_27 : decode cX8_row 27 = .ok (.iconst 1, 1) := by decide +kernel
theorem dX8_row_28 : decode cX8_row 28 = .ok (.if_icmp .ne 14, 3) := by decide +kernel
theorem dX8_row_31 : decode cX8_row 31 = .ok (.iload_n 2, 1) := by decide +kernel
theorem dX8_row_32 : decode cX8_row 32 = .ok (.i2l, 1) := by decide +kernel
theorem dX8_row_33 : decode cX8_row 33 = .ok (.ldc2_w 99, 3) := by decide +kernel
theorem dX8_row_36 : decode cX8_row 36 = .ok (.invokestatic 71, 3) := by decide +kernel
theorem dX8_row_39 : decode cX8_row 39 = .ok (.ifCond .eq 13, 3) := by decide +kernel
theorem dX8_row_42 : decode cX8_row 42 = .ok (.new 77, 3) := by decide +kernel
theorem dX8_row_45 : decode cX8_row 45 = .ok (.dup, 1) := by decide +kernel
theorem dX8_row_46 : decode cX8_row 46 = .ok (.ldc 101, 2) := by decide +kernel
theorem dX8_row_48 : decode cX8_row 48 = .ok (.invokespecial 81, 3) := by decide +kernel
theorem dX8_row_51 : decode cX8_row 51 = .ok (.athrow, 1) := by decide +kernel
theorem dX8_row_52 : decode cX8_row 52 = .ok (.aload_n 0, 1) := by decide +kernel
theorem dX8_row_53 : decode cX8_row 53 = .ok (.invokevirtual 82, 3) := by decide +kernel
theorem dX8_row_56 : decode cX8_row 56 = .ok (.aload_n 0, 1) := by decide +kernel
theorem dX8_row_57 : decode cX8_row 57 = .ok (.getfield 10, 3) := by decide +kernel
theorem dX8_row_60 : decode cX8_row 60 = .ok (.getfield 94, 3) := by decide +kernel
theorem dX8_row_63 : decode cX8_row 63 = .ok (.istore_n 3, 1) := by decide +kernel
theorem dX8_row_64 : decode cX8_row 64 = .ok (.aload_n 0, 1) := by decide +kernel
theorem dX8_row_65 : decode cX8_row 65 = .ok (.getfield 10, 3) := by decide +kernel
theorem dX8_row_68 : decode cX8_row 68 = .ok (.getfield 103, 3) := by decide +kernel
theorem dX8_row_71 : decode cX8_row 71 = .ok (.iload_n 3, 1) := by decide +kernel
theorem dX8_row_72 : decode cX8_row 72 = .ok (.iload_n 1, 1) := by decide +kernel
theorem dX8_row_73 : decode cX8_row 73 = .ok (.iastore, 1) := by decide +kernel
theorem dX8_row_74 : decode cX8_row 74 = .ok (.aload_n 0, 1) := by decide +kernel
theorem dX8_row_75 : decode cX8_row 75 = .ok (.getfield 10, 3) := by decide +kernel
theorem dX8_row_78 : decode cX8_row 78 = .ok (.getfield 107, 3) := by decide +kernel
theorem dX8_row_81 : decode cX8_row 81 = .ok (.iload_n 3, 1) := by decide +kernel
theorem dX8_row_82 : decode cX8_row 82 = .ok (.iload_n 2, 1) := by decide +kernel
theorem dX8_row_83 : decode cX8_row 83 = .ok (.i2l, 1) := by decide +kernel
theorem dX8_row_84 : decode cX8_row 84 = .ok (.lastore, 1) := by decide +kernel
theorem dX8_row_85 : decode cX8_row 85 = .ok (.aload_n 0, 1) := by decide +kernel
theorem dX8_row_86 : decode cX8_row 86 = .ok (.getfield 10, 3) := by decide +kernel
theorem dX8_row_89 : decode cX8_row 89 = .ok (.iload_n 3, 1) := by decide +kernel
theorem dX8_row_90 : decode cX8_row 90 = .ok (.iconst 1, 1) := by decide +kernel
theorem dX8_row_91 : decode cX8_row 91 = .ok (.iadd, 1) := by decide +kernel
theorem dX8_row_92 : decode cX8_row 92 = .ok (.putfield 94, 3) := by decide +kernel
theorem dX8_row_95 : decode cX8_row 95 = .ok (.iload_n 3, 1) := by decide +kernel
theorem dX8_row_96 : decode cX8_row 96 = .ok (.ireturn, 1) := by decide +kernel
theorem dX8_needRow_0 : decode cX8_needRow 0 = .ok (.iload_n 1, 1) := by decide +kernel
theorem dX8_needRow_1 : decode cX8_needRow 1 = .ok (.ifCond .lt 14, 3) := by decide +kernel
theorem dX8_needRow_4 : decode cX8_needRow 4 = .ok (.iload_n 1, 1) := by decide +kernel
theorem dX8_needRow_5 : decode cX8_needRow 5 = .ok (.aload_n 0, 1) := by decide +kernel
theorem dX8_needRow_6 : decode cX8_needRow 6 = .ok (.getfield 10, 3) := by decide +kernel
theorem dX8_needRow_9 : decode cX8_needRow 9 = .ok (.getfield 94, 3) := by decide +kernel
theorem dX8_needRow_12 : decode cX8_needRow 12 = .ok (.if_icmp .lt 14, 3) := by decide +kernel
theorem dX8_needRow_15 : decode cX8_needRow 15 = .ok (.new 206, 3) := by decide +kernel
theorem dX8_needRow_18 : decode cX8_needRow 18 = .ok (.dup, 1) := by decide +kernel
theorem dX8_needRow_19 : decode cX8_needRow 19 = .ok (.ldc_w 271, 3) := by decide +kernel
theorem dX8_needRow_22 : decode cX8_needRow 22 = .ok (.invokespecial 210, 3) := by decide +kernel
theorem dX8_needRow_25 : decode cX8_needRow 25 = .ok (.athrow, 1) := by decide +kernel
theorem dX8_needRow_26 : decode cX8_needRow 26 = .ok (.return_, 1) := by decide +kernel
theorem dX8_needColumn_0 : decode cX8_needColumn 0 = .ok (.iload_n 1, 1) := by decide +kernel
theorem dX8_needColumn_1 : decode cX8_needColumn 1 = .ok (.ifCond .lt 14, 3) := by decide +kernel
theorem dX8_needColumn_4 : decode cX8_needColumn 4 = .ok (.iload_n 1, 1) := by decide +kernel
theorem dX8_needColumn_5 : decode cX8_needColumn 5 = .ok (.aload_n 0, 1) := by decide +kernel
theorem dX8_needColumn_6 : decode cX8_needColumn 6 = .ok (.getfield 10, 3) := by decide +kernel
theorem dX8_needColumn_9 : decode cX8_needColumn 9 = .ok (.getfield 58, 3) := by decide +kernel
theorem dX8_needColumn_12 : decode cX8_needColumn 12 = .ok (.if_icmp .lt 14, 3) := by decide +kernel
theorem dX8_needColumn_15 : decode cX8_needColumn 15 = .ok (.new 206, 3) := by decide +kernel
theorem dX8_needColumn_18 : decode cX8_needColumn 18 = .ok (.dup, 1) := by decide +kernel
theorem dX8_needColumn_19 : decode cX8_needColumn 19 = .ok (.ldc_w 269, 3) := by decide +kernel
theorem dX8_needColumn_22 : decode cX8_needColumn 22 = .ok (.invokespecial 210, 3) := by decide +kernel
theorem dX8_needColumn_25 : decode cX8_needColumn 25 = .ok (.athrow, 1) := by decide +kernel
theorem dX8_needColumn_26 : decode cX8_needColumn 26 = .ok (.return_, 1) := by decide +kernel
theorem dX8_term_0 : decode cX8_term 0 = .ok (.aload_n 0, 1) := by decide +kernel
theorem dX8_term_1 : decode cX8_term 1 = .ok (.iload_n 1, 1) := by decide +kernel
theorem dX8_term_2 : decode cX8_term 2 = .ok (.invokevirtual 110, 3) := by decide +kernel
theorem dX8_term_5 : decode cX8_term 5 = .ok (.aload_n 0, 1) := by decide +kernel
theorem dX8_term_6 : decode cX8_term 6 = .ok (.iload_n 2, 1) := by decide +kernel
theorem dX8_term_7 : decode cX8_term 7 = .ok (.invokevirtual 114, 3) := by decide +kernel
theorem dX8_term_10 : decode cX8_term 10 = .ok (.iload_n 3, 1) := by decide +kernel
theorem dX8_term_11 : decode cX8_term 11 = .ok (.i2l, 1) := by decide +kernel
theorem dX8_term_12 : decode cX8_term 12 = .ok (.ldc2_w 75, 3) := by decide +kernel
theorem dX8_term_15 : decode cX8_term 15 = .ok (.invokestatic 71, 3) := by decide +kernel
theorem dX8_term_18 : decode cX8_term 18 = .ok (.ifCond .eq 13, 3) := by decide +kernel
theorem dX8_term_21 : decode cX8_term 21 = .ok (.new 77, 3) := by decide +kernel
theorem dX8_term_24 : decode cX8_term 24 = .ok (.dup, 1) := by decide +kernel
theorem dX8_term_25 : decode cX8_term 25 = .ok (.ldc 117, 2) := by decide +kernel
theorem dX8_term_27 : decode cX8_term 27 = .ok (.invokespecial 81, 3) := by decide +kernel
theorem dX8_term_30 : decode cX8_term 30 = .ok (.athrow, 1) := by decide +kernel
theorem dX8_term_31 : decode cX8_term 31 = .ok (.aload_n 0, 1) := by decide +kernel
theorem dX8_term_32 : decode cX8_term 32 = .ok (.invokevirtual 82, 3) := by decide +kernel
theorem dX8_term_35 : decode cX8_term 35 = .ok (.aload_n 0, 1) := by decide +kernel
theorem dX8_term_36 : decode cX8_term 36 = .ok (.getfield 10, 3) := by decide +kernel
theorem dX8_term_39 : decode cX8_term 39 = .ok (.getfield 119, 3) := by decide +kernel
theorem dX8_term_42 : decode cX8_term 42 = .ok (.iload_n 1, 1) := by decide +kernel
theorem dX8_term_43 : decode cX8_term 43 = .ok (.aaload, 1) := by decide +kernel
theorem dX8_term_44 : decode cX8_term 44 = .ok (.iload_n 2, 1) := by decide +kernel
theorem dX8_term_45 : decode cX8_term 45 = .ok (.iload_n 3, 1) := by decide +kernel
theorem dX8_term_46 : decode cX8_term 46 = .ok (.i2l, 1) := by decide +kernel
theorem dX8_term_47 : decode cX8_term 47 = .ok (.lastore, 1) := by decide +kernel
theorem dX8_term_48 : decode cX8_term 48 = .ok (.return_, 1) := by decide +kernel
theorem dX8_shrink_0 : decode cX8_shrink 0 = .ok (.iload_n 1, 1) := by decide +kernel
theorem dX8_shrink_1 : decode cX8_shrink 1 = .ok (.ifCond .lt 21, 3) := by decide +kernel
theorem dX8_shrink_4 : decode cX8_shrink 4 = .ok (.iload_n 1, 1) := by decide +kernel
theorem dX8_shrink_5 : decode cX8_shrink 5 = .ok (.sipush 2047, 3) := by decide +kernel
theorem dX8_shrink_8 : decode cX8_shrink 8 = .ok (.if_icmp .gt 14, 3) := by decide +kernel
theorem dX8_shrink_11 : decode cX8_shrink 11 = .ok (.iload_n 2, 1) := by decide +kernel
theorem dX8_shrink_12 : decode cX8_shrink 12 = .ok (.iconst 1, 1) := by decide +kernel
theorem dX8_shrink_13 : decode cX8_shrink 13 = .ok (.if_icmp .lt 9, 3) := by decide +kernel
theorem dX8_shrink_16 : decode cX8_shrink 16 = .ok (.iload_n 2, 1) := by decide +kernel
theorem dX8_shrink_17 : decode cX8_shrink 17 = .ok (.bipush 50, 2) := by decide +kernel
theorem dX8_shrink_19 : decode cX8_shrink 19 = .ok (.if_icmp .le 13, 3) := by decide +kernel
theorem dX8_shrink_22 : decode cX8_shrink 22 = .ok (.new 77, 3) := by decide +kernel
theorem dX8_shrink_25 : decode cX8_shrink 25 = .ok (.dup, 1) := by decide +kernel
theorem dX8_shrink_26 : decode cX8_shrink 26 = .ok (.ldc 126, 2) := by decide +kernel
theorem dX8_shrink_28 : decode cX8_shrink 28 = .ok (.invokespecial 81, 3) := by decide +kernel
theorem dX8_shrink_31 : decode cX8_shrink 31 = .ok (.athrow, 1) := by decide +kernel
theorem dX8_shrink_32 : decode cX8_shrink 32 = .ok (.aload_n 0, 1) := by decide +kernel
theorem dX8_shrink_33 : decode cX8_shrink 33 = .ok (.invokevirtual 128, 3) := by decide +kernel
theorem dX8_shrink_36 : decode cX8_shrink 36 = .ok (.aload_n 0, 1) := by decide +kernel
theorem dX8_shrink_37 : decode cX8_shrink 37 = .ok (.iconst 1, 1) := by decide +kernel
theorem dX8_shrink_38 : decode cX8_shrink 38 = .ok (.putfield 131, 3) := by decide +kernel
theorem dX8_shrink_41 : decode cX8_shrink 41 = .ok (.aload_n 0, 1) := by decide +kernel
theorem dX8_shrink_42 : decode cX8_shrink 42 = .ok (.getfield 19, 3) := by decide +kernel
theorem dX8_shrink_45 : decode cX8_shrink 45 = .ok (.aload_n 0, 1) := by decide +kernel
theorem dX8_shrink_46 : decode cX8_shrink 46 = .ok (.getfield 10, 3) := by decide +kernel
theorem dX8_shrink_49 : decode cX8_shrink 49 = .ok (.invokevirtual 135, 3) := by decide +kernel
theorem dX8_shrink_52 : decode cX8_shrink 52 = .ok (.iconst 0, 1) := by decide +kernel
theorem dX8_shrink_53 : decode cX8_shrink 53 = .ok (.istore_n 3, 1) := by decide +kernel
theorem dX8_shrink_54 : decode cX8_shrink 54 = .ok (.iconst 1, 1) := by decide +kernel
theorem dX8_shrink_55 : decode cX8_shrink 55 = .ok (.istore 4, 2) := by decide +kernel
theorem dX8_shrink_57 : decode cX8_shrink 57 = .ok (.iload_n 3, 1) := by decide +kernel
theorem dX8_shrink_58 : decode cX8_shrink 58 = .ok (.iload_n 2, 1) := by decide +kernel
theorem dX8_shrink_59 : decode cX8_shrink 59 = .ok (.if_icmp .ge 61, 3) := by decide +kernel
theorem dX8_shrink_62 : decode cX8_shrink 62 = .ok (.iload 4, 2) := by decide +kernel
theorem dX8_shrink_64 : decode cX8_shrink 64 = .ok (.ifCond .eq 56, 3) := by decide +kernel
theorem dX8_shrink_67 : decode cX8_shrink 67 = .ok (.aload_n 0, 1) := by decide +kernel
theorem dX8_shrink_68 : decode cX8_shrink 68 = .ok (.getfield 19, 3) := by decide +kernel
theorem dX8_shrink_71 : decode cX8_shrink 71 = .ok (.getfield 138, 3) := by decide +kernel
theorem dX8_shrink_74 : decode cX8_shrink 74 = .ok (.getfield 142, 3) := by decide +kernel
theorem dX8_shrink_77 : decode cX8_shrink 77 = .ok (.istore 5, 2) := by decide +kernel
theorem dX8_shrink_79 : decode cX8_shrink 79 = .ok (.aload_n 0, 1) := by decide +kernel
theorem dX8_shrink_80 : decode cX8_shrink 80 = .ok (.getfield 28, 3) := by decide +kernel
theorem dX8_shrink_83 : decode cX8_shrink 83 = .ok (.iload_n 1, 1) := by decide +kernel
theorem dX8_shrink_84 : decode cX8_shrink 84 = .ok (.invokevirtual 147, 3) := by decide +kernel
theorem dX8_shrink_87 : decode cX8_shrink 87 = .ok (.ifCond .ne 5, 3) := by decide +kernel
theorem dX8_shrink_90 : decode cX8_shrink 90 = .ok (.iconst 0, 1) := by decide +kernel
theorem dX8_shrink_91 : decode cX8_shrink 91 = .ok (.ireturn, 1) := by decide +kernel
theorem dX8_shrink_92 : decode cX8_shrink 92 = .ok (.aload_n 0, 1) := by decide +kernel
theorem dX8_shrink_93 : decode cX8_shrink 93 = .ok (.getfield 19, 3) := by decide +kernel
theorem dX8_shrink_96 : decode cX8_shrink 96 = .ok (.getfield 138, 3) := by decide +kernel
theorem dX8_shrink_99 : decode cX8_shrink 99 = .ok (.getfield 142, 3) := by decide +kernel
theorem dX8_shrink_102 : decode cX8_shrink 102 = .ok (.iload 5, 2) := by decide +kernel
theorem dX8_shrink_104 : decode cX8_shrink 104 = .ok (.if_icmp .le 7, 3) := by decide +kernel
theorem dX8_shrink_107 : decode cX8_shrink 107 = .ok (.iconst 1, 1) := by decide +kernel
theorem dX8_shrink_108 : decode cX8_shrink 108 = .ok (.goto 4, 3) := by decide +kernel
theorem dX8_shrink_111 : decode cX8_shrink 111 = .ok (.iconst 0, 1) := by decide +kernel
theorem dX8_shrink_112 : decode cX8_shrink 112 = .ok (.istore 4, 2) := by decide +kernel
theorem dX8_shrink_114 : decode cX8_shrink 114 = .ok (.iinc 3 1, 3) := by decide +kernel
theorem dX8_shrink_117 : decode cX8_shrink 117 = .ok (.goto (-60), 3) := by decide +kernel
theorem dX8_shrink_120 : decode cX8_shrink 120 = .ok (.iload_n 3, 1) := by decide +kernel
theorem dX8_shrink_121 : decode cX8_shrink 121 = .ok (.ireturn, 1) := by decide +kernel
theorem dX8_needSmall_0 : decode cX8_needSmall 0 = .ok (.aload_n 0, 1) := by decide +kernel
theorem dX8_needSmall_1 : decode cX8_needSmall 1 = .ok (.getfield 131, 3) := by decide +kernel
theorem dX8_needSmall_4 : decode cX8_needSmall 4 = .ok (.ifCond .ne 14, 3) := by decide +kernel
theorem dX8_needSmall_7 : decode cX8_needSmall 7 = .ok (.new 62, 3) := by decide +kernel
theorem dX8_needSmall_10 : decode cX8_needSmall 10 = .ok (.dup, 1) := by decide +kernel
theorem dX8_needSmall_11 : decode cX8_needSmall 11 = .ok (.ldc_w 273, 3) := by decide +kernel
theorem dX8_needSmall_14 : decode cX8_needSmall 14 = .ok (.invokespecial 66, 3) := by decide +kernel
theorem dX8_needSmall_17 : decode cX8_needSmall 17 = .ok (.athrow, 1) := by decide +kernel
theorem dX8_needSmall_18 : decode cX8_needSmall 18 = .ok (.return_, 1) := by decide +kernel
theorem dX8_state_0 : decode cX8_state 0 = .ok (.aload_n 0, 1) := by decide +kernel
theorem dX8_state_1 : decode cX8_state 1 = .ok (.invokevirtual 151, 3) := by decide +kernel
theorem dX8_state_4 : decode cX8_state 4 = .ok (.aload_n 0, 1) := by decide +kernel
theorem dX8_state_5 : decode cX8_state 5 = .ok (.iload_n 1, 1) := by decide +kernel
theorem dX8_state_6 : decode cX8_state 6 = .ok (.invokevirtual 114, 3) := by decide +kernel
theorem dX8_state_9 : decode cX8_state 9 = .ok (.aload_n 0, 1) := by decide +kernel
theorem dX8_state_10 : decode cX8_state 10 = .ok (.getfield 19, 3) := by decide +kernel
theorem dX8_state_13 : decode cX8_state 13 = .ok (.getfield 154, 3) := by decide +kernel
theorem dX8_state_16 : decode cX8_state 16 = .ok (.getfield 157, 3) := by decide +kernel
theorem dX8_state_19 : decode cX8_state 19 = .ok (.iload_n 1, 1) := by decide +kernel
theorem dX8_state_20 : decode cX8_state 20 = .ok (.iaload, 1) := by decide +kernel
theorem dX8_state_21 : decode cX8_state 21 = .ok (.ireturn, 1) := by decide +kernel
theorem dX8_bound_0 : decode cX8_bound 0 = .ok (.aload_n 0, 1) := by decide +kernel
theorem dX8_bound_1 : decode cX8_bound 1 = .ok (.invokevirtual 151, 3) := by decide +kernel
theorem dX8_bound_4 : decode cX8_bound 4 = .ok (.aload_n 0, 1) := by decide +kernel
theorem dX8_bound_5 : decode cX8_bound 5 = .ok (.iload_n 1, 1) := by decide +kernel
theorem dX8_bound_6 : decode cX8_bound 6 = .ok (.invokevirtual 114, 3) := by decide +kernel
theorem dX8_bound_9 : decode cX8_bound 9 = .ok (.iload_n 2, 1) := by decide +kernel
theorem dX8_bound_10 : decode cX8_bound 10 = .ok (.ifCond .eq 18, 3) := by decide +kernel
theorem dX8_bound_13 : decode cX8_bound 13 = .ok (.aload_n 0, 1) := by decide +kernel
theorem dX8_bound_14 : decode cX8_bound 14 = .ok (.getfield 19, 3) := by decide +kernel
theorem dX8_bound_17 : decode cX8_bound 17 = .ok (.getfield 154, 3) := by decide +kernel
theorem dX8_bound_20 : decode cX8_bound 20 = .ok (.getfield 88, 3) := by decide +kernel
theorem dX8_bound_23 : decode cX8_bound 23 = .ok (.iload_n 1, 1) := by decide +kernel
theorem dX8_bound_24 : decode cX8_bound 24 = .ok (.laload, 1) := by decide +kernel
theorem dX8_bound_25 : decode cX8_bound 25 = .ok (.goto 15, 3) := by decide +kernel
theorem dX8_bound_28 : decode cX8_bound 28 = .ok (.aload_n 0, 1) := by decide +kernel
theorem dX8_bound_29 : decode cX8_bound 29 = .ok (.getfield 19, 3) := by decide +kernel
theorem dX8_bound_32 : decode cX8_bound 32 = .ok (.getfield 154, 3) := by decide +kernel
theorem dX8_bound_35 : decode cX8_bound 35 = .ok (.getfield 85, 3) := by decide +kernel
theorem dX8_bound_38 : decode cX8_bound 38 = .ok (.iload_n 1, 1) := by decide +kernel
theorem dX8_bound_39 : decode cX8_bound 39 = .ok (.laload, 1) := by decide +kernel
theorem dX8_bound_40 : decode cX8_bound 40 = .ok (.l2i, 1) := by decide +kernel
theorem dX8_bound_41 : decode cX8_bound 41 = .ok (.ireturn, 1) := by decide +kernel
theorem dX8_cost_0 : decode cX8_cost 0 = .ok (.aload_n 0, 1) := by decide +kernel
theorem dX8_cost_1 : decode cX8_cost 1 = .ok (.invokevirtual 151, 3) := by decide +kernel
theorem dX8_cost_4 : decode cX8_cost 4 = .ok (.aload_n 0, 1) := by decide +kernel
theorem dX8_cost_5 : decode cX8_cost 5 = .ok (.iload_n 1, 1) := by decide +kernel
theorem dX8_cost_6 : decode cX8_cost 6 = .ok (.invokevirtual 114, 3) := by decide +kernel
theorem dX8_cost_9 : decode cX8_cost 9 = .ok (.aload_n 0, 1) := by decide +kernel
theorem dX8_cost_10 : decode cX8_cost 10 = .ok (.getfield 19, 3) := by decide +kernel
theorem dX8_cost_13 : decode cX8_cost 13 = .ok (.getfield 154, 3) := by decide +kernel
theorem dX8_cost_16 : decode cX8_cost 16 = .ok (.iload_n 1, 1) := by decide +kernel
theorem dX8_cost_17 : decode cX8_cost 17 = .ok (.invokevirtual 160, 3) := by decide +kernel
theorem dX8_cost_20 : decode cX8_cost 20 = .ok (.ifCond .eq 19, 3) := by decide +kernel
theorem dX8_cost_23 : decode cX8_cost 23 = .ok (.aload_n 0, 1) := by decide +kernel
theorem dX8_cost_24 : decode cX8_cost 24 = .ok (.getfield 19, 3) := by decide +kernel
theorem dX8_cost_27 : decode cX8_cost 27 = .ok (.getfield 154, 3) := by decide +kernel
theorem dX8_cost_30 : decode cX8_cost 30 = .ok (.getfield 91, 3) := by decide +kernel
theorem dX8_cost_33 : decode cX8_cost 33 = .ok (.iload_n 1, 1) := by decide +kernel
theorem dX8_cost_34 : decode cX8_cost 34 = .ok (.laload, 1) := by decide +kernel
theorem dX8_cost_35 : decode cX8_cost 35 = .ok (.l2i, 1) := by decide +kernel
theorem dX8_cost_36 : decode cX8_cost 36 = .ok (.goto 4, 3) := by decide +kernel
theorem dX8_cost_39 : decode cX8_cost 39 = .ok (.iconst 0, 1) := by decide +kernel
theorem dX8_cost_40 : decode cX8_cost 40 = .ok (.ireturn, 1) := by decide +kernel
theorem dX8_kind_0 : decode cX8_kind 0 = .ok (.aload_n 0, 1) := by decide +kernel
theorem dX8_kind_1 : decode cX8_kind 1 = .ok (.invokevirtual 151, 3) := by decide +kernel
theorem dX8_kind_4 : decode cX8_kind 4 = .ok (.aload_n 0, 1) := by decide +kernel
theorem dX8_kind_5 : decode cX8_kind 5 = .ok (.iload_n 1, 1) := by decide +kernel
theorem dX8_kind_6 : decode cX8_kind 6 = .ok (.invokevirtual 110, 3) := by decide +kernel
theorem dX8_kind_9 : decode cX8_kind 9 = .ok (.aload_n 0, 1) := by decide +kernel
theorem dX8_kind_10 : decode cX8_kind 10 = .ok (.getfield 19, 3) := by decide +kernel
theorem dX8_kind_13 : decode cX8_kind 13 = .ok (.getfield 154, 3) := by decide +kernel
theorem dX8_kind_16 : decode cX8_kind 16 = .ok (.getfield 103, 3) := by decide +kernel
theorem dX8_kind_19 : decode cX8_kind 19 = .ok (.iload_n 1, 1) := by decide +kernel
theorem dX8_kind_20 : decode cX8_kind 20 = .ok (.iaload, 1) := by decide +kernel
theorem dX8_kind_21 : decode cX8_kind 21 = .ok (.ireturn, 1) := by decide +kernel
theorem dX8_right_0 : decode cX8_right 0 = .ok (.aload_n 0, 1) := by decide +kernel
theorem dX8_right_1 : decode cX8_right 1 = .ok (.invokevirtual 151, 3) := by decide +kernel
theorem dX8_right_4 : decode cX8_right 4 = .ok (.aload_n 0, 1) := by decide +kernel
theorem dX8_right_5 : decode cX8_right 5 = .ok (.iload_n 1, 1) := by decide +kernel
theorem dX8_right_6 : decode cX8_right 6 = .ok (.invokevirtual 110, 3) := by decide +kernel
theorem dX8_right_9 : decode cX8_right 9 = .ok (.aload_n 0, 1) := by decide +kernel
theorem dX8_right_10 : decode cX8_right 10 = .ok (.getfield 19, 3) := by decide +kernel
theorem dX8_right_13 : decode cX8_right 13 = .ok (.getfield 154, 3) := by decide +kernel
theorem dX8_right_16 : decode cX8_right 16 = .ok (.getfield 107, 3) := by decide +kernel
theorem dX8_right_19 : decode cX8_right 19 = .ok (.iload_n 1, 1) := by decide +kernel
theorem dX8_right_20 : decode cX8_right 20 = .ok (.laload, 1) := by decide +kernel
theorem dX8_right_21 : decode cX8_right 21 = .ok (.lreturn, 1) := by decide +kernel
theorem dX8_coefficient_0 : decode cX8_coefficient 0 = .ok (.aload_n 0, 1) := by decide +kernel
theorem dX8_coefficient_1 : decode cX8_coefficient 1 = .ok (.invokevirtual 151, 3) := by decide +kernel
theorem dX8_coefficient_4 : decode cX8_coefficient 4 = .ok (.aload_n 0, 1) := by decide +kernel
theorem dX8_coefficient_5 : decode cX8_coefficient 5 = .ok (.iload_n 1, 1) := by decide +kernel
theorem dX8_coefficient_6 : decode cX8_coefficient 6 = .ok (.invokevirtual 110, 3) := by decide +kernel
theorem dX8_coefficient_9 : decode cX8_coefficient 9 = .ok (.aload_n 0, 1) := by decide +kernel
theorem dX8_coefficient_10 : decode cX8_coefficient 10 = .ok (.iload_n 2, 1) := by decide +kernel
theorem dX8_coefficient_11 : decode cX8_coefficient 11 = .ok (.invokevirtual 114, 3) := by decide +kernel
theorem dX8_coefficient_14 : decode cX8_coefficient 14 = .ok (.aload_n 0, 1) := by decide +kernel
theorem dX8_coefficient_15 : decode cX8_coefficient 15 = .ok (.getfield 19, 3) := by decide +kernel
theorem dX8_coefficient_18 : decode cX8_coefficient 18 = .ok (.getfield 154, 3) := by decide +kernel
theorem dX8_coefficient_21 : decode cX8_coefficient 21 = .ok (.iload_n 1, 1) := by decide +kernel
theorem dX8_coefficient_22 : decode cX8_coefficient 22 = .ok (.invokevirtual 163, 3) := by decide +kernel
theorem dX8_coefficient_25 : decode cX8_coefficient 25 = .ok (.ifCond .ne 17, 3) := by decide +kernel
theorem dX8_coefficient_28 : decode cX8_coefficient 28 = .ok (.aload_n 0, 1) := by decide +kernel
theorem dX8_coefficient_29 : decode cX8_coefficient 29 = .ok (.getfield 19, 3) := by decide +kernel
theorem dX8_coefficient_32 : decode cX8_coefficient 32 = .ok (.getfield 154, 3) := by decide +kernel
theorem dX8_coefficient_35 : decode cX8_coefficient 35 = .ok (.iload_n 2, 1) := by decide +kernel
theorem dX8_coefficient_36 : decode cX8_coefficient 36 = .ok (.invokevirtual 160, 3) := by decide +kernel
theorem dX8_coefficient_39 : decode cX8_coefficient 39 = .ok (.ifCond .ne 5, 3) := by decide +kernel
theorem dX8_coefficient_42 : decode cX8_coefficient 42 = .ok (.iconst 0, 1) := by decide +kernel
theorem dX8_coefficient_43 : decode cX8_coefficient 43 = .ok (.ireturn, 1) := by decide +kernel
theorem dX8_coefficient_44 : decode cX8_coefficient 44 = .ok (.aload_n 0, 1) := by decide +kernel
theorem dX8_coefficient_45 : decode cX8_coefficient 45 = .ok (.getfield 19, 3) := by decide +kernel
theorem dX8_coefficient_48 : decode cX8_coefficient 48 = .ok (.getfield 154, 3) := by decide +kernel
theorem dX8_coefficient_51 : decode cX8_coefficient 51 = .ok (.getfield 119, 3) := by decide +kernel
theorem dX8_coefficient_54 : decode cX8_coefficient 54 = .ok (.iload_n 1, 1) := by decide +kernel
theorem dX8_coefficient_55 : decode cX8_coefficient 55 = .ok (.aaload, 1) := by decide +kernel
theorem dX8_coefficient_56 : decode cX8_coefficient 56 = .ok (.iload_n 2, 1) := by decide +kernel
theorem dX8_coefficient_57 : decode cX8_coefficient 57 = .ok (.laload, 1) := by decide +kernel
theorem dX8_coefficient_58 : decode cX8_coefficient 58 = .ok (.l2i, 1) := by decide +kernel
theorem dX8_coefficient_59 : decode cX8_coefficient 59 = .ok (.ireturn, 1) := by decide +kernel
theorem dX8_offset_0 : decode cX8_offset 0 = .ok (.aload_n 0, 1) := by decide +kernel
theorem dX8_offset_1 : decode cX8_offset 1 = .ok (.invokevirtual 151, 3) := by decide +kernel
theorem dX8_offset_4 : decode cX8_offset 4 = .ok (.aload_n 0, 1) := by decide +kernel
theorem dX8_offset_5 : decode cX8_offset 5 = .ok (.getfield 19, 3) := by decide +kernel
theorem dX8_offset_8 : decode cX8_offset 8 = .ok (.getfield 166, 3) := by decide +kernel
theorem dX8_offset_11 : decode cX8_offset 11 = .ok (.lreturn, 1) := by decide +kernel
theorem dX8_rest_0 : decode cX8_rest 0 = .ok (.aload_n 0, 1) := by decide +kernel
theorem dX8_rest_1 : decode cX8_rest 1 = .ok (.invokevirtual 151, 3) := by decide +kernel
theorem dX8_rest_4 : decode cX8_rest 4 = .ok (.iload_n 1, 1) := by decide +kernel
theorem dX8_rest_5 : decode cX8_rest 5 = .ok (.ifCond .lt 8, 3) := by decide +kernel
theorem dX8_rest_8 : decode cX8_rest 8 = .ok (.iload_n 1, 1) := by decide +kernel
theorem dX8_rest_9 : decode cX8_rest 9 = .ok (.iconst 2, 1) := by decide +kernel
theorem dX8_rest_10 : decode cX8_rest 10 = .ok (.if_icmp .le 13, 3) := by decide +kernel
theorem dX8_rest_13 : decode cX8_rest 13 = .ok (.new 77, 3) := by decide +kernel
theorem dX8_rest_16 : decode cX8_rest 16 = .ok (.dup, 1) := by decide +kernel
theorem dX8_rest_17 : decode cX8_rest 17 = .ok (.ldc 170, 2) := by decide +kernel
theorem dX8_rest_19 : decode cX8_rest 19 = .ok (.invokespecial 81, 3) := by decide +kernel
theorem dX8_rest_22 : decode cX8_rest 22 = .ok (.athrow, 1) := by decide +kernel
theorem dX8_rest_23 : decode cX8_rest 23 = .ok (.iload_n 1, 1) := by decide +kernel
theorem dX8_rest_24 : decode cX8_rest 24 = .ok (.ifCond .ne 18, 3) := by decide +kernel
theorem dX8_rest_27 : decode cX8_rest 27 = .ok (.aload_n 0, 1) := by decide +kernel
theorem dX8_rest_28 : decode cX8_rest 28 = .ok (.iload_n 2, 1) := by decide +kernel
theorem dX8_rest_29 : decode cX8_rest 29 = .ok (.invokevirtual 110, 3) := by decide +kernel
theorem dX8_rest_32 : decode cX8_rest 32 = .ok (.aload_n 0, 1) := by decide +kernel
theorem dX8_rest_33 : decode cX8_rest 33 = .ok (.getfield 19, 3) := by decide +kernel
theorem dX8_rest_36 : decode cX8_rest 36 = .ok (.getfield 172, 3) := by decide +kernel
theorem dX8_rest_39 : decode cX8_rest 39 = .ok (.iload_n 2, 1) := by decide +kernel
theorem dX8_rest_40 : decode cX8_rest 40 = .ok (.iaload, 1) := by decide +kernel
theorem dX8_rest_41 : decode cX8_rest 41 = .ok (.ireturn, 1) := by decide +kernel
theorem dX8_rest_42 : decode cX8_rest 42 = .ok (.aload_n 0, 1) := by decide +kernel
theorem dX8_rest_43 : decode cX8_rest 43 = .ok (.iload_n 2, 1) := by decide +kernel
theorem dX8_rest_44 : decode cX8_rest 44 = .ok (.invokevirtual 114, 3) := by decide +kernel
theorem dX8_rest_47 : decode cX8_rest 47 = .ok (.iload_n 1, 1) := by decide +kernel
theorem dX8_rest_48 : decode cX8_rest 48 = .ok (.iconst 1, 1) := by decide +kernel
theorem dX8_rest_49 : decode cX8_rest 49 = .ok (.if_icmp .ne 15, 3) := by decide +kernel
theorem dX8_rest_52 : decode cX8_rest 52 = .ok (.aload_n 0, 1) := by decide +kernel
theorem dX8_rest_53 : decode cX8_rest 53 = .ok (.getfield 19, 3) := by decide +kernel
theorem dX8_rest_56 : decode cX8_rest 56 = .ok (.getfield 175, 3) := by decide +kernel
theorem dX8_rest_59 : decode cX8_rest 59 = .ok (.iload_n 2, 1) := by decide +kernel
theorem dX8_rest_60 : decode cX8_rest 60 = .ok (.iaload, 1) := by decide +kernel
theorem dX8_rest_61 : decode cX8_rest 61 = .ok (.goto 12, 3) := by decide +kernel
theorem dX8_rest_64 : decode cX8_rest 64 = .ok (.aload_n 0, 1) := by decide +kernel
theorem dX8_rest_65 : decode cX8_rest 65 = .ok (.getfield 19, 3) := by decide +kernel
theorem dX8_rest_68 : decode cX8_rest 68 = .ok (.getfield 178, 3) := by decide +kernel
theorem dX8_rest_71 : decode cX8_rest 71 = .ok (.iload_n 2, 1) := by decide +kernel
theorem dX8_rest_72 : decode cX8_rest 72 = .ok (.iaload, 1) := by decide +kernel
theorem dX8_rest_73 : decode cX8_rest 73 = .ok (.ireturn, 1) := by decide +kernel
theorem dX8_certificate_0 : decode cX8_certificate 0 = .ok (.aload_n 0, 1) := by decide +kernel
theorem dX8_certificate_1 : decode cX8_certificate 1 = .ok (.invokevirtual 151, 3) := by decide +kernel
theorem dX8_certificate_4 : decode cX8_certificate 4 = .ok (.aload_n 0, 1) := by decide +kernel
theorem dX8_certificate_5 : decode cX8_certificate 5 = .ok (.getfield 19, 3) := by decide +kernel
theorem dX8_certificate_8 : decode cX8_certificate 8 = .ok (.getfield 181, 3) := by decide +kernel
theorem dX8_certificate_11 : decode cX8_certificate 11 = .ok (.ireturn, 1) := by decide +kernel
theorem dX8_certified_0 : decode cX8_certified 0 = .ok (.aload_n 0, 1) := by decide +kernel
theorem dX8_certified_1 : decode cX8_certified 1 = .ok (.invokevirtual 151, 3) := by decide +kernel
theorem dX8_certified_4 : decode cX8_certified 4 = .ok (.aload_n 0, 1) := by decide +kernel
theorem dX8_certified_5 : decode cX8_certified 5 = .ok (.getfield 19, 3) := by decide +kernel
theorem dX8_certified_8 : decode cX8_certified 8 = .ok (.invokevirtual 184, 3) := by decide +kernel
theorem dX8_certified_11 : decode cX8_certified 11 = .ok (.ifCond .ne 13, 3) := by decide +kernel
theorem dX8_certified_14 : decode cX8_certified 14 = .ok (.new 62, 3) := by decide +kernel
theorem dX8_certified_17 : decode cX8_certified 17 = .ok (.dup, 1) := by decide +kernel
theorem dX8_certified_18 : decode cX8_certified 18 = .ok (.ldc 188, 2) := by decide +kernel
theorem dX8_certified_20 : decode cX8_certified 20 = .ok (.invokespecial 66, 3) := by decide +kernel
theorem dX8_certified_23 : decode cX8_certified 23 = .ok (.athrow, 1) := by decide +kernel
theorem dX8_certified_24 : decode cX8_certified 24 = .ok (.aload_n 0, 1) := by decide +kernel
theorem dX8_certified_25 : decode cX8_certified 25 = .ok (.getfield 10, 3) := by decide +kernel
theorem dX8_certified_28 : decode cX8_certified 28 = .ok (.invokevirtual 190, 3) := by decide +kernel
theorem dX8_certified_31 : decode cX8_certified 31 = .ok (.istore_n 1, 1) := by decide +kernel
theorem dX8_certified_32 : decode cX8_certified 32 = .ok (.iload_n 1, 1) := by decide +kernel
theorem dX8_certified_33 : decode cX8_certified 33 = .ok (.iconst (-1), 1) := by decide +kernel
theorem dX8_certified_34 : decode cX8_certified 34 = .ok (.if_icmp .ne 5, 3) := by decide +kernel
theorem dX8_certified_37 : decode cX8_certified 37 = .ok (.iconst (-1), 1) := by decide +kernel
theorem dX8_certified_38 : decode cX8_certified 38 = .ok (.ireturn, 1) := by decide +kernel
theorem dX8_certified_39 : decode cX8_certified 39 = .ok (.aload_n 0, 1) := by decide +kernel
theorem dX8_certified_40 : decode cX8_certified 40 = .ok (.getfield 44, 3) := by decide +kernel
theorem dX8_certified_43 : decode cX8_certified 43 = .ok (.aload_n 0, 1) := by decide +kernel
theorem dX8_certified_44 : decode cX8_certified 44 = .ok (.getfield 10, 3) := by decide +kernel
theorem dX8_certified_47 : decode cX8_certified 47 = .ok (.invokevirtual 194, 3) := by decide +kernel
theorem dX8_certified_50 : decode cX8_certified 50 = .ok (.iconst 0, 1) := by decide +kernel
theorem dX8_certified_51 : decode cX8_certified 51 = .ok (.istore_n 2, 1) := by decide +kernel
theorem dX8_certified_52 : decode cX8_certified 52 = .ok (.iload_n 2, 1) := by decide +kernel
theorem dX8_certified_53 : decode cX8_certified 53 = .ok (.iload_n 1, 1) := by decide +kernel
theorem dX8_certified_54 : decode cX8_certified 54 = .ok (.if_icmp .ge 35, 3) := by decide +kernel
theorem dX8_certified_57 : decode cX8_certified 57 = .ok (.aload_n 0, 1) := by decide +kernel
theorem dX8_certified_58 : decode cX8_certified 58 = .ok (.getfield 44, 3) := by decide +kernel
theorem dX8_certified_61 : decode cX8_certified 61 = .ok (.aload_n 0, 1) := by decide +kernel
theorem dX8_certified_62 : decode cX8_certified 62 = .ok (.getfield 19, 3) := by decide +kernel
theorem dX8_certified_65 : decode cX8_certified 65 = .ok (.getfield 181, 3) := by decide +kernel
theorem dX8_certified_68 : decode cX8_certified 68 = .ok (.invokevirtual 197, 3) := by decide +kernel
theorem dX8_certified_71 : decode cX8_certified 71 = .ok (.ifCond .eq 5, 3) := by decide +kernel
theorem dX8_certified_74 : decode cX8_certified 74 = .ok (.iconst 0, 1) := by decide +kernel
theorem dX8_certified_75 : decode cX8_certified 75 = .ok (.ireturn, 1) := by decide +kernel
theorem dX8_certified_76 : decode cX8_certified 76 = .ok (.aload_n 0, 1) := by decide +kernel
theorem dX8_certified_77 : decode cX8_certified 77 = .ok (.getfield 44, 3) := by decide +kernel
theorem dX8_certified_80 : decode cX8_certified 80 = .ok (.invokevirtual 200, 3) := by decide +kernel
theorem dX8_certified_83 : decode cX8_certified 83 = .ok (.iinc 2 1, 3) := by decide +kernel
theorem dX8_certified_86 : decode cX8_certified 86 = .ok (.goto (-34), 3) := by decide +kernel
theorem dX8_certified_89 : decode cX8_certified 89 = .ok (.iconst 1, 1) := by decide +kernel
theorem dX8_certified_90 : decode cX8_certified 90 = .ok (.ireturn, 1) := by decide +kernel
theorem dX8_acts_0 : decode cX8_acts 0 = .ok (.aload_n 0, 1) := by decide +kernel
theorem dX8_acts_1 : decode cX8_acts 1 = .ok (.invokevirtual 151, 3) := by decide +kernel
theorem dX8_acts_4 : decode cX8_acts 4 = .ok (.aload_n 0, 1) := by decide +kernel
theorem dX8_acts_5 : decode cX8_acts 5 = .ok (.getfield 19, 3) := by decide +kernel
theorem dX8_acts_8 : decode cX8_acts 8 = .ok (.getfield 138, 3) := by decide +kernel
theorem dX8_acts_11 : decode cX8_acts 11 = .ok (.getfield 142, 3) := by decide +kernel
theorem dX8_acts_14 : decode cX8_acts 14 = .ok (.ireturn, 1) := by decide +kernel
theorem dX8_act_0 : decode cX8_act 0 = .ok (.aload_n 0, 1) := by decide +kernel
theorem dX8_act_1 : decode cX8_act 1 = .ok (.invokevirtual 151, 3) := by decide +kernel
theorem dX8_act_4 : decode cX8_act 4 = .ok (.iload_n 1, 1) := by decide +kernel
theorem dX8_act_5 : decode cX8_act 5 = .ok (.ifCond .lt 17, 3) := by decide +kernel
theorem dX8_act_8 : decode cX8_act 8 = .ok (.iload_n 1, 1) := by decide +kernel
theorem dX8_act_9 : decode cX8_act 9 = .ok (.aload_n 0, 1) := by decide +kernel
theorem dX8_act_10 : decode cX8_act 10 = .ok (.getfield 19, 3) := by decide +kernel
theorem dX8_act_13 : decode cX8_act 13 = .ok (.getfield 138, 3) := by decide +kernel
theorem dX8_act_16 : decode cX8_act 16 = .ok (.invokevirtual 203, 3) := by decide +kernel
theorem dX8_act_19 : decode cX8_act 19 = .ok (.if_icmp .lt 13, 3) := by decide +kernel
theorem dX8_act_22 : decode cX8_act 22 = .ok (.new 206, 3) := by decide +kernel
theorem dX8_act_25 : decode cX8_act 25 = .ok (.dup, 1) := by decide +kernel
theorem dX8_act_26 : decode cX8_act 26 = .ok (.ldc 208, 2) := by decide +kernel
theorem dX8_act_28 : decode cX8_act 28 = .ok (.invokespecial 210, 3) := by decide +kernel
theorem dX8_act_31 : decode cX8_act 31 = .ok (.athrow, 1) := by decide +kernel
theorem dX8_act_32 : decode cX8_act 32 = .ok (.iload_n 2, 1) := by decide +kernel
theorem dX8_act_33 : decode cX8_act 33 = .ok (.ifCond .lt 8, 3) := by decide +kernel
theorem dX8_act_36 : decode cX8_act 36 = .ok (.iload_n 2, 1) := by decide +kernel
theorem dX8_act_37 : decode cX8_act 37 = .ok (.iconst 5, 1) := by decide +kernel
theorem dX8_act_38 : decode cX8_act 38 = .ok (.if_icmp .lt 13, 3) := by decide +kernel
theorem dX8_act_41 : decode cX8_act 41 = .ok (.new 77, 3) := by decide +kernel
theorem dX8_act_44 : decode cX8_act 44 = .ok (.dup, 1) := by decide +kernel
theorem dX8_act_45 : decode cX8_act 45 = .ok (.ldc 211, 2) := by decide +kernel
theorem dX8_act_47 : decode cX8_act 47 = .ok (.invokespecial 81, 3) := by decide +kernel
theorem dX8_act_50 : decode cX8_act 50 = .ok (.athrow, 1) := by decide +kernel
theorem dX8_act_51 : decode cX8_act 51 = .ok (.aload_n 0, 1) := by decide +kernel
theorem dX8_act_52 : decode cX8_act 52 = .ok (.getfield 19, 3) := by decide +kernel
theorem dX8_act_55 : decode cX8_act 55 = .ok (.getfield 138, 3) := by decide +kernel
theorem dX8_act_58 : decode cX8_act 58 = .ok (.getfield 213, 3) := by decide +kernel
theorem dX8_act_61 : decode cX8_act 61 = .ok (.iload_n 1, 1) := by decide +kernel
theorem dX8_act_62 : decode cX8_act 62 = .ok (.iconst 5, 1) := by decide +kernel
theorem dX8_act_63 : decode cX8_act 63 = .ok (.imul, 1) := by decide +kernel
theorem dX8_act_64 : decode cX8_act 64 = .ok (.iload_n 2, 1) := by decide +kernel
theorem dX8_act_65 : decode cX8_act 65 = .ok (.iadd, 1) := by decide +kernel
theorem dX8_act_66 : decode cX8_act 66 = .ok (.laload, 1) := by decide +kernel
theorem dX8_act_67 : decode cX8_act 67 = .ok (.lreturn, 1) := by decide +kernel
theorem dX8_parts_0 : decode cX8_parts 0 = .ok (.aload_n 0, 1) := by decide +kernel
theorem dX8_parts_1 : decode cX8_parts 1 = .ok (.invokevirtual 151, 3) := by decide +kernel
theorem dX8_parts_4 : decode cX8_parts 4 = .ok (.aload_n 0, 1) := by decide +kernel
theorem dX8_parts_5 : decode cX8_parts 5 = .ok (.getfield 35, 3) := by decide +kernel
theorem dX8_parts_8 : decode cX8_parts 8 = .ok (.invokevirtual 216, 3) := by decide +kernel
theorem dX8_parts_11 : decode cX8_parts 11 = .ok (.ireturn, 1) := by decide +kernel
theorem dX8_clique_0 : decode cX8_clique 0 = .ok (.aload_n 0, 1) := by decide +kernel
theorem dX8_clique_1 : decode cX8_clique 1 = .ok (.invokevirtual 151, 3) := by decide +kernel
theorem dX8_clique_4 : decode cX8_clique 4 = .ok (.aload_n 0, 1) := by decide +kernel
theorem dX8_clique_5 : decode cX8_clique 5 = .ok (.iload_n 1, 1) := by decide +kernel
theorem dX8_clique_6 : decode cX8_clique 6 = .ok (.invokevirtual 110, 3) := by decide +kernel
theorem dX8_clique_9 : decode cX8_clique 9 = .ok (.aload_n 0, 1) := by decide +kernel
theorem dX8_clique_10 : decode cX8_clique 10 = .ok (.getfield 35, 3) := by decide +kernel
theorem dX8_clique_13 : decode cX8_clique 13 = .ok (.iload_n 1, 1) := by decide +kernel
theorem dX8_clique_14 : decode cX8_clique 14 = .ok (.invokevirtual 219, 3) := by decide +kernel
theorem dX8_clique_17 : decode cX8_clique 17 = .ok (.ireturn, 1) := by decide +kernel
theorem dX8_cliqueAt_0 : decode cX8_cliqueAt 0 = .ok (.aload_n 0, 1) := by decide +kernel
theorem dX8_cliqueAt_1 : decode cX8_cliqueAt 1 = .ok (.invokevirtual 151, 3) := by decide +kernel
theorem dX8_cliqueAt_4 : decode cX8_cliqueAt 4 = .ok (.aload_n 0, 1) := by decide +kernel
theorem dX8_cliqueAt_5 : decode cX8_cliqueAt 5 = .ok (.iload_n 1, 1) := by decide +kernel
theorem dX8_cliqueAt_6 : decode cX8_cliqueAt 6 = .ok (.invokevirtual 110, 3) := by decide +kernel
theorem dX8_cliqueAt_9 : decode cX8_cliqueAt 9 = .ok (.iload_n 2, 1) := by decide +kernel
theorem dX8_cliqueAt_10 : decode cX8_cliqueAt 10 = .ok (.ifCond .lt 15, 3) := by decide +kernel
theorem dX8_cliqueAt_13 : decode cX8_cliqueAt 13 = .ok (.iload_n 2, 1) := by decide +kernel
theorem dX8_cliqueAt_14 : decode cX8_cliqueAt 14 = .ok (.aload_n 0, 1) := by decide +kernel
theorem dX8_cliqueAt_15 : decode cX8_cliqueAt 15 = .ok (.getfield 35, 3) := by decide +kernel
theorem dX8_cliqueAt_18 : decode cX8_cliqueAt 18 = .ok (.iload_n 1, 1) := by decide +kernel
theorem dX8_cliqueAt_19 : decode cX8_cliqueAt 19 = .ok (.invokevirtual 219, 3) := by decide +kernel
theorem dX8_cliqueAt_22 : decode cX8_cliqueAt 22 = .ok (.if_icmp .lt 13, 3) := by decide +kernel
theorem dX8_cliqueAt_25 : decode cX8_cliqueAt 25 = .ok (.new 206, 3) := by decide +kernel
theorem dX8_cliqueAt_28 : decode cX8_cliqueAt 28 = .ok (.dup, 1) := by decide +kernel
theorem dX8_cliqueAt_29 : decode cX8_cliqueAt 29 = .ok (.ldc 223, 2) := by decide +kernel
theorem dX8_cliqueAt_31 : decode cX8_cliqueAt 31 = .ok (.invokespecial 210, 3) := by decide +kernel
theorem dX8_cliqueAt_34 : decode cX8_cliqueAt 34 = .ok (.athrow, 1) := by decide +kernel
theorem dX8_cliqueAt_35 : decode cX8_cliqueAt 35 = .ok (.aload_n 0, 1) := by decide +kernel
theorem dX8_cliqueAt_36 : decode cX8_cliqueAt 36 = .ok (.getfield 35, 3) := by decide +kernel
theorem dX8_cliqueAt_39 : decode cX8_cliqueAt 39 = .ok (.getfield 225, 3) := by decide +kernel
theorem dX8_cliqueAt_42 : decode cX8_cliqueAt 42 = .ok (.iload_n 2, 1) := by decide +kernel
theorem dX8_cliqueAt_43 : decode cX8_cliqueAt 43 = .ok (.iaload, 1) := by decide +kernel
theorem dX8_cliqueAt_44 : decode cX8_cliqueAt 44 = .ok (.istore_n 3, 1) := by decide +kernel
theorem dX8_cliqueAt_45 : decode cX8_cliqueAt 45 = .ok (.iload_n 3, 1) := by decide +kernel
theorem dX8_cliqueAt_46 : decode cX8_cliqueAt 46 = .ok (.iconst 2, 1) := by decide +kernel
theorem dX8_cliqueAt_47 : decode cX8_cliqueAt 47 = .ok (.imul, 1) := by decide +kernel
theorem dX8_cliqueAt_48 : decode cX8_cliqueAt 48 = .ok (.aload_n 0, 1) := by decide +kernel
theorem dX8_cliqueAt_49 : decode cX8_cliqueAt 49 = .ok (.getfield 19, 3) := by decide +kernel
theorem dX8_cliqueAt_52 : decode cX8_cliqueAt 52 = .ok (.getfield 154, 3) := by decide +kernel
theorem dX8_cliqueAt_55 : decode cX8_cliqueAt 55 = .ok (.getfield 119, 3) := by decide +kernel
theorem dX8_cliqueAt_58 : decode cX8_cliqueAt 58 = .ok (.iload_n 1, 1) := by decide +kernel
theorem dX8_cliqueAt_59 : decode cX8_cliqueAt 59 = .ok (.aaload, 1) := by decide +kernel
theorem dX8_cliqueAt_60 : decode cX8_cliqueAt 60 = .ok (.iload_n 3, 1) := by decide +kernel
theorem dX8_cliqueAt_61 : decode cX8_cliqueAt 61 = .ok (.laload, 1) := by decide +kernel
theorem dX8_cliqueAt_62 : decode cX8_cliqueAt 62 = .ok (.lconst 0, 1) := by decide +kernel
theorem dX8_cliqueAt_63 : decode cX8_cliqueAt 63 = .ok (.lcmp, 1) := by decide +kernel
theorem dX8_cliqueAt_64 : decode cX8_cliqueAt 64 = .ok (.ifCond .le 7, 3) := by decide +kernel
theorem dX8_cliqueAt_67 : decode cX8_cliqueAt 67 = .ok (.iconst 1, 1) := by decide +kernel
theorem dX8_cliqueAt_68 : decode cX8_cliqueAt 68 = .ok (.goto 4, 3) := by decide +kernel
theorem dX8_cliqueAt_71 : decode cX8_cliqueAt 71 = .ok (.iconst 0, 1) := by decide +kernel
theorem dX8_cliqueAt_72 : decode cX8_cliqueAt 72 = .ok (.iadd, 1) := by decide +kernel
theorem dX8_cliqueAt_73 : decode cX8_cliqueAt 73 = .ok (.ireturn, 1) := by decide +kernel
theorem dX8_same_0 : decode cX8_same 0 = .ok (.aload_n 0, 1) := by decide +kernel
theorem dX8_same_1 : decode cX8_same 1 = .ok (.invokevirtual 151, 3) := by decide +kernel
theorem dX8_same_4 : decode cX8_same 4 = .ok (.aload_n 0, 1) := by decide +kernel
theorem dX8_same_5 : decode cX8_same 5 = .ok (.iload_n 1, 1) := by decide +kernel
theorem dX8_same_6 : decode cX8_same 6 = .ok (.invokevirtual 114, 3) := by decide +kernel
theorem dX8_same_9 : decode cX8_same 9 = .ok (.aload_n 0, 1) := by decide +kernel
theorem dX8_same_10 : decode cX8_same 10 = .ok (.iload_n 2, 1) := by decide +kernel
theorem dX8_same_11 : decode cX8_same 11 = .ok (.invokevirtual 114, 3) := by decide +kernel
theorem dX8_same_14 : decode cX8_same 14 = .ok (.aload_n 0, 1) := by decide +kernel
theorem dX8_same_15 : decode cX8_same 15 = .ok (.getfield 35, 3) := by decide +kernel
theorem dX8_same_18 : decode cX8_same 18 = .ok (.iload_n 1, 1) := by decide +kernel
theorem dX8_same_19 : decode cX8_same 19 = .ok (.iload_n 2, 1) := by decide +kernel
theorem dX8_same_20 : decode cX8_same 20 = .ok (.invokevirtual 228, 3) := by decide +kernel
theorem dX8_same_23 : decode cX8_same 23 = .ok (.ireturn, 1) := by decide +kernel
theorem dX8_needPossibleSmall_0 : decode cX8_needPossibleSmall 0 = .ok (.aload_n 0, 1) := by decide +kernel
theorem dX8_needPossibleSmall_1 : decode cX8_needPossibleSmall 1 = .ok (.getfield 131, 3) := by decide +kernel
theorem dX8_needPossibleSmall_4 : decode cX8_needPossibleSmall 4 = .ok (.ifCond .eq 13, 3) := by decide +kernel
theorem dX8_needPossibleSmall_7 : decode cX8_needPossibleSmall 7 = .ok (.aload_n 0, 1) := by decide +kernel
theorem dX8_needPossibleSmall_8 : decode cX8_needPossibleSmall 8 = .ok (.getfield 19, 3) := by decide +kernel
theorem dX8_needPossibleSmall_11 : decode cX8_needPossibleSmall 11 = .ok (.invokevirtual 184, 3) := by decide +kernel
theorem dX8_needPossibleSmall_14 : decode cX8_needPossibleSmall 14 = .ok (.ifCond .eq 14, 3) := by decide +kernel
theorem dX8_needPossibleSmall_17 : decode cX8_needPossibleSmall 17 = .ok (.new 62, 3) := by decide +kernel
theorem dX8_needPossibleSmall_20 : decode cX8_needPossibleSmall 20 = .ok (.dup, 1) := by decide +kernel
theorem dX8_needPossibleSmall_21 : decode cX8_needPossibleSmall 21 = .ok (.ldc_w 275, 3) := by decide +kernel
theorem dX8_needPossibleSmall_24 : decode cX8_needPossibleSmall 24 = .ok (.invokespecial 66, 3) := by decide +kernel
theorem dX8_needPossibleSmall_27 : decode cX8_needPossibleSmall 27 = .ok (.athrow, 1) := by decide +kernel
theorem dX8_needPossibleSmall_28 : decode cX8_needPossibleSmall 28 = .ok (.return_, 1) := by decide +kernel
theorem dX8_put_0 : decode cX8_put 0 = .ok (.aload_n 0, 1) := by decide +kernel
theorem dX8_put_1 : decode cX8_put 1 = .ok (.invokevirtual 232, 3) := by decide +kernel
theorem dX8_put_4 : decode cX8_put 4 = .ok (.aload_n 0, 1) := by decide +kernel
theorem dX8_put_5 : decode cX8_put 5 = .ok (.iload_n 1, 1) := by decide +kernel
theorem dX8_put_6 : decode cX8_put 6 = .ok (.invokevirtual 114, 3) := by decide +kernel
theorem dX8_put_9 : decode cX8_put 9 = .ok (.aload_n 0, 1) := by decide +kernel
theorem dX8_put_10 : decode cX8_put 10 = .ok (.getfield 19, 3) := by decide +kernel
theorem dX8_put_13 : decode cX8_put 13 = .ok (.getfield 154, 3) := by decide +kernel
theorem dX8_put_16 : decode cX8_put 16 = .ok (.astore_n 3, 1) := by decide +kernel
theorem dX8_put_17 : decode cX8_put 17 = .ok (.aload_n 3, 1) := by decide +kernel
theorem dX8_put_18 : decode cX8_put 18 = .ok (.iload_n 1, 1) := by decide +kernel
theorem dX8_put_19 : decode cX8_put 19 = .ok (.invokevirtual 160, 3) := by decide +kernel
theorem dX8_put_22 : decode cX8_put 22 = .ok (.ifCond .eq 27, 3) := by decide +kernel
theorem dX8_put_25 : decode cX8_put 25 = .ok (.iload_n 2, 1) := by decide +kernel
theorem dX8_put_26 : decode cX8_put 26 = .ok (.i2l, 1) := by decide +kernel
theorem dX8_put_27 : decode cX8_put 27 = .ok (.aload_n 3, 1) := by decide +kernel
theorem dX8_put_28 : decode cX8_put 28 = .ok (.getfield 85, 3) := by decide +kernel
theorem dX8_put_31 : decode cX8_put 31 = .ok (.iload_n 1, 1) := by decide +kernel
theorem dX8_put_32 : decode cX8_put 32 = .ok (.laload, 1) := by decide +kernel
theorem dX8_put_33 : decode cX8_put 33 = .ok (.lcmp, 1) := by decide +kernel
theorem dX8_put_34 : decode cX8_put 34 = .ok (.ifCond .lt 15, 3) := by decide +kernel
theorem dX8_put_37 : decode cX8_put 37 = .ok (.iload_n 2, 1) := by decide +kernel
theorem dX8_put_38 : decode cX8_put 38 = .ok (.i2l, 1) := by decide +kernel
theorem dX8_put_39 : decode cX8_put 39 = .ok (.aload_n 3, 1) := by decide +kernel
theorem dX8_put_40 : decode cX8_put 40 = .ok (.getfield 88, 3) := by decide +kernel
theorem dX8_put_43 : decode cX8_put 43 = .ok (.iload_n 1, 1) := by decide +kernel
theorem dX8_put_44 : decode cX8_put 44 = .ok (.laload, 1) := by decide +kernel
theorem dX8_put_45 : decode cX8_put 45 = .ok (.lcmp, 1) := by decide +kernel
theorem dX8_put_46 : decode cX8_put 46 = .ok (.ifCond .le 13, 3) := by decide +kernel
theorem dX8_put_49 : decode cX8_put 49 = .ok (.new 77, 3) := by decide +kernel
theorem dX8_put_52 : decode cX8_put 52 = .ok (.dup, 1) := by decide +kernel
theorem dX8_put_53 : decode cX8_put 53 = .ok (.ldc 235, 2) := by decide +kernel
theorem dX8_put_55 : decode cX8_put 55 = .ok (.invokespecial 81, 3) := by decide +kernel
theorem dX8_put_58 : decode cX8_put 58 = .ok (.athrow, 1) := by decide +kernel
theorem dX8_put_59 : decode cX8_put 59 = .ok (.aload_n 0, 1) := by decide +kernel
theorem dX8_put_60 : decode cX8_put 60 = .ok (.getfield 48, 3) := by decide +kernel
theorem dX8_put_63 : decode cX8_put 63 = .ok (.iload_n 1, 1) := by decide +kernel
theorem dX8_put_64 : decode cX8_put 64 = .ok (.iload_n 2, 1) := by decide +kernel
theorem dX8_put_65 : decode cX8_put 65 = .ok (.i2l, 1) := by decide +kernel
theorem dX8_put_66 : decode cX8_put 66 = .ok (.lastore, 1) := by decide +kernel
theorem dX8_put_67 : decode cX8_put 67 = .ok (.aload_n 0, 1) := by decide +kernel
theorem dX8_put_68 : decode cX8_put 68 = .ok (.dup, 1) := by decide +kernel
theorem dX8_put_69 : decode cX8_put 69 = .ok (.getfield 237, 3) := by decide +kernel
theorem dX8_put_72 : decode cX8_put 72 = .ok (.iconst 1, 1) := by decide +kernel
theorem dX8_put_73 : decode cX8_put 73 = .ok (.iload_n 1, 1) := by decide +kernel
theorem dX8_put_74 : decode cX8_put 74 = .ok (.ishl, 1) := by decide +kernel
theorem dX8_put_75 : decode cX8_put 75 = .ok (.ior, 1) := by decide +kernel
theorem dX8_put_76 : decode cX8_put 76 = .ok (.putfield 237, 3) := by decide +kernel
theorem dX8_put_79 : decode cX8_put 79 = .ok (.return_, 1) := by decide +kernel
theorem dX8_back_0 : decode cX8_back 0 = .ok (.aload_n 0, 1) := by decide +kernel
theorem dX8_back_1 : decode cX8_back 1 = .ok (.invokevirtual 232, 3) := by decide +kernel
theorem dX8_back_4 : decode cX8_back 4 = .ok (.iconst 0, 1) := by decide +kernel
theorem dX8_back_5 : decode cX8_back 5 = .ok (.istore_n 1, 1) := by decide +kernel
theorem dX8_back_6 : decode cX8_back 6 = .ok (.iload_n 1, 1) := by decide +kernel
theorem dX8_back_7 : decode cX8_back 7 = .ok (.aload_n 0, 1) := by decide +kernel
theorem dX8_back_8 : decode cX8_back 8 = .ok (.getfield 10, 3) := by decide +kernel
theorem dX8_back_11 : decode cX8_back 11 = .ok (.getfield 58, 3) := by decide +kernel
theorem dX8_back_14 : decode cX8_back 14 = .ok (.if_icmp .ge 44, 3) := by decide +kernel
theorem dX8_back_17 : decode cX8_back 17 = .ok (.aload_n 0, 1) := by decide +kernel
theorem dX8_back_18 : decode cX8_back 18 = .ok (.getfield 19, 3) := by decide +kernel
theorem dX8_back_21 : decode cX8_back 21 = .ok (.getfield 154, 3) := by decide +kernel
theorem dX8_back_24 : decode cX8_back 24 = .ok (.iload_n 1, 1) := by decide +kernel
theorem dX8_back_25 : decode cX8_back 25 = .ok (.invokevirtual 160, 3) := by decide +kernel
theorem dX8_back_28 : decode cX8_back 28 = .ok (.ifCond .eq 24, 3) := by decide +kernel
theorem dX8_back_31 : decode cX8_back 31 = .ok (.aload_n 0, 1) := by decide +kernel
theorem dX8_back_32 : decode cX8_back 32 = .ok (.getfield 237, 3) := by decide +kernel
theorem dX8_back_35 : decode cX8_back 35 = .ok (.iload_n 1, 1) := by decide +kernel
theorem dX8_back_36 : decode cX8_back 36 = .ok (.ishr, 1) := by decide +kernel
theorem dX8_back_37 : decode cX8_back 37 = .ok (.iconst 1, 1) := by decide +kernel
theorem dX8_back_38 : decode cX8_back 38 = .ok (.iand, 1) := by decide +kernel
theorem dX8_back_39 : decode cX8_back 39 = .ok (.ifCond .ne 13, 3) := by decide +kernel
theorem dX8_back_42 : decode cX8_back 42 = .ok (.new 62, 3) := by decide +kernel
theorem dX8_back_45 : decode cX8_back 45 = .ok (.dup, 1) := by decide +kernel
theorem dX8_back_46 : decode cX8_back 46 = .ok (.ldc 240, 2) := by decide +kernel
theorem dX8_back_48 : decode cX8_back 48 = .ok (.invokespecial 66, 3) := by decide +kernel
theorem dX8_back_51 : decode cX8_back 51 = .ok (.athrow, 1) := by decide +kernel
theorem dX8_back_52 : decode cX8_back 52 = .ok (.iinc 1 1, 3) := by decide +kernel
theorem dX8_back_55 : decode cX8_back 55 = .ok (.goto (-49), 3) := by decide +kernel
theorem dX8_back_58 : decode cX8_back 58 = .ok (.aload_n 0, 1) := by decide +kernel
theorem dX8_back_59 : decode cX8_back 59 = .ok (.getfield 19, 3) := by decide +kernel
theorem dX8_back_62 : decode cX8_back 62 = .ok (.aload_n 0, 1) := by decide +kernel
theorem dX8_back_63 : decode cX8_back 63 = .ok (.getfield 48, 3) := by decide +kernel
theorem dX8_back_66 : decode cX8_back 66 = .ok (.aload_n 0, 1) := by decide +kernel
theorem dX8_back_67 : decode cX8_back 67 = .ok (.getfield 52, 3) := by decide +kernel
theorem dX8_back_70 : decode cX8_back 70 = .ok (.invokevirtual 242, 3) := by decide +kernel
theorem dX8_back_73 : decode cX8_back 73 = .ok (.aload_n 0, 1) := by decide +kernel
theorem dX8_back_74 : decode cX8_back 74 = .ok (.iconst 1, 1) := by decide +kernel
theorem dX8_back_75 : decode cX8_back 75 = .ok (.putfield 246, 3) := by decide +kernel
theorem dX8_back_78 : decode cX8_back 78 = .ok (.aload_n 0, 1) := by decide +kernel
theorem dX8_back_79 : decode cX8_back 79 = .ok (.getfield 10, 3) := by decide +kernel
theorem dX8_back_82 : decode cX8_back 82 = .ok (.aload_n 0, 1) := by decide +kernel
theorem dX8_back_83 : decode cX8_back 83 = .ok (.getfield 52, 3) := by decide +kernel
theorem dX8_back_86 : decode cX8_back 86 = .ok (.invokevirtual 249, 3) := by decide +kernel
theorem dX8_back_89 : decode cX8_back 89 = .ok (.ifCond .eq 7, 3) := by decide +kernel
theorem dX8_back_92 : decode cX8_back 92 = .ok (.iconst 1, 1) := by decide +kernel
theorem dX8_back_93 : decode cX8_back 93 = .ok (.goto 4, 3) := by decide +kernel
theorem dX8_back_96 : decode cX8_back 96 = .ok (.iconst 0, 1) := by decide +kernel
theorem dX8_back_97 : decode cX8_back 97 = .ok (.ireturn, 1) := by decide +kernel
theorem dX8_needTurned_0 : decode cX8_needTurned 0 = .ok (.aload_n 0, 1) := by decide +kernel
theorem dX8_needTurned_1 : decode cX8_needTurned 1 = .ok (.getfield 246, 3) := by decide +kernel
theorem dX8_needTurned_4 : decode cX8_needTurned 4 = .ok (.ifCond .ne 14, 3) := by decide +kernel
theorem dX8_needTurned_7 : decode cX8_needTurned 7 = .ok (.new 62, 3) := by decide +kernel
theorem dX8_needTurned_10 : decode cX8_needTurned 10 = .ok (.dup, 1) := by decide +kernel
theorem dX8_needTurned_11 : decode cX8_needTurned 11 = .ok (.ldc_w 277, 3) := by decide +kernel
theorem dX8_needTurned_14 : decode cX8_needTurned 14 = .ok (.invokespecial 66, 3) := by decide +kernel
theorem dX8_needTurned_17 : decode cX8_needTurned 17 = .ok (.athrow, 1) := by decide +kernel
theorem dX8_needTurned_18 : decode cX8_needTurned 18 = .ok (.return_, 1) := by decide +kernel
theorem dX8_at_0 : decode cX8_at 0 = .ok (.aload_n 0, 1) := by decide +kernel
theorem dX8_at_1 : decode cX8_at 1 = .ok (.invokevirtual 253, 3) := by decide +kernel
theorem dX8_at_4 : decode cX8_at 4 = .ok (.aload_n 0, 1) := by decide +kernel
theorem dX8_at_5 : decode cX8_at 5 = .ok (.iload_n 1, 1) := by decide +kernel
theorem dX8_at_6 : decode cX8_at 6 = .ok (.invokevirtual 114, 3) := by decide +kernel
theorem dX8_at_9 : decode cX8_at 9 = .ok (.aload_n 0, 1) := by decide +kernel
theorem dX8_at_10 : decode cX8_at 10 = .ok (.getfield 52, 3) := by decide +kernel
theorem dX8_at_13 : decode cX8_at 13 = .ok (.iload_n 1, 1) := by decide +kernel
theorem dX8_at_14 : decode cX8_at 14 = .ok (.laload, 1) := by decide +kernel
theorem dX8_at_15 : decode cX8_at 15 = .ok (.l2i, 1) := by decide +kernel
theorem dX8_at_16 : decode cX8_at 16 = .ok (.ireturn, 1) := by decide +kernel
theorem dX8_value_0 : decode cX8_value 0 = .ok (.aload_n 0, 1) := by decide +kernel
theorem dX8_value_1 : decode cX8_value 1 = .ok (.invokevirtual 253, 3) := by decide +kernel
theorem dX8_value_4 : decode cX8_value 4 = .ok (.lconst 0, 1) := by decide +kernel
theorem dX8_value_5 : decode cX8_value 5 = .ok (.lstore_n 1, 1) := by decide +kernel
theorem dX8_value_6 : decode cX8_value 6 = .ok (.iconst 0, 1) := by decide +kernel
theorem dX8_value_7 : decode cX8_value 7 = .ok (.istore_n 3, 1) := by decide +kernel
theorem dX8_value_8 : decode cX8_value 8 = .ok (.iload_n 3, 1) := by decide +kernel
theorem dX8_value_9 : decode cX8_value 9 = .ok (.aload_n 0, 1) := by decide +kernel
theorem dX8_value_10 : decode cX8_value 10 = .ok (.getfield 10, 3) := by decide +kernel
theorem dX8_value_13 : decode cX8_value 13 = .ok (.getfield 58, 3) := by decide +kernel
theorem dX8_value_16 : decode cX8_value 16 = .ok (.if_icmp .ge 28, 3) := by decide +kernel
theorem dX8_value_19 : decode cX8_value 19 = .ok (.lload_n 1, 1) := by decide +kernel
theorem dX8_value_20 : decode cX8_value 20 = .ok (.aload_n 0, 1) := by decide +kernel
theorem dX8_value_21 : decode cX8_value 21 = .ok (.getfield 52, 3) := by decide +kernel
theorem dX8_value_24 : decode cX8_value 24 = .ok (.iload_n 3, 1) := by decide +kernel
theorem dX8_value_25 : decode cX8_value 25 = .ok (.laload, 1) := by decide +kernel
theorem dX8_value_26 : decode cX8_value 26 = .ok (.aload_n 0, 1) := by decide +kernel
theorem dX8_value_27 : decode cX8_value 27 = .ok (.getfield 10, 3) := by decide +kernel
theorem dX8_value_30 : decode cX8_value 30 = .ok (.getfield 91, 3) := by decide +kernel
theorem dX8_value_33 : decode cX8_value 33 = .ok (.iload_n 3, 1) := by decide +kernel
theorem dX8_value_34 : decode cX8_value 34 = .ok (.laload, 1) := by decide +kernel
theorem dX8_value_35 : decode cX8_value 35 = .ok (.lmul, 1) := by decide +kernel
theorem dX8_value_36 : decode cX8_value 36 = .ok (.ladd, 1) := by decide +kernel
theorem dX8_value_37 : decode cX8_value 37 = .ok (.lstore_n 1, 1) := by decide +kernel
theorem dX8_value_38 : decode cX8_value 38 = .ok (.iinc 3 1, 3) := by decide +kernel
theorem dX8_value_41 : decode cX8_value 41 = .ok (.goto (-33), 3) := by decide +kernel
theorem dX8_value_44 : decode cX8_value 44 = .ok (.lload_n 1, 1) := by decide +kernel
theorem dX8_value_45 : decode cX8_value 45 = .ok (.lreturn, 1) := by decide +kernel
theorem dX8_best_0 : decode cX8_best 0 = .ok (.iload_n 1, 1) := by decide +kernel
theorem dX8_best_1 : decode cX8_best 1 = .ok (.ifCond .eq 7, 3) := by decide +kernel
theorem dX8_best_4 : decode cX8_best 4 = .ok (.aload_n 0, 1) := by decide +kernel
theorem dX8_best_5 : decode cX8_best 5 = .ok (.invokevirtual 151, 3) := by decide +kernel
theorem dX8_best_8 : decode cX8_best 8 = .ok (.aload_n 0, 1) := by decide +kernel
theorem dX8_best_9 : decode cX8_best 9 = .ok (.iconst 0, 1) := by decide +kernel
theorem dX8_best_10 : decode cX8_best 10 = .ok (.putfield 256, 3) := by decide +kernel
theorem dX8_best_13 : decode cX8_best 13 = .ok (.iload_n 1, 1) := by decide +kernel
theorem dX8_best_14 : decode cX8_best 14 = .ok (.ifCond .eq 15, 3) := by decide +kernel
theorem dX8_best_17 : decode cX8_best 17 = .ok (.aload_n 0, 1) := by decide +kernel
theorem dX8_best_18 : decode cX8_best 18 = .ok (.getfield 19, 3) := by decide +kernel
theorem dX8_best_21 : decode cX8_best 21 = .ok (.invokevirtual 184, 3) := by decide +kernel
theorem dX8_best_24 : decode cX8_best 24 = .ok (.ifCond .eq 5, 3) := by decide +kernel
theorem dX8_best_27 : decode cX8_best 27 = .ok (.iconst 0, 1) := by decide +kernel
theorem dX8_best_28 : decode cX8_best 28 = .ok (.ireturn, 1) := by decide +kernel
theorem dX8_best_29 : decode cX8_best 29 = .ok (.iload_n 1, 1) := by decide +kernel
theorem dX8_best_30 : decode cX8_best 30 = .ok (.ifCond .eq 13, 3) := by decide +kernel
theorem dX8_best_33 : decode cX8_best 33 = .ok (.aload_n 0, 1) := by decide +kernel
theorem dX8_best_34 : decode cX8_best 34 = .ok (.getfield 19, 3) := by decide +kernel
theorem dX8_best_37 : decode cX8_best 37 = .ok (.getfield 154, 3) := by decide +kernel
theorem dX8_best_40 : decode cX8_best 40 = .ok (.goto 7, 3) := by decide +kernel
theorem dX8_best_43 : decode cX8_best 43 = .ok (.aload_n 0, 1) := by decide +kernel
theorem dX8_best_44 : decode cX8_best 44 = .ok (.getfield 10, 3) := by decide +kernel
theorem dX8_best_47 : decode cX8_best 47 = .ok (.astore_n 2, 1) := by decide +kernel
theorem dX8_best_48 : decode cX8_best 48 = .ok (.aload_n 2, 1) := by decide +kernel
theorem dX8_best_49 : decode cX8_best 49 = .ok (.invokevirtual 190, 3) := by decide +kernel
theorem dX8_best_52 : decode cX8_best 52 = .ok (.istore_n 3, 1) := by decide +kernel
theorem dX8_best_53 : decode cX8_best 53 = .ok (.iload_n 3, 1) := by decide +kernel
theorem dX8_best_54 : decode cX8_best 54 = .ok (.iconst (-1), 1) := by decide +kernel
theorem dX8_best_55 : decode cX8_best 55 = .ok (.if_icmp .ne 5, 3) := by decide +kernel
theorem dX8_best_58 : decode cX8_best 58 = .ok (.iconst (-1), 1) := by decide +kernel
theorem dX8_best_59 : decode cX8_best 59 = .ok (.ireturn, 1) := by decide +kernel
theorem dX8_best_60 : decode cX8_best 60 = .ok (.aload_n 0, 1) := by decide +kernel
theorem dX8_best_61 : decode cX8_best 61 = .ok (.aload_n 2, 1) := by decide +kernel
theorem dX8_best_62 : decode cX8_best 62 = .ok (.iload_n 3, 1) := by decide +kernel
theorem dX8_best_63 : decode cX8_best 63 = .ok (.iload_n 1, 1) := by decide +kernel
theorem dX8_best_64 : decode cX8_best 64 = .ok (.ifCond .eq 13, 3) := by decide +kernel
theorem dX8_best_67 : decode cX8_best 67 = .ok (.aload_n 0, 1) := by decide +kernel
theorem dX8_best_68 : decode cX8_best 68 = .ok (.getfield 19, 3) := by decide +kernel
theorem dX8_best_71 : decode cX8_best 71 = .ok (.getfield 166, 3) := by decide +kernel
theorem dX8_best_74 : decode cX8_best 74 = .ok (.goto 4, 3) := by decide +kernel
theorem dX8_best_77 : decode cX8_best 77 = .ok (.lconst 0, 1) := by decide +kernel
theorem dX8_best_78 : decode cX8_best 78 = .ok (.invokevirtual 259, 3) := by decide +kernel
theorem dX8_best_81 : decode cX8_best 81 = .ok (.aload_n 0, 1) := by decide +kernel
theorem dX8_best_82 : decode cX8_best 82 = .ok (.getfield 256, 3) := by decide +kernel
theorem dX8_best_85 : decode cX8_best 85 = .ok (.ifCond .eq 7, 3) := by decide +kernel
theorem dX8_best_88 : decode cX8_best 88 = .ok (.iconst 1, 1) := by decide +kernel
theorem dX8_best_89 : decode cX8_best 89 = .ok (.goto 4, 3) := by decide +kernel
theorem dX8_best_92 : decode cX8_best 92 = .ok (.iconst 0, 1) := by decide +kernel
theorem dX8_best_93 : decode cX8_best 93 = .ok (.ireturn, 1) := by decide +kernel
theorem dX8_needBest_0 : decode cX8_needBest 0 = .ok (.aload_n 0, 1) := by decide +kernel
theorem dX8_needBest_1 : decode cX8_needBest 1 = .ok (.getfield 256, 3) := by decide +kernel
theorem dX8_needBest_4 : decode cX8_needBest 4 = .ok (.ifCond .ne 14, 3) := by decide +kernel
theorem dX8_needBest_7 : decode cX8_needBest 7 = .ok (.new 62, 3) := by decide +kernel
theorem dX8_needBest_10 : decode cX8_needBest 10 = .ok (.dup, 1) := by decide +kernel
theorem dX8_needBest_11 : decode cX8_needBest 11 = .ok (.ldc_w 279, 3) := by decide +kernel
theorem dX8_needBest_14 : decode cX8_needBest 14 = .ok (.invokespecial 66, 3) := by decide +kernel
theorem dX8_needBest_17 : decode cX8_needBest 17 = .ok (.athrow, 1) := by decide +kernel
theorem dX8_needBest_18 : decode cX8_needBest 18 = .ok (.return_, 1) := by decide +kernel
theorem dX8_bestValue_0 : decode cX8_bestValue 0 = .ok (.aload_n 0, 1) := by decide +kernel
theorem dX8_bestValue_1 : decode cX8_bestValue 1 = .ok (.invokevirtual 263, 3) := by decide +kernel
theorem dX8_bestValue_4 : decode cX8_bestValue 4 = .ok (.aload_n 0, 1) := by decide +kernel
theorem dX8_bestValue_5 : decode cX8_bestValue 5 = .ok (.getfield 266, 3) := by decide +kernel
theorem dX8_bestValue_8 : decode cX8_bestValue 8 = .ok (.lreturn, 1) := by decide +kernel
theorem dX8_bestAt_0 : decode cX8_bestAt 0 = .ok (.aload_n 0, 1) := by decide +kernel
theorem dX8_bestAt_1 : decode cX8_bestAt 1 = .ok (.invokevirtual 263, 3) := by decide +kernel
theorem dX8_bestAt_4 : decode cX8_bestAt 4 = .ok (.aload_n 0, 1) := by decide +kernel
theorem dX8_bestAt_5 : decode cX8_bestAt 5 = .ok (.iload_n 1, 1) := by decide +kernel
theorem dX8_bestAt_6 : decode cX8_bestAt 6 = .ok (.invokevirtual 114, 3) := by decide +kernel
theorem dX8_bestAt_9 : decode cX8_bestAt 9 = .ok (.aload_n 0, 1) := by decide +kernel
theorem dX8_bestAt_10 : decode cX8_bestAt 10 = .ok (.getfield 55, 3) := by decide +kernel
theorem dX8_bestAt_13 : decode cX8_bestAt 13 = .ok (.iload_n 1, 1) := by decide +kernel
theorem dX8_bestAt_14 : decode cX8_bestAt 14 = .ok (.laload, 1) := by decide +kernel
theorem dX8_bestAt_15 : decode cX8_bestAt 15 = .ok (.l2i, 1) := by decide +kernel
theorem dX8_bestAt_16 : decode cX8_bestAt 16 = .ok (.ireturn, 1) := by decide +kernel
