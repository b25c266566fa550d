theorem dX9_cliqueAt_36 : decode cX9_cliqueAt 36 = .ok (.invokevirtual 345, 3) := by decide +kernel
theorem dX9_cliqueAt_39 : decode cX9_cliqueAt 39 = .ok (.istore_n 3, 1) := by decide +kernel
theorem dX9_cliqueAt_40 : decode cX9_cliqueAt 40 = .ok (.aload_n 0, 1) := by decide +kernel
theorem dX9_cliqueAt_41 : decode cX9_cliqueAt 41 = .ok (.iconst 0, 1) := by decide +kernel
theorem dX9_cliqueAt_42 : decode cX9_cliqueAt 42 = .ok (.iload_n 2, 1) := by decide +kernel
theorem dX9_cliqueAt_43 : decode cX9_cliqueAt 43 = .ok (.i2l, 1) := by decide +kernel
theorem dX9_cliqueAt_44 : decode cX9_cliqueAt 44 = .ok (.lconst 0, 1) := by decide +kernel
theorem dX9_cliqueAt_45 : decode cX9_cliqueAt 45 = .ok (.iload_n 3, 1) := by decide +kernel
theorem dX9_cliqueAt_46 : decode cX9_cliqueAt 46 = .ok (.iconst 1, 1) := by decide +kernel
theorem dX9_cliqueAt_47 : decode cX9_cliqueAt 47 = .ok (.isub, 1) := by decide +kernel
theorem dX9_cliqueAt_48 : decode cX9_cliqueAt 48 = .ok (.i2l, 1) := by decide +kernel
theorem dX9_cliqueAt_49 : decode cX9_cliqueAt 49 = .ok (.invokestatic 133, 3) := by decide +kernel
theorem dX9_cliqueAt_52 : decode cX9_cliqueAt 52 = .ok (.ifCond .ne 7, 3) := by decide +kernel
theorem dX9_cliqueAt_55 : decode cX9_cliqueAt 55 = .ok (.iconst 1, 1) := by decide +kernel
theorem dX9_cliqueAt_56 : decode cX9_cliqueAt 56 = .ok (.goto 4, 3) := by decide +kernel
theorem dX9_cliqueAt_59 : decode cX9_cliqueAt 59 = .ok (.iconst 0, 1) := by decide +kernel
theorem dX9_cliqueAt_60 : decode cX9_cliqueAt 60 = .ok (.invokevirtual 144, 3) := by decide +kernel
theorem dX9_cliqueAt_63 : decode cX9_cliqueAt 63 = .ok (.ifCond .ne 5, 3) := by decide +kernel
theorem dX9_cliqueAt_66 : decode cX9_cliqueAt 66 = .ok (.iconst 0, 1) := by decide +kernel
theorem dX9_cliqueAt_67 : decode cX9_cliqueAt 67 = .ok (.ireturn, 1) := by decide +kernel
theorem dX9_cliqueAt_68 : decode cX9_cliqueAt 68 = .ok (.iconst 2, 1) := by decide +kernel
theorem dX9_cliqueAt_69 : decode cX9_cliqueAt 69 = .ok (.aload_n 0, 1) := by decide +kernel
theorem dX9_cliqueAt_70 : decode cX9_cliqueAt 70 = .ok (.getfield 105, 3) := by decide +kernel
theorem dX9_cliqueAt_73 : decode cX9_cliqueAt 73 = .ok (.iload_n 2, 1) := by decide +kernel
theorem dX9_cliqueAt_74 : decode cX9_cliqueAt 74 = .ok (.iaload, 1) := by decide +kernel
theorem dX9_cliqueAt_75 : decode cX9_cliqueAt 75 = .ok (.imul, 1) := by decide +kernel
theorem dX9_cliqueAt_76 : decode cX9_cliqueAt 76 = .ok (.aload_n 0, 1) := by decide +kernel
theorem dX9_cliqueAt_77 : decode cX9_cliqueAt 77 = .ok (.getfield 60, 3) := by decide +kernel
theorem dX9_cliqueAt_80 : decode cX9_cliqueAt 80 = .ok (.bipush 12, 2) := by decide +kernel
theorem dX9_cliqueAt_82 : decode cX9_cliqueAt 82 = .ok (.iload_n 1, 1) := by decide +kernel
theorem dX9_cliqueAt_83 : decode cX9_cliqueAt 83 = .ok (.imul, 1) := by decide +kernel
theorem dX9_cliqueAt_84 : decode cX9_cliqueAt 84 = .ok (.aload_n 0, 1) := by decide +kernel
theorem dX9_cliqueAt_85 : decode cX9_cliqueAt 85 = .ok (.getfield 105, 3) := by decide +kernel
theorem dX9_cliqueAt_88 : decode cX9_cliqueAt 88 = .ok (.iload_n 2, 1) := by decide +kernel
theorem dX9_cliqueAt_89 : decode cX9_cliqueAt 89 = .ok (.iaload, 1) := by decide +kernel
theorem dX9_cliqueAt_90 : decode cX9_cliqueAt 90 = .ok (.iadd, 1) := by decide +kernel
theorem dX9_cliqueAt_91 : decode cX9_cliqueAt 91 = .ok (.laload, 1) := by decide +kernel
theorem dX9_cliqueAt_92 : decode cX9_cliqueAt 92 = .ok (.lconst 0, 1) := by decide +kernel
theorem dX9_cliqueAt_93 : decode cX9_cliqueAt 93 = .ok (.lcmp, 1) := by decide +kernel
theorem dX9_cliqueAt_94 : decode cX9_cliqueAt 94 = .ok (.ifCond .le 7, 3) := by decide +kernel
theorem dX9_cliqueAt_97 : decode cX9_cliqueAt 97 = .ok (.iconst 1, 1) := by decide +kernel
theorem dX9_cliqueAt_98 : decode cX9_cliqueAt 98 = .ok (.goto 4, 3) := by decide +kernel
theorem dX9_cliqueAt_101 : decode cX9_cliqueAt 101 = .ok (.iconst 0, 1) := by decide +kernel
theorem dX9_cliqueAt_102 : decode cX9_cliqueAt 102 = .ok (.iadd, 1) := by decide +kernel
theorem dX9_cliqueAt_103 : decode cX9_cliqueAt 103 = .ok (.ireturn, 1) := by decide +kernel
theorem dX9_same_0 : decode cX9_same 0 = .ok (.aload_n 0, 1) := by decide +kernel
theorem dX9_same_1 : decode cX9_same 1 = .ok (.aload_n 0, 1) := by decide +kernel
theorem dX9_same_2 : decode cX9_same 2 = .ok (.getfield 123, 3) := by decide +kernel
theorem dX9_same_5 : decode cX9_same 5 = .ok (.ifCond .ne 7, 3) := by decide +kernel
theorem dX9_same_8 : decode cX9_same 8 = .ok (.iconst 1, 1) := by decide +kernel
theorem dX9_same_9 : decode cX9_same 9 = .ok (.goto 4, 3) := by decide +kernel
theorem dX9_same_12 : decode cX9_same 12 = .ok (.iconst 0, 1) := by decide +kernel
theorem dX9_same_13 : decode cX9_same 13 = .ok (.aload_n 0, 1) := by decide +kernel
theorem dX9_same_14 : decode cX9_same 14 = .ok (.iload_n 1, 1) := by decide +kernel
theorem dX9_same_15 : decode cX9_same 15 = .ok (.invokevirtual 162, 3) := by decide +kernel
theorem dX9_same_18 : decode cX9_same 18 = .ok (.ifCond .eq 11, 3) := by decide +kernel
theorem dX9_same_21 : decode cX9_same 21 = .ok (.aload_n 0, 1) := by decide +kernel
theorem dX9_same_22 : decode cX9_same 22 = .ok (.iload_n 2, 1) := by decide +kernel
theorem dX9_same_23 : decode cX9_same 23 = .ok (.invokevirtual 162, 3) := by decide +kernel
theorem dX9_same_26 : decode cX9_same 26 = .ok (.ifCond .ne 7, 3) := by decide +kernel
theorem dX9_same_29 : decode cX9_same 29 = .ok (.iconst 1, 1) := by decide +kernel
theorem dX9_same_30 : decode cX9_same 30 = .ok (.goto 4, 3) := by decide +kernel
theorem dX9_same_33 : decode cX9_same 33 = .ok (.iconst 0, 1) := by decide +kernel
theorem dX9_same_34 : decode cX9_same 34 = .ok (.invokevirtual 144, 3) := by decide +kernel
theorem dX9_same_37 : decode cX9_same 37 = .ok (.ifCond .ne 5, 3) := by decide +kernel
theorem dX9_same_40 : decode cX9_same 40 = .ok (.iconst 0, 1) := by decide +kernel
theorem dX9_same_41 : decode cX9_same 41 = .ok (.ireturn, 1) := by decide +kernel
theorem dX9_same_42 : decode cX9_same 42 = .ok (.aload_n 0, 1) := by decide +kernel
theorem dX9_same_43 : decode cX9_same 43 = .ok (.getfield 28, 3) := by decide +kernel
theorem dX9_same_46 : decode cX9_same 46 = .ok (.iload_n 1, 1) := by decide +kernel
theorem dX9_same_47 : decode cX9_same 47 = .ok (.iaload, 1) := by decide +kernel
theorem dX9_same_48 : decode cX9_same 48 = .ok (.ifCond .ne 62, 3) := by decide +kernel
theorem dX9_same_51 : decode cX9_same 51 = .ok (.aload_n 0, 1) := by decide +kernel
theorem dX9_same_52 : decode cX9_same 52 = .ok (.getfield 28, 3) := by decide +kernel
theorem dX9_same_55 : decode cX9_same 55 = .ok (.iload_n 2, 1) := by decide +kernel
theorem dX9_same_56 : decode cX9_same 56 = .ok (.iaload, 1) := by decide +kernel
theorem dX9_same_57 : decode cX9_same 57 = .ok (.ifCond .ne 53, 3) := by decide +kernel
theorem dX9_same_60 : decode cX9_same 60 = .ok (.aload_n 0, 1) := by decide +kernel
theorem dX9_same_61 : decode cX9_same 61 = .ok (.getfield 31, 3) := by decide +kernel
theorem dX9_same_64 : decode cX9_same 64 = .ok (.iload_n 1, 1) := by decide +kernel
theorem dX9_same_65 : decode cX9_same 65 = .ok (.iaload, 1) := by decide +kernel
theorem dX9_same_66 : decode cX9_same 66 = .ok (.aload_n 0, 1) := by decide +kernel
theorem dX9_same_67 : decode cX9_same 67 = .ok (.getfield 31, 3) := by decide +kernel
theorem dX9_same_70 : decode cX9_same 70 = .ok (.iload_n 2, 1) := by decide +kernel
theorem dX9_same_71 : decode cX9_same 71 = .ok (.iaload, 1) := by decide +kernel
theorem dX9_same_72 : decode cX9_same 72 = .ok (.if_icmp .ne 38, 3) := by decide +kernel
theorem dX9_same_75 : decode cX9_same 75 = .ok (.aload_n 0, 1) := by decide +kernel
theorem dX9_same_76 : decode cX9_same 76 = .ok (.getfield 34, 3) := by decide +kernel
theorem dX9_same_79 : decode cX9_same 79 = .ok (.iload_n 1, 1) := by decide +kernel
theorem dX9_same_80 : decode cX9_same 80 = .ok (.iaload, 1) := by decide +kernel
theorem dX9_same_81 : decode cX9_same 81 = .ok (.aload_n 0, 1) := by decide +kernel
theorem dX9_same_82 : decode cX9_same 82 = .ok (.getfield 34, 3) := by decide +kernel
theorem dX9_same_85 : decode cX9_same 85 = .ok (.iload_n 2, 1) := by decide +kernel
theorem dX9_same_86 : decode cX9_same 86 = .ok (.iaload, 1) := by decide +kernel
theorem dX9_same_87 : decode cX9_same 87 = .ok (.if_icmp .ne 23, 3) := by decide +kernel
theorem dX9_same_90 : decode cX9_same 90 = .ok (.aload_n 0, 1) := by decide +kernel
theorem dX9_same_91 : decode cX9_same 91 = .ok (.getfield 43, 3) := by decide +kernel
theorem dX9_same_94 : decode cX9_same 94 = .ok (.iload_n 1, 1) := by decide +kernel
theorem dX9_same_95 : decode cX9_same 95 = .ok (.laload, 1) := by decide +kernel
theorem dX9_same_96 : decode cX9_same 96 = .ok (.aload_n 0, 1) := by decide +kernel
theorem dX9_same_97 : decode cX9_same 97 = .ok (.getfield 43, 3) := by decide +kernel
theorem dX9_same_100 : decode cX9_same 100 = .ok (.iload_n 2, 1) := by decide +kernel
theorem dX9_same_101 : decode cX9_same 101 = .ok (.laload, 1) := by decide +kernel
theorem dX9_same_102 : decode cX9_same 102 = .ok (.lcmp, 1) := by decide +kernel
theorem dX9_same_103 : decode cX9_same 103 = .ok (.ifCond .ne 7, 3) := by decide +kernel
theorem dX9_same_106 : decode cX9_same 106 = .ok (.iconst 1, 1) := by decide +kernel
theorem dX9_same_107 : decode cX9_same 107 = .ok (.goto 4, 3) := by decide +kernel
theorem dX9_same_110 : decode cX9_same 110 = .ok (.iconst 0, 1) := by decide +kernel
theorem dX9_same_111 : decode cX9_same 111 = .ok (.istore_n 3, 1) := by decide +kernel
theorem dX9_same_112 : decode cX9_same 112 = .ok (.iconst 0, 1) := by decide +kernel
theorem dX9_same_113 : decode cX9_same 113 = .ok (.istore 4, 2) := by decide +kernel
theorem dX9_same_115 : decode cX9_same 115 = .ok (.iload 4, 2) := by decide +kernel
theorem dX9_same_117 : decode cX9_same 117 = .ok (.aload_n 0, 1) := by decide +kernel
theorem dX9_same_118 : decode cX9_same 118 = .ok (.getfield 151, 3) := by decide +kernel
theorem dX9_same_121 : decode cX9_same 121 = .ok (.if_icmp .ge 57, 3) := by decide +kernel
theorem dX9_same_124 : decode cX9_same 124 = .ok (.iload_n 3, 1) := by decide +kernel
theorem dX9_same_125 : decode cX9_same 125 = .ok (.ifCond .eq 45, 3) := by decide +kernel
theorem dX9_same_128 : decode cX9_same 128 = .ok (.aload_n 0, 1) := by decide +kernel
theorem dX9_same_129 : decode cX9_same 129 = .ok (.getfield 50, 3) := by decide +kernel
theorem dX9_same_132 : decode cX9_same 132 = .ok (.iload 4, 2) := by decide +kernel
theorem dX9_same_134 : decode cX9_same 134 = .ok (.baload, 1) := by decide +kernel
theorem dX9_same_135 : decode cX9_same 135 = .ok (.ifCond .ne 31, 3) := by decide +kernel
theorem dX9_same_138 : decode cX9_same 138 = .ok (.aload_n 0, 1) := by decide +kernel
theorem dX9_same_139 : decode cX9_same 139 = .ok (.getfield 60, 3) := by decide +kernel
theorem dX9_same_142 : decode cX9_same 142 = .ok (.bipush 12, 2) := by decide +kernel
theorem dX9_same_144 : decode cX9_same 144 = .ok (.iload 4, 2) := by decide +kernel
theorem dX9_same_146 : decode cX9_same 146 = .ok (.imul, 1) := by decide +kernel
theorem dX9_same_147 : decode cX9_same 147 = .ok (.iload_n 1, 1) := by decide +kernel
theorem dX9_same_148 : decode cX9_same 148 = .ok (.iadd, 1) := by decide +kernel
theorem dX9_same_149 : decode cX9_same 149 = .ok (.laload, 1) := by decide +kernel
theorem dX9_same_150 : decode cX9_same 150 = .ok (.aload_n 0, 1) := by decide +kernel
theorem dX9_same_151 : decode cX9_same 151 = .ok (.getfield 60, 3) := by decide +kernel
theorem dX9_same_154 : decode cX9_same 154 = .ok (.bipush 12, 2) := by decide +kernel
theorem dX9_same_156 : decode cX9_same 156 = .ok (.iload 4, 2) := by decide +kernel
theorem dX9_same_158 : decode cX9_same 158 = .ok (.imul, 1) := by decide +kernel
theorem dX9_same_159 : decode cX9_same 159 = .ok (.iload_n 2, 1) := by decide +kernel
theorem dX9_same_160 : decode cX9_same 160 = .ok (.iadd, 1) := by decide +kernel
theorem dX9_same_161 : decode cX9_same 161 = .ok (.laload, 1) := by decide +kernel
theorem dX9_same_162 : decode cX9_same 162 = .ok (.lcmp, 1) := by decide +kernel
theorem dX9_same_163 : decode cX9_same 163 = .ok (.ifCond .ne 7, 3) := by decide +kernel
theorem dX9_same_166 : decode cX9_same 166 = .ok (.iconst 1, 1) := by decide +kernel
theorem dX9_same_167 : decode cX9_same 167 = .ok (.goto 4, 3) := by decide +kernel
theorem dX9_same_170 : decode cX9_same 170 = .ok (.iconst 0, 1) := by decide +kernel
theorem dX9_same_171 : decode cX9_same 171 = .ok (.istore_n 3, 1) := by decide +kernel
theorem dX9_same_172 : decode cX9_same 172 = .ok (.iinc 4 1, 3) := by decide +kernel
theorem dX9_same_175 : decode cX9_same 175 = .ok (.goto (-60), 3) := by decide +kernel
theorem dX9_same_178 : decode cX9_same 178 = .ok (.iload_n 3, 1) := by decide +kernel
theorem dX9_same_179 : decode cX9_same 179 = .ok (.ireturn, 1) := by decide +kernel
theorem dX9_put_0 : decode cX9_put 0 = .ok (.aload_n 0, 1) := by decide +kernel
theorem dX9_put_1 : decode cX9_put 1 = .ok (.getfield 123, 3) := by decide +kernel
theorem dX9_put_4 : decode cX9_put 4 = .ok (.ifCond .eq 15, 3) := by decide +kernel
theorem dX9_put_7 : decode cX9_put 7 = .ok (.aload_n 0, 1) := by decide +kernel
theorem dX9_put_8 : decode cX9_put 8 = .ok (.getfield 172, 3) := by decide +kernel
theorem dX9_put_11 : decode cX9_put 11 = .ok (.iconst (-1), 1) := by decide +kernel
theorem dX9_put_12 : decode cX9_put 12 = .ok (.if_icmp .ne 7, 3) := by decide +kernel
theorem dX9_put_15 : decode cX9_put 15 = .ok (.iconst 1, 1) := by decide +kernel
theorem dX9_put_16 : decode cX9_put 16 = .ok (.goto 4, 3) := by decide +kernel
theorem dX9_put_19 : decode cX9_put 19 = .ok (.iconst 0, 1) := by decide +kernel
theorem dX9_put_20 : decode cX9_put 20 = .ok (.istore_n 3, 1) := by decide +kernel
theorem dX9_put_21 : decode cX9_put 21 = .ok (.aload_n 0, 1) := by decide +kernel
theorem dX9_put_22 : decode cX9_put 22 = .ok (.iload_n 3, 1) := by decide +kernel
theorem dX9_put_23 : decode cX9_put 23 = .ok (.ifCond .ne 7, 3) := by decide +kernel
theorem dX9_put_26 : decode cX9_put 26 = .ok (.iconst 1, 1) := by decide +kernel
theorem dX9_put_27 : decode cX9_put 27 = .ok (.goto 4, 3) := by decide +kernel
theorem dX9_put_30 : decode cX9_put 30 = .ok (.iconst 0, 1) := by decide +kernel
theorem dX9_put_31 : decode cX9_put 31 = .ok (.aload_n 0, 1) := by decide +kernel
theorem dX9_put_32 : decode cX9_put 32 = .ok (.iload_n 1, 1) := by decide +kernel
theorem dX9_put_33 : decode cX9_put 33 = .ok (.invokevirtual 162, 3) := by decide +kernel
theorem dX9_put_36 : decode cX9_put 36 = .ok (.ifCond .ne 7, 3) := by decide +kernel
theorem dX9_put_39 : decode cX9_put 39 = .ok (.iconst 1, 1) := by decide +kernel
theorem dX9_put_40 : decode cX9_put 40 = .ok (.goto 4, 3) := by decide +kernel
theorem dX9_put_43 : decode cX9_put 43 = .ok (.iconst 0, 1) := by decide +kernel
theorem dX9_put_44 : decode cX9_put 44 = .ok (.iload_n 3, 1) := by decide +kernel
theorem dX9_put_45 : decode cX9_put 45 = .ok (.ifCond .eq 46, 3) := by decide +kernel
theorem dX9_put_48 : decode cX9_put 48 = .ok (.aload_n 0, 1) := by decide +kernel
theorem dX9_put_49 : decode cX9_put 49 = .ok (.iload_n 1, 1) := by decide +kernel
theorem dX9_put_50 : decode cX9_put 50 = .ok (.invokevirtual 162, 3) := by decide +kernel
theorem dX9_put_53 : decode cX9_put 53 = .ok (.ifCond .eq 38, 3) := by decide +kernel
theorem dX9_put_56 : decode cX9_put 56 = .ok (.aload_n 0, 1) := by decide +kernel
theorem dX9_put_57 : decode cX9_put 57 = .ok (.getfield 28, 3) := by decide +kernel
theorem dX9_put_60 : decode cX9_put 60 = .ok (.iload_n 1, 1) := by decide +kernel
theorem dX9_put_61 : decode cX9_put 61 = .ok (.iaload, 1) := by decide +kernel
theorem dX9_put_62 : decode cX9_put 62 = .ok (.ifCond .ne 25, 3) := by decide +kernel
theorem dX9_put_65 : decode cX9_put 65 = .ok (.iload_n 2, 1) := by decide +kernel
theorem dX9_put_66 : decode cX9_put 66 = .ok (.i2l, 1) := by decide +kernel
theorem dX9_put_67 : decode cX9_put 67 = .ok (.aload_n 0, 1) := by decide +kernel
theorem dX9_put_68 : decode cX9_put 68 = .ok (.getfield 31, 3) := by decide +kernel
theorem dX9_put_71 : decode cX9_put 71 = .ok (.iload_n 1, 1) := by decide +kernel
theorem dX9_put_72 : decode cX9_put 72 = .ok (.iaload, 1) := by decide +kernel
theorem dX9_put_73 : decode cX9_put 73 = .ok (.i2l, 1) := by decide +kernel
theorem dX9_put_74 : decode cX9_put 74 = .ok (.aload_n 0, 1) := by decide +kernel
theorem dX9_put_75 : decode cX9_put 75 = .ok (.getfield 34, 3) := by decide +kernel
theorem dX9_put_78 : decode cX9_put 78 = .ok (.iload_n 1, 1) := by decide +kernel
theorem dX9_put_79 : decode cX9_put 79 = .ok (.iaload, 1) := by decide +kernel
theorem dX9_put_80 : decode cX9_put 80 = .ok (.i2l, 1) := by decide +kernel
theorem dX9_put_81 : decode cX9_put 81 = .ok (.invokestatic 133, 3) := by decide +kernel
theorem dX9_put_84 : decode cX9_put 84 = .ok (.ifCond .ne 7, 3) := by decide +kernel
theorem dX9_put_87 : decode cX9_put 87 = .ok (.iconst 1, 1) := by decide +kernel
theorem dX9_put_88 : decode cX9_put 88 = .ok (.goto 4, 3) := by decide +kernel
theorem dX9_put_91 : decode cX9_put 91 = .ok (.iconst 0, 1) := by decide +kernel
theorem dX9_put_92 : decode cX9_put 92 = .ok (.invokevirtual 314, 3) := by decide +kernel
theorem dX9_put_95 : decode cX9_put 95 = .ok (.ifCond .eq 17, 3) := by decide +kernel
theorem dX9_put_98 : decode cX9_put 98 = .ok (.aload_n 0, 1) := by decide +kernel
theorem dX9_put_99 : decode cX9_put 99 = .ok (.getfield 90, 3) := by decide +kernel
theorem dX9_put_102 : decode cX9_put 102 = .ok (.iload_n 1, 1) := by decide +kernel
theorem dX9_put_103 : decode cX9_put 103 = .ok (.iload_n 2, 1) := by decide +kernel
theorem dX9_put_104 : decode cX9_put 104 = .ok (.iastore, 1) := by decide +kernel
theorem dX9_put_105 : decode cX9_put 105 = .ok (.aload_n 0, 1) := by decide +kernel
theorem dX9_put_106 : decode cX9_put 106 = .ok (.getfield 87, 3) := by decide +kernel
theorem dX9_put_109 : decode cX9_put 109 = .ok (.iload_n 1, 1) := by decide +kernel
theorem dX9_put_110 : decode cX9_put 110 = .ok (.iconst 1, 1) := by decide +kernel
theorem dX9_put_111 : decode cX9_put 111 = .ok (.bastore, 1) := by decide +kernel
theorem dX9_put_112 : decode cX9_put 112 = .ok (.return_, 1) := by decide +kernel
theorem dX9_back_0 : decode cX9_back 0 = .ok (.aload_n 0, 1) := by decide +kernel
theorem dX9_back_1 : decode cX9_back 1 = .ok (.getfield 123, 3) := by decide +kernel
theorem dX9_back_4 : decode cX9_back 4 = .ok (.ifCond .eq 15, 3) := by decide +kernel
theorem dX9_back_7 : decode cX9_back 7 = .ok (.aload_n 0, 1) := by decide +kernel
theorem dX9_back_8 : decode cX9_back 8 = .ok (.getfield 172, 3) := by decide +kernel
theorem dX9_back_11 : decode cX9_back 11 = .ok (.iconst (-1), 1) := by decide +kernel
theorem dX9_back_12 : decode cX9_back 12 = .ok (.if_icmp .ne 7, 3) := by decide +kernel
theorem dX9_back_15 : decode cX9_back 15 = .ok (.iconst 1, 1) := by decide +kernel
theorem dX9_back_16 : decode cX9_back 16 = .ok (.goto 4, 3) := by decide +kernel
theorem dX9_back_19 : decode cX9_back 19 = .ok (.iconst 0, 1) := by decide +kernel
theorem dX9_back_20 : decode cX9_back 20 = .ok (.istore_n 1, 1) := by decide +kernel
theorem dX9_back_21 : decode cX9_back 21 = .ok (.iconst 0, 1) := by decide +kernel
theorem dX9_back_22 : decode cX9_back 22 = .ok (.istore_n 2, 1) := by decide +kernel
theorem dX9_back_23 : decode cX9_back 23 = .ok (.iload_n 2, 1) := by decide +kernel
theorem dX9_back_24 : decode cX9_back 24 = .ok (.aload_n 0, 1) := by decide +kernel
theorem dX9_back_25 : decode cX9_back 25 = .ok (.getfield 141, 3) := by decide +kernel
theorem dX9_back_28 : decode cX9_back 28 = .ok (.if_icmp .ge 37, 3) := by decide +kernel
theorem dX9_back_31 : decode cX9_back 31 = .ok (.iload_n 1, 1) := by decide +kernel
theorem dX9_back_32 : decode cX9_back 32 = .ok (.ifCond .eq 25, 3) := by decide +kernel
theorem dX9_back_35 : decode cX9_back 35 = .ok (.aload_n 0, 1) := by decide +kernel
theorem dX9_back_36 : decode cX9_back 36 = .ok (.getfield 28, 3) := by decide +kernel
theorem dX9_back_39 : decode cX9_back 39 = .ok (.iload_n 2, 1) := by decide +kernel
theorem dX9_back_40 : decode cX9_back 40 = .ok (.iaload, 1) := by decide +kernel
theorem dX9_back_41 : decode cX9_back 41 = .ok (.ifCond .ne 12, 3) := by decide +kernel
theorem dX9_back_44 : decode cX9_back 44 = .ok (.aload_n 0, 1) := by decide +kernel
theorem dX9_back_45 : decode cX9_back 45 = .ok (.getfield 87, 3) := by decide +kernel
theorem dX9_back_48 : decode cX9_back 48 = .ok (.iload_n 2, 1) := by decide +kernel
theorem dX9_back_49 : decode cX9_back 49 = .ok (.baload, 1) := by decide +kernel
theorem dX9_back_50 : decode cX9_back 50 = .ok (.ifCond .eq 7, 3) := by decide +kernel
theorem dX9_back_53 : decode cX9_back 53 = .ok (.iconst 1, 1) := by decide +kernel
theorem dX9_back_54 : decode cX9_back 54 = .ok (.goto 4, 3) := by decide +kernel
theorem dX9_back_57 : decode cX9_back 57 = .ok (.iconst 0, 1) := by decide +kernel
theorem dX9_back_58 : decode cX9_back 58 = .ok (.istore_n 1, 1) := by decide +kernel
theorem dX9_back_59 : decode cX9_back 59 = .ok (.iinc 2 1, 3) := by decide +kernel
theorem dX9_back_62 : decode cX9_back 62 = .ok (.goto (-39), 3) := by decide +kernel
theorem dX9_back_65 : decode cX9_back 65 = .ok (.aload_n 0, 1) := by decide +kernel
theorem dX9_back_66 : decode cX9_back 66 = .ok (.iload_n 1, 1) := by decide +kernel
theorem dX9_back_67 : decode cX9_back 67 = .ok (.ifCond .ne 7, 3) := by decide +kernel
theorem dX9_back_70 : decode cX9_back 70 = .ok (.iconst 1, 1) := by decide +kernel
theorem dX9_back_71 : decode cX9_back 71 = .ok (.goto 4, 3) := by decide +kernel
theorem dX9_back_74 : decode cX9_back 74 = .ok (.iconst 0, 1) := by decide +kernel
theorem dX9_back_75 : decode cX9_back 75 = .ok (.iconst 0, 1) := by decide +kernel
theorem dX9_back_76 : decode cX9_back 76 = .ok (.invokevirtual 144, 3) := by decide +kernel
theorem dX9_back_79 : decode cX9_back 79 = .ok (.ifCond .ne 5, 3) := by decide +kernel
theorem dX9_back_82 : decode cX9_back 82 = .ok (.iconst 0, 1) := by decide +kernel
theorem dX9_back_83 : decode cX9_back 83 = .ok (.ireturn, 1) := by decide +kernel
theorem dX9_back_84 : decode cX9_back 84 = .ok (.iconst 0, 1) := by decide +kernel
theorem dX9_back_85 : decode cX9_back 85 = .ok (.istore_n 2, 1) := by decide +kernel
theorem dX9_back_86 : decode cX9_back 86 = .ok (.iload_n 2, 1) := by decide +kernel
theorem dX9_back_87 : decode cX9_back 87 = .ok (.aload_n 0, 1) := by decide +kernel
theorem dX9_back_88 : decode cX9_back 88 = .ok (.getfield 141, 3) := by decide +kernel
theorem dX9_back_91 : decode cX9_back 91 = .ok (.if_icmp .ge 39, 3) := by decide +kernel
theorem dX9_back_94 : decode cX9_back 94 = .ok (.aload_n 0, 1) := by decide +kernel
theorem dX9_back_95 : decode cX9_back 95 = .ok (.getfield 99, 3) := by decide +kernel
theorem dX9_back_98 : decode cX9_back 98 = .ok (.iload_n 2, 1) := by decide +kernel
theorem dX9_back_99 : decode cX9_back 99 = .ok (.aload_n 0, 1) := by decide +kernel
theorem dX9_back_100 : decode cX9_back 100 = .ok (.getfield 28, 3) := by decide +kernel
theorem dX9_back_103 : decode cX9_back 103 = .ok (.iload_n 2, 1) := by decide +kernel
theorem dX9_back_104 : decode cX9_back 104 = .ok (.iaload, 1) := by decide +kernel
theorem dX9_back_105 : decode cX9_back 105 = .ok (.ifCond .ne 12, 3) := by decide +kernel
theorem dX9_back_108 : decode cX9_back 108 = .ok (.aload_n 0, 1) := by decide +kernel
theorem dX9_back_109 : decode cX9_back 109 = .ok (.getfield 90, 3) := by decide +kernel
theorem dX9_back_112 : decode cX9_back 112 = .ok (.iload_n 2, 1) := by decide +kernel
theorem dX9_back_113 : decode cX9_back 113 = .ok (.iaload, 1) := by decide +kernel
theorem dX9_back_114 : decode cX9_back 114 = .ok (.goto 9, 3) := by decide +kernel
theorem dX9_back_117 : decode cX9_back 117 = .ok (.aload_n 0, 1) := by decide +kernel
theorem dX9_back_118 : decode cX9_back 118 = .ok (.getfield 31, 3) := by decide +kernel
theorem dX9_back_121 : decode cX9_back 121 = .ok (.iload_n 2, 1) := by decide +kernel
theorem dX9_back_122 : decode cX9_back 122 = .ok (.iaload, 1) := by decide +kernel
theorem dX9_back_123 : decode cX9_back 123 = .ok (.iastore, 1) := by decide +kernel
theorem dX9_back_124 : decode cX9_back 124 = .ok (.iinc 2 1, 3) := by decide +kernel
theorem dX9_back_127 : decode cX9_back 127 = .ok (.goto (-41), 3) := by decide +kernel
theorem dX9_back_130 : decode cX9_back 130 = .ok (.aload_n 0, 1) := by decide +kernel
theorem dX9_back_131 : decode cX9_back 131 = .ok (.getfield 249, 3) := by decide +kernel
theorem dX9_back_134 : decode cX9_back 134 = .ok (.iconst 1, 1) := by decide +kernel
theorem dX9_back_135 : decode cX9_back 135 = .ok (.isub, 1) := by decide +kernel
theorem dX9_back_136 : decode cX9_back 136 = .ok (.istore_n 2, 1) := by decide +kernel
theorem dX9_back_137 : decode cX9_back 137 = .ok (.iload_n 2, 1) := by decide +kernel
theorem dX9_back_138 : decode cX9_back 138 = .ok (.ifCond .lt 77, 3) := by decide +kernel
theorem dX9_back_141 : decode cX9_back 141 = .ok (.aload_n 0, 1) := by decide +kernel
theorem dX9_back_142 : decode cX9_back 142 = .ok (.getfield 78, 3) := by decide +kernel
theorem dX9_back_145 : decode cX9_back 145 = .ok (.iload_n 2, 1) := by decide +kernel
theorem dX9_back_146 : decode cX9_back 146 = .ok (.iaload, 1) := by decide +kernel
theorem dX9_back_147 : decode cX9_back 147 = .ok (.istore_n 3, 1) := by decide +kernel
theorem dX9_back_148 : decode cX9_back 148 = .ok (.aload_n 0, 1) := by decide +kernel
theorem dX9_back_149 : decode cX9_back 149 = .ok (.getfield 81, 3) := by decide +kernel
theorem dX9_back_152 : decode cX9_back 152 = .ok (.iload_n 3, 1) := by decide +kernel
theorem dX9_back_153 : decode cX9_back 153 = .ok (.laload, 1) := by decide +kernel
theorem dX9_back_154 : decode cX9_back 154 = .ok (.lstore 4, 2) := by decide +kernel
theorem dX9_back_156 : decode cX9_back 156 = .ok (.iconst 0, 1) := by decide +kernel
theorem dX9_back_157 : decode cX9_back 157 = .ok (.istore 6, 2) := by decide +kernel
theorem dX9_back_159 : decode cX9_back 159 = .ok (.iload 6, 2) := by decide +kernel
theorem dX9_back_161 : decode cX9_back 161 = .ok (.aload_n 0, 1) := by decide +kernel
theorem dX9_back_162 : decode cX9_back 162 = .ok (.getfield 141, 3) := by decide +kernel
theorem dX9_back_165 : decode cX9_back 165 = .ok (.if_icmp .ge 35, 3) := by decide +kernel
theorem dX9_back_168 : decode cX9_back 168 = .ok (.lload 4, 2) := by decide +kernel
theorem dX9_back_170 : decode cX9_back 170 = .ok (.aload_n 0, 1) := by decide +kernel
theorem dX9_back_171 : decode cX9_back 171 = .ok (.getfield 84, 3) := by decide +kernel
theorem dX9_back_174 : decode cX9_back 174 = .ok (.bipush 12, 2) := by decide +kernel
theorem dX9_back_176 : decode cX9_back 176 = .ok (.iload_n 3, 1) := by decide +kernel
theorem dX9_back_177 : decode cX9_back 177 = .ok (.imul, 1) := by decide +kernel
theorem dX9_back_178 : decode cX9_back 178 = .ok (.iload 6, 2) := by decide +kernel
theorem dX9_back_180 : decode cX9_back 180 = .ok (.iadd, 1) := by decide +kernel
theorem dX9_back_181 : decode cX9_back 181 = .ok (.laload, 1) := by decide +kernel
theorem dX9_back_182 : decode cX9_back 182 = .ok (.aload_n 0, 1) := by decide +kernel
theorem dX9_back_183 : decode cX9_back 183 = .ok (.getfield 99, 3) := by decide +kernel
theorem dX9_back_186 : decode cX9_back 186 = .ok (.iload 6, 2) := by decide +kernel
theorem dX9_back_188 : decode cX9_back 188 = .ok (.iaload, 1) := by decide +kernel
theorem dX9_back_189 : decode cX9_back 189 = .ok (.i2l, 1) := by decide +kernel
theorem dX9_back_190 : decode cX9_back 190 = .ok (.lmul, 1) := by decide +kernel
theorem dX9_back_191 : decode cX9_back 191 = .ok (.ladd, 1) := by decide +kernel
theorem dX9_back_192 : decode cX9_back 192 = .ok (.lstore 4, 2) := by decide +kernel
theorem dX9_back_194 : decode cX9_back 194 = .ok (.iinc 6 1, 3) := by decide +kernel
theorem dX9_back_197 : decode cX9_back 197 = .ok (.goto (-38), 3) := by decide +kernel
theorem dX9_back_200 : decode cX9_back 200 = .ok (.aload_n 0, 1) := by decide +kernel
theorem dX9_back_201 : decode cX9_back 201 = .ok (.getfield 99, 3) := by decide +kernel
theorem dX9_back_204 : decode cX9_back 204 = .ok (.iload_n 3, 1) := by decide +kernel
theorem dX9_back_205 : decode cX9_back 205 = .ok (.lload 4, 2) := by decide +kernel
theorem dX9_back_207 : decode cX9_back 207 = .ok (.l2i, 1) := by decide +kernel
theorem dX9_back_208 : decode cX9_back 208 = .ok (.iastore, 1) := by decide +kernel
theorem dX9_back_209 : decode cX9_back 209 = .ok (.iinc 2 (-1), 3) := by decide +kernel
theorem dX9_back_212 : decode cX9_back 212 = .ok (.goto (-75), 3) := by decide +kernel
theorem dX9_back_215 : decode cX9_back 215 = .ok (.iconst 1, 1) := by decide +kernel
theorem dX9_back_216 : decode cX9_back 216 = .ok (.istore_n 2, 1) := by decide +kernel
theorem dX9_back_217 : decode cX9_back 217 = .ok (.iconst 0, 1) := by decide +kernel
theorem dX9_back_218 : decode cX9_back 218 = .ok (.istore_n 3, 1) := by decide +kernel
theorem dX9_back_219 : decode cX9_back 219 = .ok (.iload_n 3, 1) := by decide +kernel
theorem dX9_back_220 : decode cX9_back 220 = .ok (.aload_n 0, 1) := by decide +kernel
theorem dX9_back_221 : decode cX9_back 221 = .ok (.getfield 141, 3) := by decide +kernel
theorem dX9_back_224 : decode cX9_back 224 = .ok (.if_icmp .ge 54, 3) := by decide +kernel
theorem dX9_back_227 : decode cX9_back 227 = .ok (.aload_n 0, 1) := by decide +kernel
theorem dX9_back_228 : decode cX9_back 228 = .ok (.getfield 93, 3) := by decide +kernel
theorem dX9_back_231 : decode cX9_back 231 = .ok (.iload_n 3, 1) := by decide +kernel
theorem dX9_back_232 : decode cX9_back 232 = .ok (.aload_n 0, 1) := by decide +kernel
theorem dX9_back_233 : decode cX9_back 233 = .ok (.getfield 99, 3) := by decide +kernel
theorem dX9_back_236 : decode cX9_back 236 = .ok (.iload_n 3, 1) := by decide +kernel
theorem dX9_back_237 : decode cX9_back 237 = .ok (.iaload, 1) := by decide +kernel
theorem dX9_back_238 : decode cX9_back 238 = .ok (.iastore, 1) := by decide +kernel
theorem dX9_back_239 : decode cX9_back 239 = .ok (.aload_n 0, 1) := by decide +kernel
theorem dX9_back_240 : decode cX9_back 240 = .ok (.getfield 99, 3) := by decide +kernel
theorem dX9_back_243 : decode cX9_back 243 = .ok (.iload_n 3, 1) := by decide +kernel
theorem dX9_back_244 : decode cX9_back 244 = .ok (.iaload, 1) := by decide +kernel
theorem dX9_back_245 : decode cX9_back 245 = .ok (.i2l, 1) := by decide +kernel
theorem dX9_back_246 : decode cX9_back 246 = .ok (.aload_n 0, 1) := by decide +kernel
theorem dX9_back_247 : decode cX9_back 247 = .ok (.getfield 7, 3) := by decide +kernel
theorem dX9_back_250 : decode cX9_back 250 = .ok (.iload_n 3, 1) := by decide +kernel
theorem dX9_back_251 : decode cX9_back 251 = .ok (.iaload, 1) := by decide +kernel
theorem dX9_back_252 : decode cX9_back 252 = .ok (.i2l, 1) := by decide +kernel
theorem dX9_back_253 : decode cX9_back 253 = .ok (.aload_n 0, 1) := by decide +kernel
theorem dX9_back_254 : decode cX9_back 254 = .ok (.getfield 13, 3) := by decide +kernel
theorem dX9_back_257 : decode cX9_back 257 = .ok (.iload_n 3, 1) := by decide +kernel
theorem dX9_back_258 : decode cX9_back 258 = .ok (.iaload, 1) := by decide +kernel
theorem dX9_back_259 : decode cX9_back 259 = .ok (.i2l, 1) := by decide +kernel
theorem dX9_back_260 : decode cX9_back 260 = .ok (.invokestatic 133, 3) := by decide +kernel
theorem dX9_back_263 : decode cX9_back 263 = .ok (.ifCond .eq 7, 3) := by decide +kernel
theorem dX9_back_266 : decode cX9_back 266 = .ok (.iload_n 2, 1) := by decide +kernel
theorem dX9_back_267 : decode cX9_back 267 = .ok (.goto 4, 3) := by decide +kernel
theorem dX9_back_270 : decode cX9_back 270 = .ok (.iconst 0, 1) := by decide +kernel
theorem dX9_back_271 : decode cX9_back 271 = .ok (.istore_n 2, 1) := by decide +kernel
theorem dX9_back_272 : decode cX9_back 272 = .ok (.iinc 3 1, 3) := by decide +kernel
theorem dX9_back_275 : decode cX9_back 275 = .ok (.goto (-56), 3) := by decide +kernel
theorem dX9_back_278 : decode cX9_back 278 = .ok (.iconst 0, 1) := by decide +kernel
theorem dX9_back_279 : decode cX9_back 279 = .ok (.istore_n 3, 1) := by decide +kernel
theorem dX9_back_280 : decode cX9_back 280 = .ok (.iload_n 3, 1) := by decide +kernel
theorem dX9_back_281 : decode cX9_back 281 = .ok (.aload_n 0, 1) := by decide +kernel
theorem dX9_back_282 : decode cX9_back 282 = .ok (.getfield 151, 3) := by decide +kernel
theorem dX9_back_285 : decode cX9_back 285 = .ok (.if_icmp .ge 23, 3) := by decide +kernel
theorem dX9_back_288 : decode cX9_back 288 = .ok (.aload_n 0, 1) := by decide +kernel
theorem dX9_back_289 : decode cX9_back 289 = .ok (.iload_n 3, 1) := by decide +kernel
theorem dX9_back_290 : decode cX9_back 290 = .ok (.invokevirtual 330, 3) := by decide +kernel
theorem dX9_back_293 : decode cX9_back 293 = .ok (.ifCond .eq 7, 3) := by decide +kernel
theorem dX9_back_296 : decode cX9_back 296 = .ok (.iload_n 2, 1) := by decide +kernel
theorem dX9_back_297 : decode cX9_back 297 = .ok (.goto 4, 3) := by decide +kernel
theorem dX9_back_300 : decode cX9_back 300 = .ok (.iconst 0, 1) := by decide +kernel
theorem dX9_back_301 : decode cX9_back 301 = .ok (.istore_n 2, 1) := by decide +kernel
theorem dX9_back_302 : decode cX9_back 302 = .ok (.iinc 3 1, 3) := by decide +kernel
theorem dX9_back_305 : decode cX9_back 305 = .ok (.goto (-25), 3) := by decide +kernel
theorem dX9_back_308 : decode cX9_back 308 = .ok (.aload_n 0, 1) := by decide +kernel
theorem dX9_back_309 : decode cX9_back 309 = .ok (.iconst 1, 1) := by decide +kernel
theorem dX9_back_310 : decode cX9_back 310 = .ok (.putfield 116, 3) := by decide +kernel
theorem dX9_back_313 : decode cX9_back 313 = .ok (.iload_n 2, 1) := by decide +kernel
theorem dX9_back_314 : decode cX9_back 314 = .ok (.ireturn, 1) := by decide +kernel
theorem dX9_at_0 : decode cX9_at 0 = .ok (.aload_n 0, 1) := by decide +kernel
theorem dX9_at_1 : decode cX9_at 1 = .ok (.aload_n 0, 1) := by decide +kernel
theorem dX9_at_2 : decode cX9_at 2 = .ok (.getfield 123, 3) := by decide +kernel
theorem dX9_at_5 : decode cX9_at 5 = .ok (.ifCond .eq 10, 3) := by decide +kernel
theorem dX9_at_8 : decode cX9_at 8 = .ok (.aload_n 0, 1) := by decide +kernel
theorem dX9_at_9 : decode cX9_at 9 = .ok (.getfield 116, 3) := by decide +kernel
theorem dX9_at_12 : decode cX9_at 12 = .ok (.ifCond .ne 7, 3) := by decide +kernel
theorem dX9_at_15 : decode cX9_at 15 = .ok (.iconst 1, 1) := by decide +kernel
theorem dX9_at_16 : decode cX9_at 16 = .ok (.goto 4, 3) := by decide +kernel
theorem dX9_at_19 : decode cX9_at 19 = .ok (.iconst 0, 1) := by decide +kernel
theorem dX9_at_20 : decode cX9_at 20 = .ok (.aload_n 0, 1) := by decide +kernel
theorem dX9_at_21 : decode cX9_at 21 = .ok (.iload_n 1, 1) := by decide +kernel
theorem dX9_at_22 : decode cX9_at 22 = .ok (.invokevirtual 162, 3) := by decide +kernel
theorem dX9_at_25 : decode cX9_at 25 = .ok (.ifCond .ne 7, 3) := by decide +kernel
theorem dX9_at_28 : decode cX9_at 28 = .ok (.iconst 1, 1) := by decide +kernel
theorem dX9_at_29 : decode cX9_at 29 = .ok (.goto 4, 3) := by decide +kernel
theorem dX9_at_32 : decode cX9_at 32 = .ok (.iconst 0, 1) := by decide +kernel
theorem dX9_at_33 : decode cX9_at 33 = .ok (.invokevirtual 144, 3) := by decide +kernel
theorem dX9_at_36 : decode cX9_at 36 = .ok (.ifCond .eq 12, 3) := by decide +kernel
theorem dX9_at_39 : decode cX9_at 39 = .ok (.aload_n 0, 1) := by decide +kernel
theorem dX9_at_40 : decode cX9_at 40 = .ok (.getfield 93, 3) := by decide +kernel
theorem dX9_at_43 : decode cX9_at 43 = .ok (.iload_n 1, 1) := by decide +kernel
theorem dX9_at_44 : decode cX9_at 44 = .ok (.iaload, 1) := by decide +kernel
theorem dX9_at_45 : decode cX9_at 45 = .ok (.goto 4, 3) := by decide +kernel
theorem dX9_at_48 : decode cX9_at 48 = .ok (.iconst 0, 1) := by decide +kernel
theorem dX9_at_49 : decode cX9_at 49 = .ok (.ireturn, 1) := by decide +kernel
theorem dX9_value_0 : decode cX9_value 0 = .ok (.lconst 0, 1) := by decide +kernel
theorem dX9_value_1 : decode cX9_value 1 = .ok (.lstore_n 1, 1) := by decide +kernel
theorem dX9_value_2 : decode cX9_value 2 = .ok (.aload_n 0, 1) := by decide +kernel
theorem dX9_value_3 : decode cX9_value 3 = .ok (.aload_n 0, 1) := by decide +kernel
theorem dX9_value_4 : decode cX9_value 4 = .ok (.getfield 123, 3) := by decide +kernel
theorem dX9_value_7 : decode cX9_value 7 = .ok (.ifCond .eq 10, 3) := by decide +kernel
theorem dX9_value_10 : decode cX9_value 10 = .ok (.aload_n 0, 1) := by decide +kernel
theorem dX9_value_11 : decode cX9_value 11 = .ok (.getfield 116, 3) := by decide +kernel
theorem dX9_value_14 : decode cX9_value 14 = .ok (.ifCond .ne 7, 3) := by decide +kernel
theorem dX9_value_17 : decode cX9_value 17 = .ok (.iconst 1, 1) := by decide +kernel
theorem dX9_value_18 : decode cX9_value 18 = .ok (.goto 4, 3) := by decide +kernel
theorem dX9_value_21 : decode cX9_value 21 = .ok (.iconst 0, 1) := by decide +kernel
theorem dX9_value_22 : decode cX9_value 22 = .ok (.iconst 0, 1) := by decide +kernel
theorem dX9_value_23 : decode cX9_value 23 = .ok (.invokevirtual 144, 3) := by decide +kernel
theorem dX9_value_26 : decode cX9_value 26 = .ok (.ifCond .eq 37, 3) := by decide +kernel
theorem dX9_value_29 : decode cX9_value 29 = .ok (.iconst 0, 1) := by decide +kernel
theorem dX9_value_30 : decode cX9_value 30 = .ok (.istore_n 3, 1) := by decide +kernel
theorem dX9_value_31 : decode cX9_value 31 = .ok (.iload_n 3, 1) := by decide +kernel
theorem dX9_value_32 : decode cX9_value 32 = .ok (.aload_n 0, 1) := by decide +kernel
theorem dX9_value_33 : decode cX9_value 33 = .ok (.getfield 141, 3) := by decide +kernel
theorem dX9_value_36 : decode cX9_value 36 = .ok (.if_icmp .ge 27, 3) := by decide +kernel
theorem dX9_value_39 : decode cX9_value 39 = .ok (.lload_n 1, 1) := by decide +kernel
theorem dX9_value_40 : decode cX9_value 40 = .ok (.aload_n 0, 1) := by decide +kernel
theorem dX9_value_41 : decode cX9_value 41 = .ok (.getfield 16, 3) := by decide +kernel
theorem dX9_value_44 : decode cX9_value 44 = .ok (.iload_n 3, 1) := by decide +kernel
theorem dX9_value_45 : decode cX9_value 45 = .ok (.iaload, 1) := by decide +kernel
theorem dX9_value_46 : decode cX9_value 46 = .ok (.i2l, 1) := by decide +kernel
theorem dX9_value_47 : decode cX9_value 47 = .ok (.aload_n 0, 1) := by decide +kernel
theorem dX9_value_48 : decode cX9_value 48 = .ok (.getfield 93, 3) := by decide +kernel
theorem dX9_value_51 : decode cX9_value 51 = .ok (.iload_n 3, 1) := by decide +kernel
theorem dX9_value_52 : decode cX9_value 52 = .ok (.iaload, 1) := by decide +kernel
theorem dX9_value_53 : decode cX9_value 53 = .ok (.i2l, 1) := by decide +kernel
theorem dX9_value_54 : decode cX9_value 54 = .ok (.lmul, 1) := by decide +kernel
theorem dX9_value_55 : decode cX9_value 55 = .ok (.ladd, 1) := by decide +kernel
theorem dX9_value_56 : decode cX9_value 56 = .ok (.lstore_n 1, 1) := by decide +kernel
theorem dX9_value_57 : decode cX9_value 57 = .ok (.iinc 3 1, 3) := by decide +kernel
theorem dX9_value_60 : decode cX9_value 60 = .ok (.goto (-29), 3) := by decide +kernel
theorem dX9_value_63 : decode cX9_value 63 = .ok (.lload_n 1, 1) := by decide +kernel
theorem dX9_value_64 : decode cX9_value 64 = .ok (.lreturn, 1) := by decide +kernel
theorem dX9_price_0 : decode cX9_price 0 = .ok (.iload_n 1, 1) := by decide +kernel
theorem dX9_price_1 : decode cX9_price 1 = .ok (.ifCond .eq 10, 3) := by decide +kernel
theorem dX9_price_4 : decode cX9_price 4 = .ok (.aload_n 0, 1) := by decide +kernel
theorem dX9_price_5 : decode cX9_price 5 = .ok (.getfield 222, 3) := by decide +kernel
theorem dX9_price_8 : decode cX9_price 8 = .ok (.goto 4, 3) := by decide +kernel
theorem dX9_price_11 : decode cX9_price 11 = .ok (.lconst 0, 1) := by decide +kernel
theorem dX9_price_12 : decode cX9_price 12 = .ok (.lstore_n 2, 1) := by decide +kernel
theorem dX9_price_13 : decode cX9_price 13 = .ok (.iconst 0, 1) := by decide +kernel
theorem dX9_price_14 : decode cX9_price 14 = .ok (.istore 4, 2) := by decide +kernel
theorem dX9_price_16 : decode cX9_price 16 = .ok (.iload 4, 2) := by decide +kernel
theorem dX9_price_18 : decode cX9_price 18 = .ok (.aload_n 0, 1) := by decide +kernel
theorem dX9_price_19 : decode cX9_price 19 = .ok (.getfield 141, 3) := by decide +kernel
theorem dX9_price_22 : decode cX9_price 22 = .ok (.if_icmp .ge 66, 3) := by decide +kernel
theorem dX9_price_25 : decode cX9_price 25 = .ok (.lload_n 2, 1) := by decide +kernel
theorem dX9_price_26 : decode cX9_price 26 = .ok (.iload_n 1, 1) := by decide +kernel
theorem dX9_price_27 : decode cX9_price 27 = .ok (.ifCond .ne 23, 3) := by decide +kernel
theorem dX9_price_30 : decode cX9_price 30 = .ok (.aload_n 0, 1) := by decide +kernel
theorem dX9_price_31 : decode cX9_price 31 = .ok (.getfield 16, 3) := by decide +kernel
theorem dX9_price_34 : decode cX9_price 34 = .ok (.iload 4, 2) := by decide +kernel
theorem dX9_price_36 : decode cX9_price 36 = .ok (.iaload, 1) := by decide +kernel
theorem dX9_price_37 : decode cX9_price 37 = .ok (.i2l, 1) := by decide +kernel
theorem dX9_price_38 : decode cX9_price 38 = .ok (.aload_n 0, 1) := by decide +kernel
theorem dX9_price_39 : decode cX9_price 39 = .ok (.getfield 99, 3) := by decide +kernel
theorem dX9_price_42 : decode cX9_price 42 = .ok (.iload 4, 2) := by decide +kernel
theorem dX9_price_44 : decode cX9_price 44 = .ok (.iaload, 1) := by decide +kernel
theorem dX9_price_45 : decode cX9_price 45 = .ok (.i2l, 1) := by decide +kernel
theorem dX9_price_46 : decode cX9_price 46 = .ok (.lmul, 1) := by decide +kernel
theorem dX9_price_47 : decode cX9_price 47 = .ok (.goto 33, 3) := by decide +kernel
theorem dX9_price_50 : decode cX9_price 50 = .ok (.aload_n 0, 1) := by decide +kernel
theorem dX9_price_51 : decode cX9_price 51 = .ok (.getfield 28, 3) := by decide +kernel
theorem dX9_price_54 : decode cX9_price 54 = .ok (.iload 4, 2) := by decide +kernel
theorem dX9_price_56 : decode cX9_price 56 = .ok (.iaload, 1) := by decide +kernel
theorem dX9_price_57 : decode cX9_price 57 = .ok (.ifCond .ne 22, 3) := by decide +kernel
theorem dX9_price_60 : decode cX9_price 60 = .ok (.aload_n 0, 1) := by decide +kernel
theorem dX9_price_61 : decode cX9_price 61 = .ok (.getfield 43, 3) := by decide +kernel
theorem dX9_price_64 : decode cX9_price 64 = .ok (.iload 4, 2) := by decide +kernel
theorem dX9_price_66 : decode cX9_price 66 = .ok (.laload, 1) := by decide +kernel
theorem dX9_price_67 : decode cX9_price 67 = .ok (.aload_n 0, 1) := by decide +kernel
theorem dX9_price_68 : decode cX9_price 68 = .ok (.getfield 99, 3) := by decide +kernel
theorem dX9_price_71 : decode cX9_price 71 = .ok (.iload 4, 2) := by decide +kernel
theorem dX9_price_73 : decode cX9_price 73 = .ok (.iaload, 1) := by decide +kernel
theorem dX9_price_74 : decode cX9_price 74 = .ok (.i2l, 1) := by decide +kernel
theorem dX9_price_75 : decode cX9_price 75 = .ok (.lmul, 1) := by decide +kernel
theorem dX9_price_76 : decode cX9_price 76 = .ok (.goto 4, 3) := by decide +kernel
theorem dX9_price_79 : decode cX9_price 79 = .ok (.lconst 0, 1) := by decide +kernel
theorem dX9_price_80 : decode cX9_price 80 = .ok (.ladd, 1) := by decide +kernel
theorem dX9_price_81 : decode cX9_price 81 = .ok (.lstore_n 2, 1) := by decide +kernel
theorem dX9_price_82 : decode cX9_price 82 = .ok (.iinc 4 1, 3) := by decide +kernel
theorem dX9_price_85 : decode cX9_price 85 = .ok (.goto (-69), 3) := by decide +kernel
theorem dX9_price_88 : decode cX9_price 88 = .ok (.lload_n 2, 1) := by decide +kernel
theorem dX9_price_89 : decode cX9_price 89 = .ok (.lreturn, 1) := by decide +kernel
theorem dX9_best_0 : decode cX9_best 0 = .ok (.aload_n 0, 1) := by decide +kernel
theorem dX9_best_1 : decode cX9_best 1 = .ok (.iload_n 1, 1) := by decide +kernel
theorem dX9_best_2 : decode cX9_best 2 = .ok (.ifCond .eq 14, 3) := by decide +kernel
theorem dX9_best_5 : decode cX9_best 5 = .ok (.aload_n 0, 1) := by decide +kernel
theorem dX9_best_6 : decode cX9_best 6 = .ok (.getfield 123, 3) := by decide +kernel
theorem dX9_best_9 : decode cX9_best 9 = .ok (.ifCond .ne 7, 3) := by decide +kernel
theorem dX9_best_12 : decode cX9_best 12 = .ok (.iconst 1, 1) := by decide +kernel
theorem dX9_best_13 : decode cX9_best 13 = .ok (.goto 4, 3) := by decide +kernel
theorem dX9_best_16 : decode cX9_best 16 = .ok (.iconst 0, 1) := by decide +kernel
theorem dX9_best_17 : decode cX9_best 17 = .ok (.iconst 0, 1) := by decide +kernel
theorem dX9_best_18 : decode cX9_best 18 = .ok (.invokevirtual 144, 3) := by decide +kernel
theorem dX9_best_21 : decode cX9_best 21 = .ok (.ifCond .ne 5, 3) := by decide +kernel
theorem dX9_best_24 : decode cX9_best 24 = .ok (.iconst 0, 1) := by decide +kernel
theorem dX9_best_25 : decode cX9_best 25 = .ok (.ireturn, 1) := by decide +kernel
theorem dX9_best_26 : decode cX9_best 26 = .ok (.aload_n 0, 1) := by decide +kernel
theorem dX9_best_27 : decode cX9_best 27 = .ok (.iconst 0, 1) := by decide +kernel
theorem dX9_best_28 : decode cX9_best 28 = .ok (.putfield 120, 3) := by decide +kernel
theorem dX9_best_31 : decode cX9_best 31 = .ok (.iload_n 1, 1) := by decide +kernel
theorem dX9_best_32 : decode cX9_best 32 = .ok (.ifCond .eq 13, 3) := by decide +kernel
theorem dX9_best_35 : decode cX9_best 35 = .ok (.aload_n 0, 1) := by decide +kernel
theorem dX9_best_36 : decode cX9_best 36 = .ok (.getfield 172, 3) := by decide +kernel
theorem dX9_best_39 : decode cX9_best 39 = .ok (.iconst (-1), 1) := by decide +kernel
theorem dX9_best_40 : decode cX9_best 40 = .ok (.if_icmp .eq 5, 3) := by decide +kernel
theorem dX9_best_43 : decode cX9_best 43 = .ok (.iconst 0, 1) := by decide +kernel
theorem dX9_best_44 : decode cX9_best 44 = .ok (.ireturn, 1) := by decide +kernel
theorem dX9_best_45 : decode cX9_best 45 = .ok (.aload_n 0, 1) := by decide +kernel
theorem dX9_best_46 : decode cX9_best 46 = .ok (.iload_n 1, 1) := by decide +kernel
theorem dX9_best_47 : decode cX9_best 47 = .ok (.invokevirtual 322, 3) := by decide +kernel
theorem dX9_best_50 : decode cX9_best 50 = .ok (.istore_n 2, 1) := by decide +kernel
theorem dX9_best_51 : decode cX9_best 51 = .ok (.iload_n 2, 1) := by decide +kernel
theorem dX9_best_52 : decode cX9_best 52 = .ok (.sipush 4000, 3) := by decide +kernel
theorem dX9_best_55 : decode cX9_best 55 = .ok (.if_icmp .le 5, 3) := by decide +kernel
theorem dX9_best_58 : decode cX9_best 58 = .ok (.iconst (-1), 1) := by decide +kernel
theorem dX9_best_59 : decode cX9_best 59 = .ok (.ireturn, 1) := by decide +kernel
theorem dX9_best_60 : decode cX9_best 60 = .ok (.aload_n 0, 1) := by decide +kernel
theorem dX9_best_61 : decode cX9_best 61 = .ok (.iload_n 1, 1) := by decide +kernel
theorem dX9_best_62 : decode cX9_best 62 = .ok (.invokevirtual 326, 3) := by decide +kernel
theorem dX9_best_65 : decode cX9_best 65 = .ok (.iconst 0, 1) := by decide +kernel
theorem dX9_best_66 : decode cX9_best 66 = .ok (.istore_n 3, 1) := by decide +kernel
theorem dX9_best_67 : decode cX9_best 67 = .ok (.iload_n 3, 1) := by decide +kernel
theorem dX9_best_68 : decode cX9_best 68 = .ok (.iload_n 2, 1) := by decide +kernel
theorem dX9_best_69 : decode cX9_best 69 = .ok (.if_icmp .ge 144, 3) := by decide +kernel
theorem dX9_best_72 : decode cX9_best 72 = .ok (.iconst 1, 1) := by decide +kernel
theorem dX9_best_73 : decode cX9_best 73 = .ok (.istore 4, 2) := by decide +kernel
theorem dX9_best_75 : decode cX9_best 75 = .ok (.iconst 0, 1) := by decide +kernel
theorem dX9_best_76 : decode cX9_best 76 = .ok (.istore 5, 2) := by decide +kernel
theorem dX9_best_78 : decode cX9_best 78 = .ok (.iload 5, 2) := by decide +kernel
theorem dX9_best_80 : decode cX9_best 80 = .ok (.aload_n 0, 1) := by decide +kernel
theorem dX9_best_81 : decode cX9_best 81 = .ok (.getfield 151, 3) := by decide +kernel
theorem dX9_best_84 : decode cX9_best 84 = .ok (.if_icmp .ge 46, 3) := by decide +kernel
theorem dX9_best_87 : decode cX9_best 87 = .ok (.iload 4, 2) := by decide +kernel
theorem dX9_best_89 : decode cX9_best 89 = .ok (.ifCond .eq 32, 3) := by decide +kernel
theorem dX9_best_92 : decode cX9_best 92 = .ok (.iload_n 1, 1) := by decide +kernel
theorem dX9_best_93 : decode cX9_best 93 = .ok (.ifCond .eq 15, 3) := by decide +kernel
theorem dX9_best_96 : decode cX9_best 96 = .ok (.aload_n 0, 1) := by decide +kernel
theorem dX9_best_97 : decode cX9_best 97 = .ok (.iload 5, 2) := by decide +kernel
theorem dX9_best_99 : decode cX9_best 99 = .ok (.invokevirtual 348, 3) := by decide +kernel
theorem dX9_best_102 : decode cX9_best 102 = .ok (.ifCond .eq 19, 3) := by decide +kernel
theorem dX9_best_105 : decode cX9_best 105 = .ok (.goto 12, 3) := by decide +kernel
theorem dX9_best_108 : decode cX9_best 108 = .ok (.aload_n 0, 1) := by decide +kernel
theorem dX9_best_109 : decode cX9_best 109 = .ok (.iload 5, 2) := by decide +kernel
theorem dX9_best_111 : decode cX9_best 111 = .ok (.invokevirtual 330, 3) := by decide +kernel
theorem dX9_best_114 : decode cX9_best 114 = .ok (.ifCond .eq 7, 3) := by decide +kernel
theorem dX9_best_117 : decode cX9_best 117 = .ok (.iconst 1, 1) := by decide +kernel
theorem dX9_best_118 : decode cX9_best 118 = .ok (.goto 4, 3) := by decide +kernel
theorem dX9_best_121 : decode cX9_best 121 = .ok (.iconst 0, 1) := by decide +kernel
theorem dX9_best_122 : decode cX9_best 122 = .ok (.istore 4, 2) := by decide +kernel
theorem dX9_best_124 : decode cX9_best 124 = .ok (.iinc 5 1, 3) := by decide +kernel
theorem dX9_best_127 : decode cX9_best 127 = .ok (.goto (-49), 3) := by decide +kernel
theorem dX9_best_130 : decode cX9_best 130 = .ok (.aload_n 0, 1) := by decide +kernel
theorem dX9_best_131 : decode cX9_best 131 = .ok (.iload_n 1, 1) := by decide +kernel
theorem dX9_best_132 : decode cX9_best 132 = .ok (.invokevirtual 351, 3) := by decide +kernel
theorem dX9_best_135 : decode cX9_best 135 = .ok (.lstore 5, 2) := by decide +kernel
theorem dX9_best_137 : decode cX9_best 137 = .ok (.iload 4, 2) := by decide +kernel
theorem dX9_best_139 : decode cX9_best 139 = .ok (.ifCond .eq 63, 3) := by decide +kernel
theorem dX9_best_142 : decode cX9_best 142 = .ok (.aload_n 0, 1) := by decide +kernel
theorem dX9_best_143 : decode cX9_best 143 = .ok (.getfield 120, 3) := by decide +kernel
theorem dX9_best_146 : decode cX9_best 146 = .ok (.ifCond .eq 13, 3) := by decide +kernel
theorem dX9_best_149 : decode cX9_best 149 = .ok (.lload 5, 2) := by decide +kernel
theorem dX9_best_151 : decode cX9_best 151 = .ok (.aload_n 0, 1) := by decide +kernel
theorem dX9_best_152 : decode cX9_best 152 = .ok (.getfield 355, 3) := by decide +kernel
theorem dX9_best_155 : decode cX9_best 155 = .ok (.lcmp, 1) := by decide +kernel
theorem dX9_best_156 : decode cX9_best 156 = .ok (.ifCond .ge 46, 3) := by decide +kernel
theorem dX9_best_159 : decode cX9_best 159 = .ok (.aload_n 0, 1) := by decide +kernel
theorem dX9_best_160 : decode cX9_best 160 = .ok (.iconst 1, 1) := by decide +kernel
theorem dX9_best_161 : decode cX9_best 161 = .ok (.putfield 120, 3) := by decide +kernel
theorem dX9_best_164 : decode cX9_best 164 = .ok (.aload_n 0, 1) := by decide +kernel
theorem dX9_best_165 : decode cX9_best 165 = .ok (.lload 5, 2) := by decide +kernel
theorem dX9_best_167 : decode cX9_best 167 = .ok (.putfield 355, 3) := by decide +kernel
theorem dX9_best_170 : decode cX9_best 170 = .ok (.iconst 0, 1) := by decide +kernel
theorem dX9_best_171 : decode cX9_best 171 = .ok (.istore 7, 2) := by decide +kernel
theorem dX9_best_173 : decode cX9_best 173 = .ok (.iload 7, 2) := by decide +kernel
theorem dX9_best_175 : decode cX9_best 175 = .ok (.aload_n 0, 1) := by decide +kernel
theorem dX9_best_176 : decode cX9_best 176 = .ok (.getfield 141, 3) := by decide +kernel
theorem dX9_best_179 : decode cX9_best 179 = .ok (.if_icmp .ge 23, 3) := by decide +kernel
theorem dX9_best_182 : decode cX9_best 182 = .ok (.aload_n 0, 1) := by decide +kernel
theorem dX9_best_183 : decode cX9_best 183 = .ok (.getfield 96, 3) := by decide +kernel
theorem dX9_best_186 : decode cX9_best 186 = .ok (.iload 7, 2) := by decide +kernel
theorem dX9_best_188 : decode cX9_best 188 = .ok (.aload_n 0, 1) := by decide +kernel
theorem dX9_best_189 : decode cX9_best 189 = .ok (.getfield 99, 3) := by decide +kernel
theorem dX9_best_192 : decode cX9_best 192 = .ok (.iload 7, 2) := by decide +kernel
theorem dX9_best_194 : decode cX9_best 194 = .ok (.iaload, 1) := by decide +kernel
theorem dX9_best_195 : decode cX9_best 195 = .ok (.iastore, 1) := by decide +kernel
theorem dX9_best_196 : decode cX9_best 196 = .ok (.iinc 7 1, 3) := by decide +kernel
theorem dX9_best_199 : decode cX9_best 199 = .ok (.goto (-26), 3) := by decide +kernel
theorem dX9_best_202 : decode cX9_best 202 = .ok (.aload_n 0, 1) := by decide +kernel
theorem dX9_best_203 : decode cX9_best 203 = .ok (.iload_n 1, 1) := by decide +kernel
theorem dX9_best_204 : decode cX9_best 204 = .ok (.invokevirtual 333, 3) := by decide +kernel
theorem dX9_best_207 : decode cX9_best 207 = .ok (.iinc 3 1, 3) := by decide +kernel
theorem dX9_best_210 : decode cX9_best 210 = .ok (.goto (-143), 3) := by decide +kernel
theorem dX9_best_213 : decode cX9_best 213 = .ok (.aload_n 0, 1) := by decide +kernel
theorem dX9_best_214 : decode cX9_best 214 = .ok (.getfield 120, 3) := by decide +kernel
theorem dX9_best_217 : decode cX9_best 217 = .ok (.ifCond .eq 7, 3) := by decide +kernel
theorem dX9_best_220 : decode cX9_best 220 = .ok (.iconst 1, 1) := by decide +kernel
theorem dX9_best_221 : decode cX9_best 221 = .ok (.goto 4, 3) := by decide +kernel
theorem dX9_best_224 : decode cX9_best 224 = .ok (.iconst 0, 1) := by decide +kernel
theorem dX9_best_225 : decode cX9_best 225 = .ok (.ireturn, 1) := by decide +kernel
theorem dX9_bestValue_0 : decode cX9_bestValue 0 = .ok (.aload_n 0, 1) := by decide +kernel
theorem dX9_bestValue_1 : decode cX9_bestValue 1 = .ok (.aload_n 0, 1) := by decide +kernel
theorem dX9_bestValue_2 : decode cX9_bestValue 2 = .ok (.getfield 120, 3) := by decide +kernel
theorem dX9_bestValue_5 : decode cX9_bestValue 5 = .ok (.ifCond .ne 7, 3) := by decide +kernel
theorem dX9_bestValue_8 : decode cX9_bestValue 8 = .ok (.iconst 1, 1) := by decide +kernel
theorem dX9_bestValue_9 : decode cX9_bestValue 9 = .ok (.goto 4, 3) := by decide +kernel
theorem dX9_bestValue_12 : decode cX9_bestValue 12 = .ok (.iconst 0, 1) := by decide +kernel
theorem dX9_bestValue_13 : decode cX9_bestValue 13 = .ok (.iconst 0, 1) := by decide +kernel
theorem dX9_bestValue_14 : decode cX9_bestValue 14 = .ok (.invokevirtual 144, 3) := by decide +kernel
theorem dX9_bestValue_17 : decode cX9_bestValue 17 = .ok (.ifCond .eq 10, 3) := by decide +kernel
theorem dX9_bestValue_20 : decode cX9_bestValue 20 = .ok (.aload_n 0, 1) := by decide +kernel
theorem dX9_bestValue_21 : decode cX9_bestValue 21 = .ok (.getfield 355, 3) := by decide +kernel
theorem dX9_bestValue_24 : decode cX9_bestValue 24 = .ok (.goto 4, 3) := by decide +kernel
theorem dX9_bestValue_27 : decode cX9_bestValue 27 = .ok (.lconst 0, 1) := by decide +kernel
theorem dX9_bestValue_28 : decode cX9_bestValue 28 = .ok (.lreturn, 1) := by decide +kernel
theorem dX9_bestAt_0 : decode cX9_bestAt 0 = .ok (.aload_n 0, 1) := by decide +kernel
theorem dX9_bestAt_1 : decode cX9_bestAt 1 = .ok (.aload_n 0, 1) := by decide +kernel
theorem dX9_bestAt_2 : decode cX9_bestAt 2 = .ok (.getfield 120, 3) := by decide +kernel
theorem dX9_bestAt_5 : decode cX9_bestAt 5 = .ok (.ifCond .ne 7, 3) := by decide +kernel
theorem dX9_bestAt_8 : decode cX9_bestAt 8 = .ok (.iconst 1, 1) := by decide +kernel
theorem dX9_bestAt_9 : decode cX9_bestAt 9 = .ok (.goto 4, 3) := by decide +kernel
theorem dX9_bestAt_12 : decode cX9_bestAt 12 = .ok (.iconst 0, 1) := by decide +kernel
theorem dX9_bestAt_13 : decode cX9_bestAt 13 = .ok (.aload_n 0, 1) := by decide +kernel
theorem dX9_bestAt_14 : decode cX9_bestAt 14 = .ok (.iload_n 1, 1) := by decide +kernel
theorem dX9_bestAt_15 : decode cX9_bestAt 15 = .ok (.invokevirtual 162, 3) := by decide +kernel
theorem dX9_bestAt_18 : decode cX9_bestAt 18 = .ok (.ifCond .ne 7, 3) := by decide +kernel
theorem dX9_bestAt_21 : decode cX9_bestAt 21 = .ok (.iconst 1, 1) := by decide +kernel
theorem dX9_bestAt_22 : decode cX9_bestAt 22 = .ok (.goto 4, 3) := by decide +kernel
theorem dX9_bestAt_25 : decode cX9_bestAt 25 = .ok (.iconst 0, 1) := by decide +kernel
theorem dX9_bestAt_26 : decode cX9_bestAt 26 = .ok (.invokevirtual 144, 3) := by decide +kernel
theorem dX9_bestAt_29 : decode cX9_bestAt 29 = .ok (.ifCond .eq 12, 3) := by decide +kernel
theorem dX9_bestAt_32 : decode cX9_bestAt 32 = .ok (.aload_n 0, 1) := by decide +kernel
theorem dX9_bestAt_33 : decode cX9_bestAt 33 = .ok (.getfield 96, 3) := by decide +kernel
theorem dX9_bestAt_36 : decode cX9_bestAt 36 = .ok (.iload_n 1, 1) := by decide +kernel
theorem dX9_bestAt_37 : decode cX9_bestAt 37 = .ok (.iaload, 1) := by decide +kernel
theorem dX9_bestAt_38 : decode cX9_bestAt 38 = .ok (.goto 4, 3) := by decide +kernel
theorem dX9_bestAt_41 : decode cX9_bestAt 41 = .ok (.iconst 0, 1) := by decide +kernel
theorem dX9_bestAt_42 : decode cX9_bestAt 42 = .ok (.ireturn, 1) := by decide +kernel
