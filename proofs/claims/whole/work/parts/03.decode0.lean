theorem dJ9_floorDiv_f86c9_0 : decode cJ9_floorDiv_f86c9 0 = .ok (.lload_n 0, 1) := by decide +kernel
theorem dJ9_floorDiv_f86c9_1 : decode cJ9_floorDiv_f86c9 1 = .ok (.lload_n 2, 1) := by decide +kernel
theorem dJ9_floorDiv_f86c9_2 : decode cJ9_floorDiv_f86c9 2 = .ok (.ldiv, 1) := by decide +kernel
theorem dJ9_floorDiv_f86c9_3 : decode cJ9_floorDiv_f86c9 3 = .ok (.lstore 4, 2) := by decide +kernel
theorem dJ9_floorDiv_f86c9_5 : decode cJ9_floorDiv_f86c9 5 = .ok (.lload_n 0, 1) := by decide +kernel
theorem dJ9_floorDiv_f86c9_6 : decode cJ9_floorDiv_f86c9 6 = .ok (.lload_n 2, 1) := by decide +kernel
theorem dJ9_floorDiv_f86c9_7 : decode cJ9_floorDiv_f86c9 7 = .ok (.lxor, 1) := by decide +kernel
theorem dJ9_floorDiv_f86c9_8 : decode cJ9_floorDiv_f86c9 8 = .ok (.lconst 0, 1) := by decide +kernel
theorem dJ9_floorDiv_f86c9_9 : decode cJ9_floorDiv_f86c9 9 = .ok (.lcmp, 1) := by decide +kernel
theorem dJ9_floorDiv_f86c9_10 : decode cJ9_floorDiv_f86c9 10 = .ok (.ifCond .ge 17, 3) := by decide +kernel
theorem dJ9_floorDiv_f86c9_13 : decode cJ9_floorDiv_f86c9 13 = .ok (.lload 4, 2) := by decide +kernel
theorem dJ9_floorDiv_f86c9_15 : decode cJ9_floorDiv_f86c9 15 = .ok (.lload_n 2, 1) := by decide +kernel
theorem dJ9_floorDiv_f86c9_16 : decode cJ9_floorDiv_f86c9 16 = .ok (.lmul, 1) := by decide +kernel
theorem dJ9_floorDiv_f86c9_17 : decode cJ9_floorDiv_f86c9 17 = .ok (.lload_n 0, 1) := by decide +kernel
theorem dJ9_floorDiv_f86c9_18 : decode cJ9_floorDiv_f86c9 18 = .ok (.lcmp, 1) := by decide +kernel
theorem dJ9_floorDiv_f86c9_19 : decode cJ9_floorDiv_f86c9 19 = .ok (.ifCond .eq 8, 3) := by decide +kernel
theorem dJ9_floorDiv_f86c9_22 : decode cJ9_floorDiv_f86c9 22 = .ok (.lload 4, 2) := by decide +kernel
theorem dJ9_floorDiv_f86c9_24 : decode cJ9_floorDiv_f86c9 24 = .ok (.lconst 1, 1) := by decide +kernel
theorem dJ9_floorDiv_f86c9_25 : decode cJ9_floorDiv_f86c9 25 = .ok (.lsub, 1) := by decide +kernel
theorem dJ9_floorDiv_f86c9_26 : decode cJ9_floorDiv_f86c9 26 = .ok (.lreturn, 1) := by decide +kernel
theorem dJ9_floorDiv_f86c9_27 : decode cJ9_floorDiv_f86c9 27 = .ok (.lload 4, 2) := by decide +kernel
theorem dJ9_floorDiv_f86c9_29 : decode cJ9_floorDiv_f86c9 29 = .ok (.lreturn, 1) := by decide +kernel
theorem dJ9_abs_067f4_0 : decode cJ9_abs_067f4 0 = .ok (.lload_n 0, 1) := by decide +kernel
theorem dJ9_abs_067f4_1 : decode cJ9_abs_067f4 1 = .ok (.lconst 0, 1) := by decide +kernel
theorem dJ9_abs_067f4_2 : decode cJ9_abs_067f4 2 = .ok (.lcmp, 1) := by decide +kernel
theorem dJ9_abs_067f4_3 : decode cJ9_abs_067f4 3 = .ok (.ifCond .ge 8, 3) := by decide +kernel
theorem dJ9_abs_067f4_6 : decode cJ9_abs_067f4 6 = .ok (.lload_n 0, 1) := by decide +kernel
theorem dJ9_abs_067f4_7 : decode cJ9_abs_067f4 7 = .ok (.lneg, 1) := by decide +kernel
theorem dJ9_abs_067f4_8 : decode cJ9_abs_067f4 8 = .ok (.goto 4, 3) := by decide +kernel
theorem dJ9_abs_067f4_11 : decode cJ9_abs_067f4 11 = .ok (.lload_n 0, 1) := by decide +kernel
theorem dJ9_abs_067f4_12 : decode cJ9_abs_067f4 12 = .ok (.lreturn, 1) := by decide +kernel
theorem dX0_countKept_0 : decode cX0_countKept 0 = .ok (.aload_n 0, 1) := by decide +kernel
theorem dX0_countKept_1 : decode cX0_countKept 1 = .ok (.getfield 15, 3) := by decide +kernel
theorem dX0_countKept_4 : decode cX0_countKept 4 = .ok (.sipush 400, 3) := by decide +kernel
theorem dX0_countKept_7 : decode cX0_countKept 7 = .ok (.if_icmp .ge 10, 3) := by decide +kernel
theorem dX0_countKept_10 : decode cX0_countKept 10 = .ok (.aload_n 0, 1) := by decide +kernel
theorem dX0_countKept_11 : decode cX0_countKept 11 = .ok (.getfield 15, 3) := by decide +kernel
theorem dX0_countKept_14 : decode cX0_countKept 14 = .ok (.goto 6, 3) := by decide +kernel
theorem dX0_countKept_17 : decode cX0_countKept 17 = .ok (.sipush 400, 3) := by decide +kernel
theorem dX0_countKept_20 : decode cX0_countKept 20 = .ok (.ireturn, 1) := by decide +kernel
theorem dX0_note_0 : decode cX0_note 0 = .ok (.aload_n 0, 1) := by decide +kernel
theorem dX0_note_1 : decode cX0_note 1 = .ok (.getfield 15, 3) := by decide +kernel
theorem dX0_note_4 : decode cX0_note 4 = .ok (.sipush 400, 3) := by decide +kernel
theorem dX0_note_7 : decode cX0_note 7 = .ok (.if_icmp .ge 65, 3) := by decide +kernel
theorem dX0_note_10 : decode cX0_note 10 = .ok (.aload_n 0, 1) := by decide +kernel
theorem dX0_note_11 : decode cX0_note 11 = .ok (.getfield 15, 3) := by decide +kernel
theorem dX0_note_14 : decode cX0_note 14 = .ok (.iconst 5, 1) := by decide +kernel
theorem dX0_note_15 : decode cX0_note 15 = .ok (.imul, 1) := by decide +kernel
theorem dX0_note_16 : decode cX0_note 16 = .ok (.istore 7, 2) := by decide +kernel
theorem dX0_note_18 : decode cX0_note 18 = .ok (.aload_n 0, 1) := by decide +kernel
theorem dX0_note_19 : decode cX0_note 19 = .ok (.getfield 9, 3) := by decide +kernel
theorem dX0_note_22 : decode cX0_note 22 = .ok (.iload 7, 2) := by decide +kernel
theorem dX0_note_24 : decode cX0_note 24 = .ok (.iload_n 1, 1) := by decide +kernel
theorem dX0_note_25 : decode cX0_note 25 = .ok (.i2l, 1) := by decide +kernel
theorem dX0_note_26 : decode cX0_note 26 = .ok (.lastore, 1) := by decide +kernel
theorem dX0_note_27 : decode cX0_note 27 = .ok (.aload_n 0, 1) := by decide +kernel
theorem dX0_note_28 : decode cX0_note 28 = .ok (.getfield 9, 3) := by decide +kernel
theorem dX0_note_31 : decode cX0_note 31 = .ok (.iload 7, 2) := by decide +kernel
theorem dX0_note_33 : decode cX0_note 33 = .ok (.iconst 1, 1) := by decide +kernel
theorem dX0_note_34 : decode cX0_note 34 = .ok (.iadd, 1) := by decide +kernel
theorem dX0_note_35 : decode cX0_note 35 = .ok (.iload_n 2, 1) := by decide +kernel
theorem dX0_note_36 : decode cX0_note 36 = .ok (.i2l, 1) := by decide +kernel
theorem dX0_note_37 : decode cX0_note 37 = .ok (.lastore, 1) := by decide +kernel
theorem dX0_note_38 : decode cX0_note 38 = .ok (.aload_n 0, 1) := by decide +kernel
theorem dX0_note_39 : decode cX0_note 39 = .ok (.getfield 9, 3) := by decide +kernel
theorem dX0_note_42 : decode cX0_note 42 = .ok (.iload 7, 2) := by decide +kernel
theorem dX0_note_44 : decode cX0_note 44 = .ok (.iconst 2, 1) := by decide +kernel
theorem dX0_note_45 : decode cX0_note 45 = .ok (.iadd, 1) := by decide +kernel
theorem dX0_note_46 : decode cX0_note 46 = .ok (.iload_n 3, 1) := by decide +kernel
theorem dX0_note_47 : decode cX0_note 47 = .ok (.i2l, 1) := by decide +kernel
theorem dX0_note_48 : decode cX0_note 48 = .ok (.lastore, 1) := by decide +kernel
theorem dX0_note_49 : decode cX0_note 49 = .ok (.aload_n 0, 1) := by decide +kernel
theorem dX0_note_50 : decode cX0_note 50 = .ok (.getfield 9, 3) := by decide +kernel
theorem dX0_note_53 : decode cX0_note 53 = .ok (.iload 7, 2) := by decide +kernel
theorem dX0_note_55 : decode cX0_note 55 = .ok (.iconst 3, 1) := by decide +kernel
theorem dX0_note_56 : decode cX0_note 56 = .ok (.iadd, 1) := by decide +kernel
theorem dX0_note_57 : decode cX0_note 57 = .ok (.iload 4, 2) := by decide +kernel
theorem dX0_note_59 : decode cX0_note 59 = .ok (.i2l, 1) := by decide +kernel
theorem dX0_note_60 : decode cX0_note 60 = .ok (.lastore, 1) := by decide +kernel
theorem dX0_note_61 : decode cX0_note 61 = .ok (.aload_n 0, 1) := by decide +kernel
theorem dX0_note_62 : decode cX0_note 62 = .ok (.getfield 9, 3) := by decide +kernel
theorem dX0_note_65 : decode cX0_note 65 = .ok (.iload 7, 2) := by decide +kernel
theorem dX0_note_67 : decode cX0_note 67 = .ok (.iconst 4, 1) := by decide +kernel
theorem dX0_note_68 : decode cX0_note 68 = .ok (.iadd, 1) := by decide +kernel
theorem dX0_note_69 : decode cX0_note 69 = .ok (.lload 5, 2) := by decide +kernel
theorem dX0_note_71 : decode cX0_note 71 = .ok (.lastore, 1) := by decide +kernel
theorem dX0_note_72 : decode cX0_note 72 = .ok (.aload_n 0, 1) := by decide +kernel
theorem dX0_note_73 : decode cX0_note 73 = .ok (.dup, 1) := by decide +kernel
theorem dX0_note_74 : decode cX0_note 74 = .ok (.getfield 15, 3) := by decide +kernel
theorem dX0_note_77 : decode cX0_note 77 = .ok (.iconst 1, 1) := by decide +kernel
theorem dX0_note_78 : decode cX0_note 78 = .ok (.iadd, 1) := by decide +kernel
theorem dX0_note_79 : decode cX0_note 79 = .ok (.putfield 15, 3) := by decide +kernel
theorem dX0_note_82 : decode cX0_note 82 = .ok (.return_, 1) := by decide +kernel
theorem dX6_isThere_0 : decode cX6_isThere 0 = .ok (.aload_n 0, 1) := by decide +kernel
theorem dX6_isThere_1 : decode cX6_isThere 1 = .ok (.getfield 21, 3) := by decide +kernel
theorem dX6_isThere_4 : decode cX6_isThere 4 = .ok (.iload_n 1, 1) := by decide +kernel
theorem dX6_isThere_5 : decode cX6_isThere 5 = .ok (.iaload, 1) := by decide +kernel
theorem dX6_isThere_6 : decode cX6_isThere 6 = .ok (.ifCond .ne 7, 3) := by decide +kernel
theorem dX6_isThere_9 : decode cX6_isThere 9 = .ok (.iconst 1, 1) := by decide +kernel
theorem dX6_isThere_10 : decode cX6_isThere 10 = .ok (.goto 4, 3) := by decide +kernel
theorem dX6_isThere_13 : decode cX6_isThere 13 = .ok (.iconst 0, 1) := by decide +kernel
theorem dX6_isThere_14 : decode cX6_isThere 14 = .ok (.ireturn, 1) := by decide +kernel
theorem dX6_isGone_0 : decode cX6_isGone 0 = .ok (.aload_n 0, 1) := by decide +kernel
theorem dX6_isGone_1 : decode cX6_isGone 1 = .ok (.getfield 25, 3) := by decide +kernel
theorem dX6_isGone_4 : decode cX6_isGone 4 = .ok (.iload_n 1, 1) := by decide +kernel
theorem dX6_isGone_5 : decode cX6_isGone 5 = .ok (.iaload, 1) := by decide +kernel
theorem dX6_isGone_6 : decode cX6_isGone 6 = .ok (.iconst (-1), 1) := by decide +kernel
theorem dX6_isGone_7 : decode cX6_isGone 7 = .ok (.if_icmp .ne 7, 3) := by decide +kernel
theorem dX6_isGone_10 : decode cX6_isGone 10 = .ok (.iconst 1, 1) := by decide +kernel
theorem dX6_isGone_11 : decode cX6_isGone 11 = .ok (.goto 4, 3) := by decide +kernel
theorem dX6_isGone_14 : decode cX6_isGone 14 = .ok (.iconst 0, 1) := by decide +kernel
theorem dX6_isGone_15 : decode cX6_isGone 15 = .ok (.ireturn, 1) := by decide +kernel
theorem dX6_allRows_0 : decode cX6_allRows 0 = .ok (.iconst 1, 1) := by decide +kernel
theorem dX6_allRows_1 : decode cX6_allRows 1 = .ok (.aload_n 0, 1) := by decide +kernel
theorem dX6_allRows_2 : decode cX6_allRows 2 = .ok (.getfield 36, 3) := by decide +kernel
theorem dX6_allRows_5 : decode cX6_allRows 5 = .ok (.ishl, 1) := by decide +kernel
theorem dX6_allRows_6 : decode cX6_allRows 6 = .ok (.iconst 1, 1) := by decide +kernel
theorem dX6_allRows_7 : decode cX6_allRows 7 = .ok (.isub, 1) := by decide +kernel
theorem dX6_allRows_8 : decode cX6_allRows 8 = .ok (.ireturn, 1) := by decide +kernel
theorem dX6_makeEmpty_0 : decode cX6_makeEmpty 0 = .ok (.aload_n 0, 1) := by decide +kernel
theorem dX6_makeEmpty_1 : decode cX6_makeEmpty 1 = .ok (.iconst 0, 1) := by decide +kernel
theorem dX6_makeEmpty_2 : decode cX6_makeEmpty 2 = .ok (.putfield 40, 3) := by decide +kernel
theorem dX6_makeEmpty_5 : decode cX6_makeEmpty 5 = .ok (.aload_n 0, 1) := by decide +kernel
theorem dX6_makeEmpty_6 : decode cX6_makeEmpty 6 = .ok (.iconst 0, 1) := by decide +kernel
theorem dX6_makeEmpty_7 : decode cX6_makeEmpty 7 = .ok (.putfield 36, 3) := by decide +kernel
theorem dX6_makeEmpty_10 : decode cX6_makeEmpty 10 = .ok (.iconst 0, 1) := by decide +kernel
theorem dX6_makeEmpty_11 : decode cX6_makeEmpty 11 = .ok (.istore_n 1, 1) := by decide +kernel
theorem dX6_makeEmpty_12 : decode cX6_makeEmpty 12 = .ok (.iload_n 1, 1) := by decide +kernel
theorem dX6_makeEmpty_13 : decode cX6_makeEmpty 13 = .ok (.bipush 12, 2) := by decide +kernel
theorem dX6_makeEmpty_15 : decode cX6_makeEmpty 15 = .ok (.if_icmp .ge 32, 3) := by decide +kernel
theorem dX6_makeEmpty_18 : decode cX6_makeEmpty 18 = .ok (.iconst 0, 1) := by decide +kernel
theorem dX6_makeEmpty_19 : decode cX6_makeEmpty 19 = .ok (.istore_n 2, 1) := by decide +kernel
theorem dX6_makeEmpty_20 : decode cX6_makeEmpty 20 = .ok (.iload_n 2, 1) := by decide +kernel
theorem dX6_makeEmpty_21 : decode cX6_makeEmpty 21 = .ok (.bipush 12, 2) := by decide +kernel
theorem dX6_makeEmpty_23 : decode cX6_makeEmpty 23 = .ok (.if_icmp .ge 18, 3) := by decide +kernel
theorem dX6_makeEmpty_26 : decode cX6_makeEmpty 26 = .ok (.aload_n 0, 1) := by decide +kernel
theorem dX6_makeEmpty_27 : decode cX6_makeEmpty 27 = .ok (.getfield 33, 3) := by decide +kernel
theorem dX6_makeEmpty_30 : decode cX6_makeEmpty 30 = .ok (.iload_n 1, 1) := by decide +kernel
theorem dX6_makeEmpty_31 : decode cX6_makeEmpty 31 = .ok (.aaload, 1) := by decide +kernel
theorem dX6_makeEmpty_32 : decode cX6_makeEmpty 32 = .ok (.iload_n 2, 1) := by decide +kernel
theorem dX6_makeEmpty_33 : decode cX6_makeEmpty 33 = .ok (.lconst 0, 1) := by decide +kernel
theorem dX6_makeEmpty_34 : decode cX6_makeEmpty 34 = .ok (.lastore, 1) := by decide +kernel
theorem dX6_makeEmpty_35 : decode cX6_makeEmpty 35 = .ok (.iinc 2 1, 3) := by decide +kernel
theorem dX6_makeEmpty_38 : decode cX6_makeEmpty 38 = .ok (.goto (-18), 3) := by decide +kernel
theorem dX6_makeEmpty_41 : decode cX6_makeEmpty 41 = .ok (.iinc 1 1, 3) := by decide +kernel
theorem dX6_makeEmpty_44 : decode cX6_makeEmpty 44 = .ok (.goto (-32), 3) := by decide +kernel
theorem dX6_makeEmpty_47 : decode cX6_makeEmpty 47 = .ok (.return_, 1) := by decide +kernel
theorem dX6_copyFrom_0 : decode cX6_copyFrom 0 = .ok (.aload_n 0, 1) := by decide +kernel
theorem dX6_copyFrom_1 : decode cX6_copyFrom 1 = .ok (.aload_n 1, 1) := by decide +kernel
theorem dX6_copyFrom_2 : decode cX6_copyFrom 2 = .ok (.getfield 40, 3) := by decide +kernel
theorem dX6_copyFrom_5 : decode cX6_copyFrom 5 = .ok (.putfield 40, 3) := by decide +kernel
theorem dX6_copyFrom_8 : decode cX6_copyFrom 8 = .ok (.aload_n 0, 1) := by decide +kernel
theorem dX6_copyFrom_9 : decode cX6_copyFrom 9 = .ok (.aload_n 1, 1) := by decide +kernel
theorem dX6_copyFrom_10 : decode cX6_copyFrom 10 = .ok (.getfield 36, 3) := by decide +kernel
theorem dX6_copyFrom_13 : decode cX6_copyFrom 13 = .ok (.putfield 36, 3) := by decide +kernel
theorem dX6_copyFrom_16 : decode cX6_copyFrom 16 = .ok (.aload_n 1, 1) := by decide +kernel
theorem dX6_copyFrom_17 : decode cX6_copyFrom 17 = .ok (.getfield 9, 3) := by decide +kernel
theorem dX6_copyFrom_20 : decode cX6_copyFrom 20 = .ok (.iconst 0, 1) := by decide +kernel
theorem dX6_copyFrom_21 : decode cX6_copyFrom 21 = .ok (.aload_n 0, 1) := by decide +kernel
theorem dX6_copyFrom_22 : decode cX6_copyFrom 22 = .ok (.getfield 9, 3) := by decide +kernel
theorem dX6_copyFrom_25 : decode cX6_copyFrom 25 = .ok (.iconst 0, 1) := by decide +kernel
theorem dX6_copyFrom_26 : decode cX6_copyFrom 26 = .ok (.bipush 12, 2) := by decide +kernel
theorem dX6_copyFrom_28 : decode cX6_copyFrom 28 = .ok (.invokestatic 43, 3) := by decide +kernel
theorem dX6_copyFrom_31 : decode cX6_copyFrom 31 = .ok (.aload_n 1, 1) := by decide +kernel
theorem dX6_copyFrom_32 : decode cX6_copyFrom 32 = .ok (.getfield 15, 3) := by decide +kernel
theorem dX6_copyFrom_35 : decode cX6_copyFrom 35 = .ok (.iconst 0, 1) := by decide +kernel
theorem dX6_copyFrom_36 : decode cX6_copyFrom 36 = .ok (.aload_n 0, 1) := by decide +kernel
theorem dX6_copyFrom_37 : decode cX6_copyFrom 37 = .ok (.getfield 15, 3) := by decide +kernel
theorem dX6_copyFrom_40 : decode cX6_copyFrom 40 = .ok (.iconst 0, 1) := by decide +kernel
theorem dX6_copyFrom_41 : decode cX6_copyFrom 41 = .ok (.bipush 12, 2) := by decide +kernel
theorem dX6_copyFrom_43 : decode cX6_copyFrom 43 = .ok (.invokestatic 43, 3) := by decide +kernel
theorem dX6_copyFrom_46 : decode cX6_copyFrom 46 = .ok (.aload_n 1, 1) := by decide +kernel
theorem dX6_copyFrom_47 : decode cX6_copyFrom 47 = .ok (.getfield 18, 3) := by decide +kernel
theorem dX6_copyFrom_50 : decode cX6_copyFrom 50 = .ok (.iconst 0, 1) := by decide +kernel
theorem dX6_copyFrom_51 : decode cX6_copyFrom 51 = .ok (.aload_n 0, 1) := by decide +kernel
theorem dX6_copyFrom_52 : decode cX6_copyFrom 52 = .ok (.getfield 18, 3) := by decide +kernel
theorem dX6_copyFrom_55 : decode cX6_copyFrom 55 = .ok (.iconst 0, 1) := by decide +kernel
theorem dX6_copyFrom_56 : decode cX6_copyFrom 56 = .ok (.bipush 12, 2) := by decide +kernel
theorem dX6_copyFrom_58 : decode cX6_copyFrom 58 = .ok (.invokestatic 43, 3) := by decide +kernel
theorem dX6_copyFrom_61 : decode cX6_copyFrom 61 = .ok (.aload_n 1, 1) := by decide +kernel
theorem dX6_copyFrom_62 : decode cX6_copyFrom 62 = .ok (.getfield 21, 3) := by decide +kernel
theorem dX6_copyFrom_65 : decode cX6_copyFrom 65 = .ok (.iconst 0, 1) := by decide +kernel
theorem dX6_copyFrom_66 : decode cX6_copyFrom 66 = .ok (.aload_n 0, 1) := by decide +kernel
theorem dX6_copyFrom_67 : decode cX6_copyFrom 67 = .ok (.getfield 21, 3) := by decide +kernel
theorem dX6_copyFrom_70 : decode cX6_copyFrom 70 = .ok (.iconst 0, 1) := by decide +kernel
theorem dX6_copyFrom_71 : decode cX6_copyFrom 71 = .ok (.bipush 12, 2) := by decide +kernel
theorem dX6_copyFrom_73 : decode cX6_copyFrom 73 = .ok (.invokestatic 43, 3) := by decide +kernel
theorem dX6_copyFrom_76 : decode cX6_copyFrom 76 = .ok (.aload_n 1, 1) := by decide +kernel
theorem dX6_copyFrom_77 : decode cX6_copyFrom 77 = .ok (.getfield 25, 3) := by decide +kernel
theorem dX6_copyFrom_80 : decode cX6_copyFrom 80 = .ok (.iconst 0, 1) := by decide +kernel
theorem dX6_copyFrom_81 : decode cX6_copyFrom 81 = .ok (.aload_n 0, 1) := by decide +kernel
theorem dX6_copyFrom_82 : decode cX6_copyFrom 82 = .ok (.getfield 25, 3) := by decide +kernel
theorem dX6_copyFrom_85 : decode cX6_copyFrom 85 = .ok (.iconst 0, 1) := by decide +kernel
theorem dX6_copyFrom_86 : decode cX6_copyFrom 86 = .ok (.bipush 12, 2) := by decide +kernel
theorem dX6_copyFrom_88 : decode cX6_copyFrom 88 = .ok (.invokestatic 43, 3) := by decide +kernel
theorem dX6_copyFrom_91 : decode cX6_copyFrom 91 = .ok (.aload_n 1, 1) := by decide +kernel
theorem dX6_copyFrom_92 : decode cX6_copyFrom 92 = .ok (.getfield 28, 3) := by decide +kernel
theorem dX6_copyFrom_95 : decode cX6_copyFrom 95 = .ok (.iconst 0, 1) := by decide +kernel
theorem dX6_copyFrom_96 : decode cX6_copyFrom 96 = .ok (.aload_n 0, 1) := by decide +kernel
theorem dX6_copyFrom_97 : decode cX6_copyFrom 97 = .ok (.getfield 28, 3) := by decide +kernel
theorem dX6_copyFrom_100 : decode cX6_copyFrom 100 = .ok (.iconst 0, 1) := by decide +kernel
theorem dX6_copyFrom_101 : decode cX6_copyFrom 101 = .ok (.bipush 12, 2) := by decide +kernel
theorem dX6_copyFrom_103 : decode cX6_copyFrom 103 = .ok (.invokestatic 43, 3) := by decide +kernel
theorem dX6_copyFrom_106 : decode cX6_copyFrom 106 = .ok (.iconst 0, 1) := by decide +kernel
theorem dX6_copyFrom_107 : decode cX6_copyFrom 107 = .ok (.istore_n 2, 1) := by decide +kernel
theorem dX6_copyFrom_108 : decode cX6_copyFrom 108 = .ok (.iload_n 2, 1) := by decide +kernel
theorem dX6_copyFrom_109 : decode cX6_copyFrom 109 = .ok (.bipush 12, 2) := by decide +kernel
theorem dX6_copyFrom_111 : decode cX6_copyFrom 111 = .ok (.if_icmp .ge 28, 3) := by decide +kernel
theorem dX6_copyFrom_114 : decode cX6_copyFrom 114 = .ok (.aload_n 1, 1) := by decide +kernel
theorem dX6_copyFrom_115 : decode cX6_copyFrom 115 = .ok (.getfield 33, 3) := by decide +kernel
theorem dX6_copyFrom_118 : decode cX6_copyFrom 118 = .ok (.iload_n 2, 1) := by decide +kernel
theorem dX6_copyFrom_119 : decode cX6_copyFrom 119 = .ok (.aaload, 1) := by decide +kernel
theorem dX6_copyFrom_120 : decode cX6_copyFrom 120 = .ok (.iconst 0, 1) := by decide +kernel
theorem dX6_copyFrom_121 : decode cX6_copyFrom 121 = .ok (.aload_n 0, 1) := by decide +kernel
theorem dX6_copyFrom_122 : decode cX6_copyFrom 122 = .ok (.getfield 33, 3) := by decide +kernel
theorem dX6_copyFrom_125 : decode cX6_copyFrom 125 = .ok (.iload_n 2, 1) := by decide +kernel
theorem dX6_copyFrom_126 : decode cX6_copyFrom 126 = .ok (.aaload, 1) := by decide +kernel
theorem dX6_copyFrom_127 : decode cX6_copyFrom 127 = .ok (.iconst 0, 1) := by decide +kernel
theorem dX6_copyFrom_128 : decode cX6_copyFrom 128 = .ok (.bipush 12, 2) := by decide +kernel
theorem dX6_copyFrom_130 : decode cX6_copyFrom 130 = .ok (.invokestatic 43, 3) := by decide +kernel
theorem dX6_copyFrom_133 : decode cX6_copyFrom 133 = .ok (.iinc 2 1, 3) := by decide +kernel
theorem dX6_copyFrom_136 : decode cX6_copyFrom 136 = .ok (.goto (-28), 3) := by decide +kernel
theorem dX6_copyFrom_139 : decode cX6_copyFrom 139 = .ok (.return_, 1) := by decide +kernel
theorem dX6_nextTerm_0 : decode cX6_nextTerm 0 = .ok (.iload_n 2, 1) := by decide +kernel
theorem dX6_nextTerm_1 : decode cX6_nextTerm 1 = .ok (.istore_n 3, 1) := by decide +kernel
theorem dX6_nextTerm_2 : decode cX6_nextTerm 2 = .ok (.iload_n 3, 1) := by decide +kernel
theorem dX6_nextTerm_3 : decode cX6_nextTerm 3 = .ok (.aload_n 0, 1) := by decide +kernel
theorem dX6_nextTerm_4 : decode cX6_nextTerm 4 = .ok (.getfield 40, 3) := by decide +kernel
theorem dX6_nextTerm_7 : decode cX6_nextTerm 7 = .ok (.if_icmp .ge 24, 3) := by decide +kernel
theorem dX6_nextTerm_10 : decode cX6_nextTerm 10 = .ok (.aload_n 0, 1) := by decide +kernel
theorem dX6_nextTerm_11 : decode cX6_nextTerm 11 = .ok (.getfield 33, 3) := by decide +kernel
theorem dX6_nextTerm_14 : decode cX6_nextTerm 14 = .ok (.iload_n 1, 1) := by decide +kernel
theorem dX6_nextTerm_15 : decode cX6_nextTerm 15 = .ok (.aaload, 1) := by decide +kernel
theorem dX6_nextTerm_16 : decode cX6_nextTerm 16 = .ok (.iload_n 3, 1) := by decide +kernel
theorem dX6_nextTerm_17 : decode cX6_nextTerm 17 = .ok (.laload, 1) := by decide +kernel
theorem dX6_nextTerm_18 : decode cX6_nextTerm 18 = .ok (.lconst 0, 1) := by decide +kernel
theorem dX6_nextTerm_19 : decode cX6_nextTerm 19 = .ok (.lcmp, 1) := by decide +kernel
theorem dX6_nextTerm_20 : decode cX6_nextTerm 20 = .ok (.ifCond .eq 5, 3) := by decide +kernel
theorem dX6_nextTerm_23 : decode cX6_nextTerm 23 = .ok (.iload_n 3, 1) := by decide +kernel
theorem dX6_nextTerm_24 : decode cX6_nextTerm 24 = .ok (.ireturn, 1) := by decide +kernel
theorem dX6_nextTerm_25 : decode cX6_nextTerm 25 = .ok (.iinc 3 1, 3) := by decide +kernel
theorem dX6_nextTerm_28 : decode cX6_nextTerm 28 = .ok (.goto (-26), 3) := by decide +kernel
theorem dX6_nextTerm_31 : decode cX6_nextTerm 31 = .ok (.iconst (-1), 1) := by decide +kernel
theorem dX6_nextTerm_32 : decode cX6_nextTerm 32 = .ok (.ireturn, 1) := by decide +kernel
theorem dX6_countTerms_0 : decode cX6_countTerms 0 = .ok (.iconst 0, 1) := by decide +kernel
theorem dX6_countTerms_1 : decode cX6_countTerms 1 = .ok (.istore_n 2, 1) := by decide +kernel
theorem dX6_countTerms_2 : decode cX6_countTerms 2 = .ok (.iconst 0, 1) := by decide +kernel
theorem dX6_countTerms_3 : decode cX6_countTerms 3 = .ok (.istore_n 3, 1) := by decide +kernel
theorem dX6_countTerms_4 : decode cX6_countTerms 4 = .ok (.iload_n 3, 1) := by decide +kernel
theorem dX6_countTerms_5 : decode cX6_countTerms 5 = .ok (.aload_n 0, 1) := by decide +kernel
theorem dX6_countTerms_6 : decode cX6_countTerms 6 = .ok (.getfield 40, 3) := by decide +kernel
theorem dX6_countTerms_9 : decode cX6_countTerms 9 = .ok (.if_icmp .ge 25, 3) := by decide +kernel
theorem dX6_countTerms_12 : decode cX6_countTerms 12 = .ok (.aload_n 0, 1) := by decide +kernel
theorem dX6_countTerms_13 : decode cX6_countTerms 13 = .ok (.getfield 33, 3) := by decide +kernel
theorem dX6_countTerms_16 : decode cX6_countTerms 16 = .ok (.iload_n 1, 1) := by decide +kernel
theorem dX6_countTerms_17 : decode cX6_countTerms 17 = .ok (.aaload, 1) := by decide +kernel
theorem dX6_countTerms_18 : decode cX6_countTerms 18 = .ok (.iload_n 3, 1) := by decide +kernel
theorem dX6_countTerms_19 : decode cX6_countTerms 19 = .ok (.laload, 1) := by decide +kernel
theorem dX6_countTerms_20 : decode cX6_countTerms 20 = .ok (.lconst 0, 1) := by decide +kernel
theorem dX6_countTerms_21 : decode cX6_countTerms 21 = .ok (.lcmp, 1) := by decide +kernel
theorem dX6_countTerms_22 : decode cX6_countTerms 22 = .ok (.ifCond .eq 6, 3) := by decide +kernel
theorem dX6_countTerms_25 : decode cX6_countTerms 25 = .ok (.iinc 2 1, 3) := by decide +kernel
theorem dX6_countTerms_28 : decode cX6_countTerms 28 = .ok (.iinc 3 1, 3) := by decide +kernel
theorem dX6_countTerms_31 : decode cX6_countTerms 31 = .ok (.goto (-27), 3) := by decide +kernel
theorem dX6_countTerms_34 : decode cX6_countTerms 34 = .ok (.iload_n 2, 1) := by decide +kernel
theorem dX6_countTerms_35 : decode cX6_countTerms 35 = .ok (.ireturn, 1) := by decide +kernel
theorem dX6_isUnit_0 : decode cX6_isUnit 0 = .ok (.aload_n 0, 1) := by decide +kernel
theorem dX6_isUnit_1 : decode cX6_isUnit 1 = .ok (.getfield 33, 3) := by decide +kernel
theorem dX6_isUnit_4 : decode cX6_isUnit 4 = .ok (.iload_n 1, 1) := by decide +kernel
theorem dX6_isUnit_5 : decode cX6_isUnit 5 = .ok (.aaload, 1) := by decide +kernel
theorem dX6_isUnit_6 : decode cX6_isUnit 6 = .ok (.iload_n 2, 1) := by decide +kernel
theorem dX6_isUnit_7 : decode cX6_isUnit 7 = .ok (.laload, 1) := by decide +kernel
theorem dX6_isUnit_8 : decode cX6_isUnit 8 = .ok (.lconst 1, 1) := by decide +kernel
theorem dX6_isUnit_9 : decode cX6_isUnit 9 = .ok (.lcmp, 1) := by decide +kernel
theorem dX6_isUnit_10 : decode cX6_isUnit 10 = .ok (.ifCond .eq 18, 3) := by decide +kernel
theorem dX6_isUnit_13 : decode cX6_isUnit 13 = .ok (.aload_n 0, 1) := by decide +kernel
theorem dX6_isUnit_14 : decode cX6_isUnit 14 = .ok (.getfield 33, 3) := by decide +kernel
theorem dX6_isUnit_17 : decode cX6_isUnit 17 = .ok (.iload_n 1, 1) := by decide +kernel
theorem dX6_isUnit_18 : decode cX6_isUnit 18 = .ok (.aaload, 1) := by decide +kernel
theorem dX6_isUnit_19 : decode cX6_isUnit 19 = .ok (.iload_n 2, 1) := by decide +kernel
theorem dX6_isUnit_20 : decode cX6_isUnit 20 = .ok (.laload, 1) := by decide +kernel
theorem dX6_isUnit_21 : decode cX6_isUnit 21 = .ok (.ldc2_w 49, 3) := by decide +kernel
theorem dX6_isUnit_24 : decode cX6_isUnit 24 = .ok (.lcmp, 1) := by decide +kernel
theorem dX6_isUnit_25 : decode cX6_isUnit 25 = .ok (.ifCond .ne 7, 3) := by decide +kernel
theorem dX6_isUnit_28 : decode cX6_isUnit 28 = .ok (.iconst 1, 1) := by decide +kernel
theorem dX6_isUnit_29 : decode cX6_isUnit 29 = .ok (.goto 4, 3) := by decide +kernel
theorem dX6_isUnit_32 : decode cX6_isUnit 32 = .ok (.iconst 0, 1) := by decide +kernel
theorem dX6_isUnit_33 : decode cX6_isUnit 33 = .ok (.ireturn, 1) := by decide +kernel
theorem dX6_isBinary_0 : decode cX6_isBinary 0 = .ok (.aload_n 0, 1) := by decide +kernel
theorem dX6_isBinary_1 : decode cX6_isBinary 1 = .ok (.getfield 9, 3) := by decide +kernel
theorem dX6_isBinary_4 : decode cX6_isBinary 4 = .ok (.iload_n 1, 1) := by decide +kernel
theorem dX6_isBinary_5 : decode cX6_isBinary 5 = .ok (.laload, 1) := by decide +kernel
theorem dX6_isBinary_6 : decode cX6_isBinary 6 = .ok (.lconst 0, 1) := by decide +kernel
theorem dX6_isBinary_7 : decode cX6_isBinary 7 = .ok (.lcmp, 1) := by decide +kernel
theorem dX6_isBinary_8 : decode cX6_isBinary 8 = .ok (.ifCond .ne 18, 3) := by decide +kernel
theorem dX6_isBinary_11 : decode cX6_isBinary 11 = .ok (.aload_n 0, 1) := by decide +kernel
theorem dX6_isBinary_12 : decode cX6_isBinary 12 = .ok (.getfield 15, 3) := by decide +kernel
theorem dX6_isBinary_15 : decode cX6_isBinary 15 = .ok (.iload_n 1, 1) := by decide +kernel
theorem dX6_isBinary_16 : decode cX6_isBinary 16 = .ok (.laload, 1) := by decide +kernel
theorem dX6_isBinary_17 : decode cX6_isBinary 17 = .ok (.lconst 1, 1) := by decide +kernel
theorem dX6_isBinary_18 : decode cX6_isBinary 18 = .ok (.lcmp, 1) := by decide +kernel
theorem dX6_isBinary_19 : decode cX6_isBinary 19 = .ok (.ifCond .ne 7, 3) := by decide +kernel
theorem dX6_isBinary_22 : decode cX6_isBinary 22 = .ok (.iconst 1, 1) := by decide +kernel
theorem dX6_isBinary_23 : decode cX6_isBinary 23 = .ok (.goto 4, 3) := by decide +kernel
theorem dX6_isBinary_26 : decode cX6_isBinary 26 = .ok (.iconst 0, 1) := by decide +kernel
theorem dX6_isBinary_27 : decode cX6_isBinary 27 = .ok (.ireturn, 1) := by decide +kernel
theorem dX6_countPoints_0 : decode cX6_countPoints 0 = .ok (.lconst 1, 1) := by decide +kernel
theorem dX6_countPoints_1 : decode cX6_countPoints 1 = .ok (.lstore_n 1, 1) := by decide +kernel
theorem dX6_countPoints_2 : decode cX6_countPoints 2 = .ok (.iconst 0, 1) := by decide +kernel
theorem dX6_countPoints_3 : decode cX6_countPoints 3 = .ok (.istore_n 3, 1) := by decide +kernel
theorem dX6_countPoints_4 : decode cX6_countPoints 4 = .ok (.iload_n 3, 1) := by decide +kernel
theorem dX6_countPoints_5 : decode cX6_countPoints 5 = .ok (.aload_n 0, 1) := by decide +kernel
theorem dX6_countPoints_6 : decode cX6_countPoints 6 = .ok (.getfield 40, 3) := by decide +kernel
theorem dX6_countPoints_9 : decode cX6_countPoints 9 = .ok (.if_icmp .ge 45, 3) := by decide +kernel
theorem dX6_countPoints_12 : decode cX6_countPoints 12 = .ok (.aload_n 0, 1) := by decide +kernel
theorem dX6_countPoints_13 : decode cX6_countPoints 13 = .ok (.iload_n 3, 1) := by decide +kernel
theorem dX6_countPoints_14 : decode cX6_countPoints 14 = .ok (.invokevirtual 51, 3) := by decide +kernel
theorem dX6_countPoints_17 : decode cX6_countPoints 17 = .ok (.ifCond .eq 21, 3) := by decide +kernel
theorem dX6_countPoints_20 : decode cX6_countPoints 20 = .ok (.lload_n 1, 1) := by decide +kernel
theorem dX6_countPoints_21 : decode cX6_countPoints 21 = .ok (.aload_n 0, 1) := by decide +kernel
theorem dX6_countPoints_22 : decode cX6_countPoints 22 = .ok (.getfield 15, 3) := by decide +kernel
theorem dX6_countPoints_25 : decode cX6_countPoints 25 = .ok (.iload_n 3, 1) := by decide +kernel
theorem dX6_countPoints_26 : decode cX6_countPoints 26 = .ok (.laload, 1) := by decide +kernel
theorem dX6_countPoints_27 : decode cX6_countPoints 27 = .ok (.aload_n 0, 1) := by decide +kernel
theorem dX6_countPoints_28 : decode cX6_countPoints 28 = .ok (.getfield 9, 3) := by decide +kernel
theorem dX6_countPoints_31 : decode cX6_countPoints 31 = .ok (.iload_n 3, 1) := by decide +kernel
theorem dX6_countPoints_32 : decode cX6_countPoints 32 = .ok (.laload, 1) := by decide +kernel
theorem dX6_countPoints_33 : decode cX6_countPoints 33 = .ok (.lsub, 1) := by decide +kernel
theorem dX6_countPoints_34 : decode cX6_countPoints 34 = .ok (.lconst 1, 1) := by decide +kernel
theorem dX6_countPoints_35 : decode cX6_countPoints 35 = .ok (.ladd, 1) := by decide +kernel
theorem dX6_countPoints_36 : decode cX6_countPoints 36 = .ok (.lmul, 1) := by decide +kernel
theorem dX6_countPoints_37 : decode cX6_countPoints 37 = .ok (.lstore_n 1, 1) := by decide +kernel
theorem dX6_countPoints_38 : decode cX6_countPoints 38 = .ok (.lload_n 1, 1) := by decide +kernel
theorem dX6_countPoints_39 : decode cX6_countPoints 39 = .ok (.ldc2_w 55, 3) := by decide +kernel
theorem dX6_countPoints_42 : decode cX6_countPoints 42 = .ok (.lcmp, 1) := by decide +kernel
theorem dX6_countPoints_43 : decode cX6_countPoints 43 = .ok (.ifCond .le 5, 3) := by decide +kernel
theorem dX6_countPoints_46 : decode cX6_countPoints 46 = .ok (.iconst (-1), 1) := by decide +kernel
theorem dX6_countPoints_47 : decode cX6_countPoints 47 = .ok (.ireturn, 1) := by decide +kernel
theorem dX6_countPoints_48 : decode cX6_countPoints 48 = .ok (.iinc 3 1, 3) := by decide +kernel
theorem dX6_countPoints_51 : decode cX6_countPoints 51 = .ok (.goto (-47), 3) := by decide +kernel
theorem dX6_countPoints_54 : decode cX6_countPoints 54 = .ok (.lload_n 1, 1) := by decide +kernel
theorem dX6_countPoints_55 : decode cX6_countPoints 55 = .ok (.l2i, 1) := by decide +kernel
theorem dX6_countPoints_56 : decode cX6_countPoints 56 = .ok (.ireturn, 1) := by decide +kernel
theorem dX6_isHolding_0 : decode cX6_isHolding 0 = .ok (.aload_n 0, 1) := by decide +kernel
theorem dX6_isHolding_1 : decode cX6_isHolding 1 = .ok (.iload_n 1, 1) := by decide +kernel
theorem dX6_isHolding_2 : decode cX6_isHolding 2 = .ok (.invokevirtual 57, 3) := by decide +kernel
theorem dX6_isHolding_5 : decode cX6_isHolding 5 = .ok (.ifCond .ne 34, 3) := by decide +kernel
theorem dX6_isHolding_8 : decode cX6_isHolding 8 = .ok (.lload_n 2, 1) := by decide +kernel
theorem dX6_isHolding_9 : decode cX6_isHolding 9 = .ok (.aload_n 0, 1) := by decide +kernel
theorem dX6_isHolding_10 : decode cX6_isHolding 10 = .ok (.getfield 28, 3) := by decide +kernel
theorem dX6_isHolding_13 : decode cX6_isHolding 13 = .ok (.iload_n 1, 1) := by decide +kernel
theorem dX6_isHolding_14 : decode cX6_isHolding 14 = .ok (.laload, 1) := by decide +kernel
theorem dX6_isHolding_15 : decode cX6_isHolding 15 = .ok (.lcmp, 1) := by decide +kernel
theorem dX6_isHolding_16 : decode cX6_isHolding 16 = .ok (.ifCond .eq 23, 3) := by decide +kernel
theorem dX6_isHolding_19 : decode cX6_isHolding 19 = .ok (.aload_n 0, 1) := by decide +kernel
theorem dX6_isHolding_20 : decode cX6_isHolding 20 = .ok (.getfield 25, 3) := by decide +kernel
theorem dX6_isHolding_23 : decode cX6_isHolding 23 = .ok (.iload_n 1, 1) := by decide +kernel
theorem dX6_isHolding_24 : decode cX6_isHolding 24 = .ok (.iaload, 1) := by decide +kernel
theorem dX6_isHolding_25 : decode cX6_isHolding 25 = .ok (.ifCond .ne 18, 3) := by decide +kernel
theorem dX6_isHolding_28 : decode cX6_isHolding 28 = .ok (.lload_n 2, 1) := by decide +kernel
theorem dX6_isHolding_29 : decode cX6_isHolding 29 = .ok (.aload_n 0, 1) := by decide +kernel
theorem dX6_isHolding_30 : decode cX6_isHolding 30 = .ok (.getfield 28, 3) := by decide +kernel
theorem dX6_isHolding_33 : decode cX6_isHolding 33 = .ok (.iload_n 1, 1) := by decide +kernel
theorem dX6_isHolding_34 : decode cX6_isHolding 34 = .ok (.laload, 1) := by decide +kernel
theorem dX6_isHolding_35 : decode cX6_isHolding 35 = .ok (.lcmp, 1) := by decide +kernel
theorem dX6_isHolding_36 : decode cX6_isHolding 36 = .ok (.ifCond .ge 7, 3) := by decide +kernel
theorem dX6_isHolding_39 : decode cX6_isHolding 39 = .ok (.iconst 1, 1) := by decide +kernel
theorem dX6_isHolding_40 : decode cX6_isHolding 40 = .ok (.goto 4, 3) := by decide +kernel
theorem dX6_isHolding_43 : decode cX6_isHolding 43 = .ok (.iconst 0, 1) := by decide +kernel
theorem dX6_isHolding_44 : decode cX6_isHolding 44 = .ok (.ireturn, 1) := by decide +kernel
theorem dX6_isFitting_0 : decode cX6_isFitting 0 = .ok (.iconst 0, 1) := by decide +kernel
theorem dX6_isFitting_1 : decode cX6_isFitting 1 = .ok (.istore_n 2, 1) := by decide +kernel
theorem dX6_isFitting_2 : decode cX6_isFitting 2 = .ok (.iload_n 2, 1) := by decide +kernel
theorem dX6_isFitting_3 : decode cX6_isFitting 3 = .ok (.aload_n 0, 1) := by decide +kernel
theorem dX6_isFitting_4 : decode cX6_isFitting 4 = .ok (.getfield 40, 3) := by decide +kernel
theorem dX6_isFitting_7 : decode cX6_isFitting 7 = .ok (.if_icmp .ge 37, 3) := by decide +kernel
theorem dX6_isFitting_10 : decode cX6_isFitting 10 = .ok (.aload_n 1, 1) := by decide +kernel
theorem dX6_isFitting_11 : decode cX6_isFitting 11 = .ok (.iload_n 2, 1) := by decide +kernel
theorem dX6_isFitting_12 : decode cX6_isFitting 12 = .ok (.laload, 1) := by decide +kernel
theorem dX6_isFitting_13 : decode cX6_isFitting 13 = .ok (.aload_n 0, 1) := by decide +kernel
theorem dX6_isFitting_14 : decode cX6_isFitting 14 = .ok (.getfield 9, 3) := by decide +kernel
theorem dX6_isFitting_17 : decode cX6_isFitting 17 = .ok (.iload_n 2, 1) := by decide +kernel
theorem dX6_isFitting_18 : decode cX6_isFitting 18 = .ok (.laload, 1) := by decide +kernel
theorem dX6_isFitting_19 : decode cX6_isFitting 19 = .ok (.lcmp, 1) := by decide +kernel
theorem dX6_isFitting_20 : decode cX6_isFitting 20 = .ok (.ifCond .lt 16, 3) := by decide +kernel
theorem dX6_isFitting_23 : decode cX6_isFitting 23 = .ok (.aload_n 1, 1) := by decide +kernel
theorem dX6_isFitting_24 : decode cX6_isFitting 24 = .ok (.iload_n 2, 1) := by decide +kernel
theorem dX6_isFitting_25 : decode cX6_isFitting 25 = .ok (.laload, 1) := by decide +kernel
theorem dX6_isFitting_26 : decode cX6_isFitting 26 = .ok (.aload_n 0, 1) := by decide +kernel
theorem dX6_isFitting_27 : decode cX6_isFitting 27 = .ok (.getfield 15, 3) := by decide +kernel
theorem dX6_isFitting_30 : decode cX6_isFitting 30 = .ok (.iload_n 2, 1) := by decide +kernel
theorem dX6_isFitting_31 : decode cX6_isFitting 31 = .ok (.laload, 1) := by decide +kernel
theorem dX6_isFitting_32 : decode cX6_isFitting 32 = .ok (.lcmp, 1) := by decide +kernel
theorem dX6_isFitting_33 : decode cX6_isFitting 33 = .ok (.ifCond .le 5, 3) := by decide +kernel
theorem dX6_isFitting_36 : decode cX6_isFitting 36 = .ok (.iconst 0, 1) := by decide +kernel
theorem dX6_isFitting_37 : decode cX6_isFitting 37 = .ok (.ireturn, 1) := by decide +kernel
theorem dX6_isFitting_38 : decode cX6_isFitting 38 = .ok (.iinc 2 1, 3) := by decide +kernel
theorem dX6_isFitting_41 : decode cX6_isFitting 41 = .ok (.goto (-39), 3) := by decide +kernel
theorem dX6_isFitting_44 : decode cX6_isFitting 44 = .ok (.iconst 0, 1) := by decide +kernel
theorem dX6_isFitting_45 : decode cX6_isFitting 45 = .ok (.istore_n 2, 1) := by decide +kernel
theorem dX6_isFitting_46 : decode cX6_isFitting 46 = .ok (.iload_n 2, 1) := by decide +kernel
theorem dX6_isFitting_47 : decode cX6_isFitting 47 = .ok (.aload_n 0, 1) := by decide +kernel
theorem dX6_isFitting_48 : decode cX6_isFitting 48 = .ok (.getfield 36, 3) := by decide +kernel
theorem dX6_isFitting_51 : decode cX6_isFitting 51 = .ok (.if_icmp .ge 57, 3) := by decide +kernel
theorem dX6_isFitting_54 : decode cX6_isFitting 54 = .ok (.lconst 0, 1) := by decide +kernel
theorem dX6_isFitting_55 : decode cX6_isFitting 55 = .ok (.lstore_n 3, 1) := by decide +kernel
theorem dX6_isFitting_56 : decode cX6_isFitting 56 = .ok (.iconst 0, 1) := by decide +kernel
theorem dX6_isFitting_57 : decode cX6_isFitting 57 = .ok (.istore 5, 2) := by decide +kernel
theorem dX6_isFitting_59 : decode cX6_isFitting 59 = .ok (.iload 5, 2) := by decide +kernel
theorem dX6_isFitting_61 : decode cX6_isFitting 61 = .ok (.aload_n 0, 1) := by decide +kernel
theorem dX6_isFitting_62 : decode cX6_isFitting 62 = .ok (.getfield 40, 3) := by decide +kernel
theorem dX6_isFitting_65 : decode cX6_isFitting 65 = .ok (.if_icmp .ge 26, 3) := by decide +kernel
theorem dX6_isFitting_68 : decode cX6_isFitting 68 = .ok (.lload_n 3, 1) := by decide +kernel
theorem dX6_isFitting_69 : decode cX6_isFitting 69 = .ok (.aload_n 0, 1) := by decide +kernel
theorem dX6_isFitting_70 : decode cX6_isFitting 70 = .ok (.getfield 33, 3) := by decide +kernel
theorem dX6_isFitting_73 : decode cX6_isFitting 73 = .ok (.iload_n 2, 1) := by decide +kernel
theorem dX6_isFitting_74 : decode cX6_isFitting 74 = .ok (.aaload, 1) := by decide +kernel
theorem dX6_isFitting_75 : decode cX6_isFitting 75 = .ok (.iload 5, 2) := by decide +kernel
theorem dX6_isFitting_77 : decode cX6_isFitting 77 = .ok (.laload, 1) := by decide +kernel
theorem dX6_isFitting_78 : decode cX6_isFitting 78 = .ok (.aload_n 1, 1) := by decide +kernel
theorem dX6_isFitting_79 : decode cX6_isFitting 79 = .ok (.iload 5, 2) := by decide +kernel
theorem dX6_isFitting_81 : decode cX6_isFitting 81 = .ok (.laload, 1) := by decide +kernel
theorem dX6_isFitting_82 : decode cX6_isFitting 82 = .ok (.lmul, 1) := by decide +kernel
theorem dX6_isFitting_83 : decode cX6_isFitting 83 = .ok (.ladd, 1) := by decide +kernel
theorem dX6_isFitting_84 : decode cX6_isFitting 84 = .ok (.lstore_n 3, 1) := by decide +kernel
theorem dX6_isFitting_85 : decode cX6_isFitting 85 = .ok (.iinc 5 1, 3) := by decide +kernel
theorem dX6_isFitting_88 : decode cX6_isFitting 88 = .ok (.goto (-29), 3) := by decide +kernel
theorem dX6_isFitting_91 : decode cX6_isFitting 91 = .ok (.aload_n 0, 1) := by decide +kernel
theorem dX6_isFitting_92 : decode cX6_isFitting 92 = .ok (.iload_n 2, 1) := by decide +kernel
theorem dX6_isFitting_93 : decode cX6_isFitting 93 = .ok (.lload_n 3, 1) := by decide +kernel
theorem dX6_isFitting_94 : decode cX6_isFitting 94 = .ok (.invokevirtual 60, 3) := by decide +kernel
theorem dX6_isFitting_97 : decode cX6_isFitting 97 = .ok (.ifCond .ne 5, 3) := by decide +kernel
theorem dX6_isFitting_100 : decode cX6_isFitting 100 = .ok (.iconst 0, 1) := by decide +kernel
theorem dX6_isFitting_101 : decode cX6_isFitting 101 = .ok (.ireturn, 1) := by decide +kernel
theorem dX6_isFitting_102 : decode cX6_isFitting 102 = .ok (.iinc 2 1, 3) := by decide +kernel
theorem dX6_isFitting_105 : decode cX6_isFitting 105 = .ok (.goto (-59), 3) := by decide +kernel
theorem dX6_isFitting_108 : decode cX6_isFitting 108 = .ok (.iconst 1, 1) := by decide +kernel
theorem dX6_isFitting_109 : decode cX6_isFitting 109 = .ok (.ireturn, 1) := by decide +kernel
theorem dX5_beginAs_0 : decode cX5_beginAs 0 = .ok (.aload_n 0, 1) := by decide +kernel
theorem dX5_beginAs_1 : decode cX5_beginAs 1 = .ok (.getfield 12, 3) := by decide +kernel
theorem dX5_beginAs_4 : decode cX5_beginAs 4 = .ok (.aload_n 1, 1) := by decide +kernel
theorem dX5_beginAs_5 : decode cX5_beginAs 5 = .ok (.invokevirtual 51, 3) := by decide +kernel
theorem dX5_beginAs_8 : decode cX5_beginAs 8 = .ok (.iconst 0, 1) := by decide +kernel
theorem dX5_beginAs_9 : decode cX5_beginAs 9 = .ok (.istore_n 2, 1) := by decide +kernel
theorem dX5_beginAs_10 : decode cX5_beginAs 10 = .ok (.iload_n 2, 1) := by decide +kernel
theorem dX5_beginAs_11 : decode cX5_beginAs 11 = .ok (.bipush 12, 2) := by decide +kernel
theorem dX5_beginAs_13 : decode cX5_beginAs 13 = .ok (.if_icmp .ge 32, 3) := by decide +kernel
theorem dX5_beginAs_16 : decode cX5_beginAs 16 = .ok (.aload_n 0, 1) := by decide +kernel
theorem dX5_beginAs_17 : decode cX5_beginAs 17 = .ok (.getfield 18, 3) := by decide +kernel
theorem dX5_beginAs_20 : decode cX5_beginAs 20 = .ok (.iload_n 2, 1) := by decide +kernel
theorem dX5_beginAs_21 : decode cX5_beginAs 21 = .ok (.iconst 1, 1) := by decide +kernel
theorem dX5_beginAs_22 : decode cX5_beginAs 22 = .ok (.iload_n 2, 1) := by decide +kernel
theorem dX5_beginAs_23 : decode cX5_beginAs 23 = .ok (.ishl, 1) := by decide +kernel
theorem dX5_beginAs_24 : decode cX5_beginAs 24 = .ok (.iastore, 1) := by decide +kernel
theorem dX5_beginAs_25 : decode cX5_beginAs 25 = .ok (.aload_n 0, 1) := by decide +kernel
theorem dX5_beginAs_26 : decode cX5_beginAs 26 = .ok (.getfield 22, 3) := by decide +kernel
theorem dX5_beginAs_29 : decode cX5_beginAs 29 = .ok (.iload_n 2, 1) := by decide +kernel
theorem dX5_beginAs_30 : decode cX5_beginAs 30 = .ok (.iconst 0, 1) := by decide +kernel
theorem dX5_beginAs_31 : decode cX5_beginAs 31 = .ok (.iastore, 1) := by decide +kernel
theorem dX5_beginAs_32 : decode cX5_beginAs 32 = .ok (.aload_n 0, 1) := by decide +kernel
theorem dX5_beginAs_33 : decode cX5_beginAs 33 = .ok (.getfield 25, 3) := by decide +kernel
theorem dX5_beginAs_36 : decode cX5_beginAs 36 = .ok (.iload_n 2, 1) := by decide +kernel
theorem dX5_beginAs_37 : decode cX5_beginAs 37 = .ok (.iconst 0, 1) := by decide +kernel
theorem dX5_beginAs_38 : decode cX5_beginAs 38 = .ok (.iastore, 1) := by decide +kernel
theorem dX5_beginAs_39 : decode cX5_beginAs 39 = .ok (.iinc 2 1, 3) := by decide +kernel
theorem dX5_beginAs_42 : decode cX5_beginAs 42 = .ok (.goto (-32), 3) := by decide +kernel
theorem dX5_beginAs_45 : decode cX5_beginAs 45 = .ok (.aload_n 0, 1) := by decide +kernel
theorem dX5_beginAs_46 : decode cX5_beginAs 46 = .ok (.getfield 31, 3) := by decide +kernel
theorem dX5_beginAs_49 : decode cX5_beginAs 49 = .ok (.iconst 0, 1) := by decide +kernel
theorem dX5_beginAs_50 : decode cX5_beginAs 50 = .ok (.putfield 55, 3) := by decide +kernel
theorem dX5_beginAs_53 : decode cX5_beginAs 53 = .ok (.aload_n 0, 1) := by decide +kernel
theorem dX5_beginAs_54 : decode cX5_beginAs 54 = .ok (.lconst 0, 1) := by decide +kernel
theorem dX5_beginAs_55 : decode cX5_beginAs 55 = .ok (.putfield 58, 3) := by decide +kernel
theorem dX5_beginAs_58 : decode cX5_beginAs 58 = .ok (.aload_n 0, 1) := by decide +kernel
theorem dX5_beginAs_59 : decode cX5_beginAs 59 = .ok (.iconst (-1), 1) := by decide +kernel
theorem dX5_beginAs_60 : decode cX5_beginAs 60 = .ok (.putfield 35, 3) := by decide +kernel
theorem dX5_beginAs_63 : decode cX5_beginAs 63 = .ok (.aload_n 0, 1) := by decide +kernel
theorem dX5_beginAs_64 : decode cX5_beginAs 64 = .ok (.iconst 0, 1) := by decide +kernel
theorem dX5_beginAs_65 : decode cX5_beginAs 65 = .ok (.putfield 62, 3) := by decide +kernel
theorem dX5_beginAs_68 : decode cX5_beginAs 68 = .ok (.return_, 1) := by decide +kernel
theorem dX5_isImpossible_0 : decode cX5_isImpossible 0 = .ok (.aload_n 0, 1) := by decide +kernel
theorem dX5_isImpossible_1 : decode cX5_isImpossible 1 = .ok (.getfield 35, 3) := by decide +kernel
theorem dX5_isImpossible_4 : decode cX5_isImpossible 4 = .ok (.iconst (-1), 1) := by decide +kernel
theorem dX5_isImpossible_5 : decode cX5_isImpossible 5 = .ok (.if_icmp .eq 7, 3) := by decide +kernel
theorem dX5_isImpossible_8 : decode cX5_isImpossible 8 = .ok (.iconst 1, 1) := by decide +kernel
theorem dX5_isImpossible_9 : decode cX5_isImpossible 9 = .ok (.goto 4, 3) := by decide +kernel
theorem dX5_isImpossible_12 : decode cX5_isImpossible 12 = .ok (.iconst 0, 1) := by decide +kernel
theorem dX5_isImpossible_13 : decode cX5_isImpossible 13 = .ok (.ireturn, 1) := by decide +kernel
theorem dX5_endAll_0 : decode cX5_endAll 0 = .ok (.aload_n 0, 1) := by decide +kernel
theorem dX5_endAll_1 : decode cX5_endAll 1 = .ok (.iload_n 1, 1) := by decide +kernel
theorem dX5_endAll_2 : decode cX5_endAll 2 = .ok (.putfield 35, 3) := by decide +kernel
theorem dX5_endAll_5 : decode cX5_endAll 5 = .ok (.iconst 0, 1) := by decide +kernel
theorem dX5_endAll_6 : decode cX5_endAll 6 = .ok (.ireturn, 1) := by decide +kernel
theorem dX5_leaveOut_0 : decode cX5_leaveOut 0 = .ok (.aload_n 0, 1) := by decide +kernel
theorem dX5_leaveOut_1 : decode cX5_leaveOut 1 = .ok (.getfield 12, 3) := by decide +kernel
theorem dX5_leaveOut_4 : decode cX5_leaveOut 4 = .ok (.getfield 65, 3) := by decide +kernel
theorem dX5_leaveOut_7 : decode cX5_leaveOut 7 = .ok (.iload_n 1, 1) := by decide +kernel
theorem dX5_leaveOut_8 : decode cX5_leaveOut 8 = .ok (.iconst (-1), 1) := by decide +kernel
theorem dX5_leaveOut_9 : decode cX5_leaveOut 9 = .ok (.iastore, 1) := by decide +kernel
theorem dX5_leaveOut_10 : decode cX5_leaveOut 10 = .ok (.aload_n 0, 1) := by decide +kernel
theorem dX5_leaveOut_11 : decode cX5_leaveOut 11 = .ok (.getfield 31, 3) := by decide +kernel
theorem dX5_leaveOut_14 : decode cX5_leaveOut 14 = .ok (.aload_n 0, 1) := by decide +kernel
theorem dX5_leaveOut_15 : decode cX5_leaveOut 15 = .ok (.getfield 68, 3) := by decide +kernel
theorem dX5_leaveOut_18 : decode cX5_leaveOut 18 = .ok (.iload_n 1, 1) := by decide +kernel
theorem dX5_leaveOut_19 : decode cX5_leaveOut 19 = .ok (.iconst (-1), 1) := by decide +kernel
theorem dX5_leaveOut_20 : decode cX5_leaveOut 20 = .ok (.iconst 0, 1) := by decide +kernel
theorem dX5_leaveOut_21 : decode cX5_leaveOut 21 = .ok (.aload_n 0, 1) := by decide +kernel
theorem dX5_leaveOut_22 : decode cX5_leaveOut 22 = .ok (.getfield 12, 3) := by decide +kernel
theorem dX5_leaveOut_25 : decode cX5_leaveOut 25 = .ok (.getfield 71, 3) := by decide +kernel
theorem dX5_leaveOut_28 : decode cX5_leaveOut 28 = .ok (.iload_n 1, 1) := by decide +kernel
theorem dX5_leaveOut_29 : decode cX5_leaveOut 29 = .ok (.laload, 1) := by decide +kernel
theorem dX5_leaveOut_30 : decode cX5_leaveOut 30 = .ok (.invokevirtual 74, 3) := by decide +kernel
theorem dX5_leaveOut_33 : decode cX5_leaveOut 33 = .ok (.return_, 1) := by decide +kernel
theorem dX5_noteAnew_0 : decode cX5_noteAnew 0 = .ok (.aload_n 0, 1) := by decide +kernel
theorem dX5_noteAnew_1 : decode cX5_noteAnew 1 = .ok (.getfield 31, 3) := by decide +kernel
theorem dX5_noteAnew_4 : decode cX5_noteAnew 4 = .ok (.aload_n 0, 1) := by decide +kernel
theorem dX5_noteAnew_5 : decode cX5_noteAnew 5 = .ok (.getfield 68, 3) := by decide +kernel
theorem dX5_noteAnew_8 : decode cX5_noteAnew 8 = .ok (.iload_n 1, 1) := by decide +kernel
theorem dX5_noteAnew_9 : decode cX5_noteAnew 9 = .ok (.iconst (-1), 1) := by decide +kernel
theorem dX5_noteAnew_10 : decode cX5_noteAnew 10 = .ok (.iconst 3, 1) := by decide +kernel
theorem dX5_noteAnew_11 : decode cX5_noteAnew 11 = .ok (.aload_n 0, 1) := by decide +kernel
theorem dX5_noteAnew_12 : decode cX5_noteAnew 12 = .ok (.getfield 12, 3) := by decide +kernel
theorem dX5_noteAnew_15 : decode cX5_noteAnew 15 = .ok (.getfield 71, 3) := by decide +kernel
theorem dX5_noteAnew_18 : decode cX5_noteAnew 18 = .ok (.iload_n 1, 1) := by decide +kernel
theorem dX5_noteAnew_19 : decode cX5_noteAnew 19 = .ok (.laload, 1) := by decide +kernel
theorem dX5_noteAnew_20 : decode cX5_noteAnew 20 = .ok (.invokevirtual 74, 3) := by decide +kernel
theorem dX5_noteAnew_23 : decode cX5_noteAnew 23 = .ok (.return_, 1) := by decide +kernel
theorem dX5_reach_0 : decode cX5_reach 0 = .ok (.lconst 0, 1) := by decide +kernel
theorem dX5_reach_1 : decode cX5_reach 1 = .ok (.lstore 4, 2) := by decide +kernel
theorem dX5_reach_3 : decode cX5_reach 3 = .ok (.iconst 0, 1) := by decide +kernel
theorem dX5_reach_4 : decode cX5_reach 4 = .ok (.istore 6, 2) := by decide +kernel
theorem dX5_reach_6 : decode cX5_reach 6 = .ok (.iload 6, 2) := by decide +kernel
theorem dX5_reach_8 : decode cX5_reach 8 = .ok (.aload_n 0, 1) := by decide +kernel
theorem dX5_reach_9 : decode cX5_reach 9 = .ok (.getfield 12, 3) := by decide +kernel
theorem dX5_reach_12 : decode cX5_reach 12 = .ok (.getfield 78, 3) := by decide +kernel
theorem dX5_reach_15 : decode cX5_reach 15 = .ok (.if_icmp .ge 83, 3) := by decide +kernel
theorem dX5_reach_18 : decode cX5_reach 18 = .ok (.aload_n 0, 1) := by decide +kernel
theorem dX5_reach_19 : decode cX5_reach 19 = .ok (.getfield 12, 3) := by decide +kernel
theorem dX5_reach_22 : decode cX5_reach 22 = .ok (.getfield 81, 3) := by decide +kernel
theorem dX5_reach_25 : decode cX5_reach 25 = .ok (.iload_n 1, 1) := by decide +kernel
theorem dX5_reach_26 : decode cX5_reach 26 = .ok (.aaload, 1) := by decide +kernel
theorem dX5_reach_27 : decode cX5_reach 27 = .ok (.iload 6, 2) := by decide +kernel
theorem dX5_reach_29 : decode cX5_reach 29 = .ok (.laload, 1) := by decide +kernel
theorem dX5_reach_30 : decode cX5_reach 30 = .ok (.lstore 7, 2) := by decide +kernel
theorem dX5_reach_32 : decode cX5_reach 32 = .ok (.lload 7, 2) := by decide +kernel
theorem dX5_reach_34 : decode cX5_reach 34 = .ok (.lconst 0, 1) := by decide +kernel
theorem dX5_reach_35 : decode cX5_reach 35 = .ok (.lcmp, 1) := by decide +kernel
theorem dX5_reach_36 : decode cX5_reach 36 = .ok (.ifCond .eq 56, 3) := by decide +kernel
theorem dX5_reach_39 : decode cX5_reach 39 = .ok (.iload 6, 2) := by decide +kernel
theorem dX5_reach_41 : decode cX5_reach 41 = .ok (.iload_n 2, 1) := by decide +kernel
theorem dX5_reach_42 : decode cX5_reach 42 = .ok (.if_icmp .eq 50, 3) := by decide +kernel
theorem dX5_reach_45 : decode cX5_reach 45 = .ok (.lload 4, 2) := by decide +kernel
theorem dX5_reach_47 : decode cX5_reach 47 = .ok (.lload 7, 2) := by decide +kernel
theorem dX5_reach_49 : decode cX5_reach 49 = .ok (.lload 7, 2) := by decide +kernel
theorem dX5_reach_51 : decode cX5_reach 51 = .ok (.lconst 0, 1) := by decide +kernel
theorem dX5_reach_52 : decode cX5_reach 52 = .ok (.lcmp, 1) := by decide +kernel
theorem dX5_reach_53 : decode cX5_reach 53 = .ok (.ifCond .le 7, 3) := by decide +kernel
theorem dX5_reach_56 : decode cX5_reach 56 = .ok (.iconst 1, 1) := by decide +kernel
theorem dX5_reach_57 : decode cX5_reach 57 = .ok (.goto 4, 3) := by decide +kernel
theorem dX5_reach_60 : decode cX5_reach 60 = .ok (.iconst 0, 1) := by decide +kernel
theorem dX5_reach_61 : decode cX5_reach 61 = .ok (.iload_n 3, 1) := by decide +kernel
theorem dX5_reach_62 : decode cX5_reach 62 = .ok (.if_icmp .ne 16, 3) := by decide +kernel
theorem dX5_reach_65 : decode cX5_reach 65 = .ok (.aload_n 0, 1) := by decide +kernel
theorem dX5_reach_66 : decode cX5_reach 66 = .ok (.getfield 12, 3) := by decide +kernel
theorem dX5_reach_69 : decode cX5_reach 69 = .ok (.getfield 84, 3) := by decide +kernel
theorem dX5_reach_72 : decode cX5_reach 72 = .ok (.iload 6, 2) := by decide +kernel
theorem dX5_reach_74 : decode cX5_reach 74 = .ok (.laload, 1) := by decide +kernel
theorem dX5_reach_75 : decode cX5_reach 75 = .ok (.goto 13, 3) := by decide +kernel
theorem dX5_reach_78 : decode cX5_reach 78 = .ok (.aload_n 0, 1) := by decide +kernel
theorem dX5_reach_79 : decode cX5_reach 79 = .ok (.getfield 12, 3) := by decide +kernel
theorem dX5_reach_82 : decode cX5_reach 82 = .ok (.getfield 87, 3) := by decide +kernel
theorem dX5_reach_85 : decode cX5_reach 85 = .ok (.iload 6, 2) := by decide +kernel
theorem dX5_reach_87 : decode cX5_reach 87 = .ok (.laload, 1) := by decide +kernel
theorem dX5_reach_88 : decode cX5_reach 88 = .ok (.lmul, 1) := by decide +kernel
theorem dX5_reach_89 : decode cX5_reach 89 = .ok (.ladd, 1) := by decide +kernel
theorem dX5_reach_90 : decode cX5_reach 90 = .ok (.lstore 4, 2) := by decide +kernel
theorem dX5_reach_92 : decode cX5_reach 92 = .ok (.iinc 6 1, 3) := by decide +kernel
theorem dX5_reach_95 : decode cX5_reach 95 = .ok (.goto (-89), 3) := by decide +kernel
theorem dX5_reach_98 : decode cX5_reach 98 = .ok (.lload 4, 2) := by decide +kernel
theorem dX5_reach_100 : decode cX5_reach 100 = .ok (.lreturn, 1) := by decide +kernel
theorem dX5_reachRest_0 : decode cX5_reachRest 0 = .ok (.iconst 0, 1) := by decide +kernel
theorem dX5_reachRest_1 : decode cX5_reachRest 1 = .ok (.istore 4, 2) := by decide +kernel
theorem dX5_reachRest_3 : decode cX5_reachRest 3 = .ok (.iconst 0, 1) := by decide +kernel
theorem dX5_reachRest_4 : decode cX5_reachRest 4 = .ok (.istore 5, 2) := by decide +kernel
theorem dX5_reachRest_6 : decode cX5_reachRest 6 = .ok (.iload 5, 2) := by decide +kernel
theorem dX5_reachRest_8 : decode cX5_reachRest 8 = .ok (.aload_n 0, 1) := by decide +kernel
theorem dX5_reachRest_9 : decode cX5_reachRest 9 = .ok (.getfield 12, 3) := by decide +kernel
theorem dX5_reachRest_12 : decode cX5_reachRest 12 = .ok (.getfield 78, 3) := by decide +kernel
theorem dX5_reachRest_15 : decode cX5_reachRest 15 = .ok (.if_icmp .ge 74, 3) := by decide +kernel
theorem dX5_reachRest_18 : decode cX5_reachRest 18 = .ok (.aload_n 0, 1) := by decide +kernel
theorem dX5_reachRest_19 : decode cX5_reachRest 19 = .ok (.getfield 12, 3) := by decide +kernel
theorem dX5_reachRest_22 : decode cX5_reachRest 22 = .ok (.getfield 81, 3) := by decide +kernel
theorem dX5_reachRest_25 : decode cX5_reachRest 25 = .ok (.iload_n 1, 1) := by decide +kernel
theorem dX5_reachRest_26 : decode cX5_reachRest 26 = .ok (.aaload, 1) := by decide +kernel
theorem dX5_reachRest_27 : decode cX5_reachRest 27 = .ok (.iload 5, 2) := by decide +kernel
theorem dX5_reachRest_29 : decode cX5_reachRest 29 = .ok (.laload, 1) := by decide +kernel
theorem dX5_reachRest_30 : decode cX5_reachRest 30 = .ok (.lstore 6, 2) := by decide +kernel
theorem dX5_reachRest_32 : decode cX5_reachRest 32 = .ok (.lload 6, 2) := by decide +kernel
theorem dX5_reachRest_34 : decode cX5_reachRest 34 = .ok (.lconst 0, 1) := by decide +kernel
theorem dX5_reachRest_35 : decode cX5_reachRest 35 = .ok (.lcmp, 1) := by decide +kernel
theorem dX5_reachRest_36 : decode cX5_reachRest 36 = .ok (.ifCond .eq 47, 3) := by decide +kernel
theorem dX5_reachRest_39 : decode cX5_reachRest 39 = .ok (.iload 5, 2) := by decide +kernel
theorem dX5_reachRest_41 : decode cX5_reachRest 41 = .ok (.iload_n 2, 1) := by decide +kernel
theorem dX5_reachRest_42 : decode cX5_reachRest 42 = .ok (.if_icmp .eq 41, 3) := by decide +kernel
theorem dX5_reachRest_45 : decode cX5_reachRest 45 = .ok (.iload 4, 2) := by decide +kernel
theorem dX5_reachRest_47 : decode cX5_reachRest 47 = .ok (.lload 6, 2) := by decide +kernel
theorem dX5_reachRest_49 : decode cX5_reachRest 49 = .ok (.lconst 0, 1) := by decide +kernel
theorem dX5_reachRest_50 : decode cX5_reachRest 50 = .ok (.lcmp, 1) := by decide +kernel
theorem dX5_reachRest_51 : decode cX5_reachRest 51 = .ok (.ifCond .le 7, 3) := by decide +kernel
theorem dX5_reachRest_54 : decode cX5_reachRest 54 = .ok (.iconst 1, 1) := by decide +kernel
theorem dX5_reachRest_55 : decode cX5_reachRest 55 = .ok (.goto 4, 3) := by decide +kernel
theorem dX5_reachRest_58 : decode cX5_reachRest 58 = .ok (.iconst 0, 1) := by decide +kernel
theorem dX5_reachRest_59 : decode cX5_reachRest 59 = .ok (.iload_n 3, 1) := by decide +kernel
theorem dX5_reachRest_60 : decode cX5_reachRest 60 = .ok (.if_icmp .ne 13, 3) := by decide +kernel
theorem dX5_reachRest_63 : decode cX5_reachRest 63 = .ok (.aload_n 0, 1) := by decide +kernel
theorem dX5_reachRest_64 : decode cX5_reachRest 64 = .ok (.getfield 25, 3) := by decide +kernel
theorem dX5_reachRest_67 : decode cX5_reachRest 67 = .ok (.iload 5, 2) := by decide +kernel
theorem dX5_reachRest_69 : decode cX5_reachRest 69 = .ok (.iaload, 1) := by decide +kernel
theorem dX5_reachRest_70 : decode cX5_reachRest 70 = .ok (.goto 10, 3) := by decide +kernel
theorem dX5_reachRest_73 : decode cX5_reachRest 73 = .ok (.aload_n 0, 1) := by decide +kernel
theorem dX5_reachRest_74 : decode cX5_reachRest 74 = .ok (.getfield 22, 3) := by decide +kernel
theorem dX5_reachRest_77 : decode cX5_reachRest 77 = .ok (.iload 5, 2) := by decide +kernel
theorem dX5_reachRest_79 : decode cX5_reachRest 79 = .ok (.iaload, 1) := by decide +kernel
theorem dX5_reachRest_80 : decode cX5_reachRest 80 = .ok (.ior, 1) := by decide +kernel
theorem dX5_reachRest_81 : decode cX5_reachRest 81 = .ok (.istore 4, 2) := by decide +kernel
theorem dX5_reachRest_83 : decode cX5_reachRest 83 = .ok (.iinc 5 1, 3) := by decide +kernel
theorem dX5_reachRest_86 : decode cX5_reachRest 86 = .ok (.goto (-80), 3) := by decide +kernel
theorem dX5_reachRest_89 : decode cX5_reachRest 89 = .ok (.iload 4, 2) := by decide +kernel
theorem dX5_reachRest_91 : decode cX5_reachRest 91 = .ok (.ireturn, 1) := by decide +kernel
theorem dX5_narrow_0 : decode cX5_narrow 0 = .ok (.lload 6, 2) := by decide +kernel
theorem dX5_narrow_2 : decode cX5_narrow 2 = .ok (.lconst 0, 1) := by decide +kernel
theorem dX5_narrow_3 : decode cX5_narrow 3 = .ok (.lcmp, 1) := by decide +kernel
theorem dX5_narrow_4 : decode cX5_narrow 4 = .ok (.ifCond .ne 5, 3) := by decide +kernel
theorem dX5_narrow_7 : decode cX5_narrow 7 = .ok (.iconst 1, 1) := by decide +kernel
theorem dX5_narrow_8 : decode cX5_narrow 8 = .ok (.ireturn, 1) := by decide +kernel
theorem dX5_narrow_9 : decode cX5_narrow 9 = .ok (.iload_n 3, 1) := by decide +kernel
theorem dX5_narrow_10 : decode cX5_narrow 10 = .ok (.ifCond .eq 13, 3) := by decide +kernel
theorem dX5_narrow_13 : decode cX5_narrow 13 = .ok (.lload 4, 2) := by decide +kernel
theorem dX5_narrow_15 : decode cX5_narrow 15 = .ok (.lload 6, 2) := by decide +kernel
theorem dX5_narrow_17 : decode cX5_narrow 17 = .ok (.invokestatic 90, 3) := by decide +kernel
theorem dX5_narrow_20 : decode cX5_narrow 20 = .ok (.goto 12, 3) := by decide +kernel
theorem dX5_narrow_23 : decode cX5_narrow 23 = .ok (.lload 4, 2) := by decide +kernel
theorem dX5_narrow_25 : decode cX5_narrow 25 = .ok (.lneg, 1) := by decide +kernel
theorem dX5_narrow_26 : decode cX5_narrow 26 = .ok (.lload 6, 2) := by decide +kernel
theorem dX5_narrow_28 : decode cX5_narrow 28 = .ok (.invokestatic 90, 3) := by decide +kernel
theorem dX5_narrow_31 : decode cX5_narrow 31 = .ok (.lneg, 1) := by decide +kernel
theorem dX5_narrow_32 : decode cX5_narrow 32 = .ok (.lstore 9, 2) := by decide +kernel
theorem dX5_narrow_34 : decode cX5_narrow 34 = .ok (.iload_n 3, 1) := by decide +kernel
theorem dX5_narrow_35 : decode cX5_narrow 35 = .ok (.ifCond .eq 21, 3) := by decide +kernel
theorem dX5_narrow_38 : decode cX5_narrow 38 = .ok (.lload 9, 2) := by decide +kernel
theorem dX5_narrow_40 : decode cX5_narrow 40 = .ok (.aload_n 0, 1) := by decide +kernel
theorem dX5_narrow_41 : decode cX5_narrow 41 = .ok (.getfield 12, 3) := by decide +kernel
theorem dX5_narrow_44 : decode cX5_narrow 44 = .ok (.getfield 84, 3) := by decide +kernel
theorem dX5_narrow_47 : decode cX5_narrow 47 = .ok (.iload_n 2, 1) := by decide +kernel
theorem dX5_narrow_48 : decode cX5_narrow 48 = .ok (.laload, 1) := by decide +kernel
theorem dX5_narrow_49 : decode cX5_narrow 49 = .ok (.lcmp, 1) := by decide +kernel
theorem dX5_narrow_50 : decode cX5_narrow 50 = .ok (.ifCond .lt 23, 3) := by decide +kernel
theorem dX5_narrow_53 : decode cX5_narrow 53 = .ok (.goto 18, 3) := by decide +kernel
theorem dX5_narrow_56 : decode cX5_narrow 56 = .ok (.lload 9, 2) := by decide +kernel
theorem dX5_narrow_58 : decode cX5_narrow 58 = .ok (.aload_n 0, 1) := by decide +kernel
theorem dX5_narrow_59 : decode cX5_narrow 59 = .ok (.getfield 12, 3) := by decide +kernel
theorem dX5_narrow_62 : decode cX5_narrow 62 = .ok (.getfield 87, 3) := by decide +kernel
theorem dX5_narrow_65 : decode cX5_narrow 65 = .ok (.iload_n 2, 1) := by decide +kernel
theorem dX5_narrow_66 : decode cX5_narrow 66 = .ok (.laload, 1) := by decide +kernel
theorem dX5_narrow_67 : decode cX5_narrow 67 = .ok (.lcmp, 1) := by decide +kernel
theorem dX5_narrow_68 : decode cX5_narrow 68 = .ok (.ifCond .gt 5, 3) := by decide +kernel
theorem dX5_narrow_71 : decode cX5_narrow 71 = .ok (.iconst 1, 1) := by decide +kernel
theorem dX5_narrow_72 : decode cX5_narrow 72 = .ok (.ireturn, 1) := by decide +kernel
theorem dX5_narrow_73 : decode cX5_narrow 73 = .ok (.lload 9, 2) := by decide +kernel
theorem dX5_narrow_75 : decode cX5_narrow 75 = .ok (.aload_n 0, 1) := by decide +kernel
theorem dX5_narrow_76 : decode cX5_narrow 76 = .ok (.getfield 12, 3) := by decide +kernel
theorem dX5_narrow_79 : decode cX5_narrow 79 = .ok (.getfield 87, 3) := by decide +kernel
theorem dX5_narrow_82 : decode cX5_narrow 82 = .ok (.iload_n 2, 1) := by decide +kernel
theorem dX5_narrow_83 : decode cX5_narrow 83 = .ok (.laload, 1) := by decide +kernel
theorem dX5_narrow_84 : decode cX5_narrow 84 = .ok (.lcmp, 1) := by decide +kernel
theorem dX5_narrow_85 : decode cX5_narrow 85 = .ok (.ifCond .lt 18, 3) := by decide +kernel
theorem dX5_narrow_88 : decode cX5_narrow 88 = .ok (.lload 9, 2) := by decide +kernel
theorem dX5_narrow_90 : decode cX5_narrow 90 = .ok (.aload_n 0, 1) := by decide +kernel
theorem dX5_narrow_91 : decode cX5_narrow 91 = .ok (.getfield 12, 3) := by decide +kernel
theorem dX5_narrow_94 : decode cX5_narrow 94 = .ok (.getfield 84, 3) := by decide +kernel
theorem dX5_narrow_97 : decode cX5_narrow 97 = .ok (.iload_n 2, 1) := by decide +kernel
theorem dX5_narrow_98 : decode cX5_narrow 98 = .ok (.laload, 1) := by decide +kernel
theorem dX5_narrow_99 : decode cX5_narrow 99 = .ok (.lcmp, 1) := by decide +kernel
theorem dX5_narrow_100 : decode cX5_narrow 100 = .ok (.ifCond .le 30, 3) := by decide +kernel
theorem dX5_narrow_103 : decode cX5_narrow 103 = .ok (.aload_n 0, 1) := by decide +kernel
theorem dX5_narrow_104 : decode cX5_narrow 104 = .ok (.iload 8, 2) := by decide +kernel
theorem dX5_narrow_106 : decode cX5_narrow 106 = .ok (.iload_n 3, 1) := by decide +kernel
theorem dX5_narrow_107 : decode cX5_narrow 107 = .ok (.ifCond .eq 12, 3) := by decide +kernel
theorem dX5_narrow_110 : decode cX5_narrow 110 = .ok (.aload_n 0, 1) := by decide +kernel
theorem dX5_narrow_111 : decode cX5_narrow 111 = .ok (.getfield 22, 3) := by decide +kernel
theorem dX5_narrow_114 : decode cX5_narrow 114 = .ok (.iload_n 2, 1) := by decide +kernel
theorem dX5_narrow_115 : decode cX5_narrow 115 = .ok (.iaload, 1) := by decide +kernel
theorem dX5_narrow_116 : decode cX5_narrow 116 = .ok (.goto 9, 3) := by decide +kernel
theorem dX5_narrow_119 : decode cX5_narrow 119 = .ok (.aload_n 0, 1) := by decide +kernel
theorem dX5_narrow_120 : decode cX5_narrow 120 = .ok (.getfield 25, 3) := by decide +kernel
theorem dX5_narrow_123 : decode cX5_narrow 123 = .ok (.iload_n 2, 1) := by decide +kernel
theorem dX5_narrow_124 : decode cX5_narrow 124 = .ok (.iaload, 1) := by decide +kernel
theorem dX5_narrow_125 : decode cX5_narrow 125 = .ok (.ior, 1) := by decide +kernel
theorem dX5_narrow_126 : decode cX5_narrow 126 = .ok (.invokevirtual 96, 3) := by decide +kernel
theorem dX5_narrow_129 : decode cX5_narrow 129 = .ok (.ireturn, 1) := by decide +kernel
theorem dX5_narrow_130 : decode cX5_narrow 130 = .ok (.iload_n 3, 1) := by decide +kernel
theorem dX5_narrow_131 : decode cX5_narrow 131 = .ok (.ifCond .eq 25, 3) := by decide +kernel
theorem dX5_narrow_134 : decode cX5_narrow 134 = .ok (.aload_n 0, 1) := by decide +kernel
theorem dX5_narrow_135 : decode cX5_narrow 135 = .ok (.getfield 12, 3) := by decide +kernel
theorem dX5_narrow_138 : decode cX5_narrow 138 = .ok (.getfield 84, 3) := by decide +kernel
theorem dX5_narrow_141 : decode cX5_narrow 141 = .ok (.iload_n 2, 1) := by decide +kernel
theorem dX5_narrow_142 : decode cX5_narrow 142 = .ok (.lload 9, 2) := by decide +kernel
theorem dX5_narrow_144 : decode cX5_narrow 144 = .ok (.lastore, 1) := by decide +kernel
theorem dX5_narrow_145 : decode cX5_narrow 145 = .ok (.aload_n 0, 1) := by decide +kernel
theorem dX5_narrow_146 : decode cX5_narrow 146 = .ok (.getfield 25, 3) := by decide +kernel
theorem dX5_narrow_149 : decode cX5_narrow 149 = .ok (.iload_n 2, 1) := by decide +kernel
theorem dX5_narrow_150 : decode cX5_narrow 150 = .ok (.iload 8, 2) := by decide +kernel
theorem dX5_narrow_152 : decode cX5_narrow 152 = .ok (.iastore, 1) := by decide +kernel
theorem dX5_narrow_153 : decode cX5_narrow 153 = .ok (.goto 22, 3) := by decide +kernel
theorem dX5_narrow_156 : decode cX5_narrow 156 = .ok (.aload_n 0, 1) := by decide +kernel
theorem dX5_narrow_157 : decode cX5_narrow 157 = .ok (.getfield 12, 3) := by decide +kernel
theorem dX5_narrow_160 : decode cX5_narrow 160 = .ok (.getfield 87, 3) := by decide +kernel
theorem dX5_narrow_163 : decode cX5_narrow 163 = .ok (.iload_n 2, 1) := by decide +kernel
theorem dX5_narrow_164 : decode cX5_narrow 164 = .ok (.lload 9, 2) := by decide +kernel
theorem dX5_narrow_166 : decode cX5_narrow 166 = .ok (.lastore, 1) := by decide +kernel
theorem dX5_narrow_167 : decode cX5_narrow 167 = .ok (.aload_n 0, 1) := by decide +kernel
theorem dX5_narrow_168 : decode cX5_narrow 168 = .ok (.getfield 22, 3) := by decide +kernel
theorem dX5_narrow_171 : decode cX5_narrow 171 = .ok (.iload_n 2, 1) := by decide +kernel
theorem dX5_narrow_172 : decode cX5_narrow 172 = .ok (.iload 8, 2) := by decide +kernel
theorem dX5_narrow_174 : decode cX5_narrow 174 = .ok (.iastore, 1) := by decide +kernel
theorem dX5_narrow_175 : decode cX5_narrow 175 = .ok (.aload_n 0, 1) := by decide +kernel
theorem dX5_narrow_176 : decode cX5_narrow 176 = .ok (.getfield 31, 3) := by decide +kernel
theorem dX5_narrow_179 : decode cX5_narrow 179 = .ok (.aload_n 0, 1) := by decide +kernel
theorem dX5_narrow_180 : decode cX5_narrow 180 = .ok (.getfield 68, 3) := by decide +kernel
theorem dX5_narrow_183 : decode cX5_narrow 183 = .ok (.iload_n 1, 1) := by decide +kernel
theorem dX5_narrow_184 : decode cX5_narrow 184 = .ok (.iload_n 2, 1) := by decide +kernel
theorem dX5_narrow_185 : decode cX5_narrow 185 = .ok (.iload_n 3, 1) := by decide +kernel
theorem dX5_narrow_186 : decode cX5_narrow 186 = .ok (.ifCond .eq 7, 3) := by decide +kernel
theorem dX5_narrow_189 : decode cX5_narrow 189 = .ok (.iconst 2, 1) := by decide +kernel
theorem dX5_narrow_190 : decode cX5_narrow 190 = .ok (.goto 4, 3) := by decide +kernel
theorem dX5_narrow_193 : decode cX5_narrow 193 = .ok (.iconst 1, 1) := by decide +kernel
theorem dX5_narrow_194 : decode cX5_narrow 194 = .ok (.lload 9, 2) := by decide +kernel
theorem dX5_narrow_196 : decode cX5_narrow 196 = .ok (.invokevirtual 74, 3) := by decide +kernel
theorem dX5_narrow_199 : decode cX5_narrow 199 = .ok (.iconst 1, 1) := by decide +kernel
theorem dX5_narrow_200 : decode cX5_narrow 200 = .ok (.ireturn, 1) := by decide +kernel
theorem dX5_turnBack_0 : decode cX5_turnBack 0 = .ok (.iconst 0, 1) := by decide +kernel
theorem dX5_turnBack_1 : decode cX5_turnBack 1 = .ok (.istore_n 3, 1) := by decide +kernel
theorem dX5_turnBack_2 : decode cX5_turnBack 2 = .ok (.iload_n 3, 1) := by decide +kernel
theorem dX5_turnBack_3 : decode cX5_turnBack 3 = .ok (.aload_n 0, 1) := by decide +kernel
theorem dX5_turnBack_4 : decode cX5_turnBack 4 = .ok (.getfield 12, 3) := by decide +kernel
theorem dX5_turnBack_7 : decode cX5_turnBack 7 = .ok (.getfield 78, 3) := by decide +kernel
theorem dX5_turnBack_10 : decode cX5_turnBack 10 = .ok (.if_icmp .ge 38, 3) := by decide +kernel
theorem dX5_turnBack_13 : decode cX5_turnBack 13 = .ok (.aload_n 2, 1) := by decide +kernel
theorem dX5_turnBack_14 : decode cX5_turnBack 14 = .ok (.iload_n 3, 1) := by decide +kernel
theorem dX5_turnBack_15 : decode cX5_turnBack 15 = .ok (.aload_n 0, 1) := by decide +kernel
theorem dX5_turnBack_16 : decode cX5_turnBack 16 = .ok (.getfield 12, 3) := by decide +kernel
theorem dX5_turnBack_19 : decode cX5_turnBack 19 = .ok (.iload_n 3, 1) := by decide +kernel
theorem dX5_turnBack_20 : decode cX5_turnBack 20 = .ok (.invokevirtual 100, 3) := by decide +kernel
theorem dX5_turnBack_23 : decode cX5_turnBack 23 = .ok (.ifCond .eq 9, 3) := by decide +kernel
theorem dX5_turnBack_26 : decode cX5_turnBack 26 = .ok (.aload_n 1, 1) := by decide +kernel
theorem dX5_turnBack_27 : decode cX5_turnBack 27 = .ok (.iload_n 3, 1) := by decide +kernel
theorem dX5_turnBack_28 : decode cX5_turnBack 28 = .ok (.laload, 1) := by decide +kernel
theorem dX5_turnBack_29 : decode cX5_turnBack 29 = .ok (.goto 12, 3) := by decide +kernel
theorem dX5_turnBack_32 : decode cX5_turnBack 32 = .ok (.aload_n 0, 1) := by decide +kernel
theorem dX5_turnBack_33 : decode cX5_turnBack 33 = .ok (.getfield 12, 3) := by decide +kernel
theorem dX5_turnBack_36 : decode cX5_turnBack 36 = .ok (.getfield 87, 3) := by decide +kernel
theorem dX5_turnBack_39 : decode cX5_turnBack 39 = .ok (.iload_n 3, 1) := by decide +kernel
theorem dX5_turnBack_40 : decode cX5_turnBack 40 = .ok (.laload, 1) := by decide +kernel
theorem dX5_turnBack_41 : decode cX5_turnBack 41 = .ok (.lastore, 1) := by decide +kernel
theorem dX5_turnBack_42 : decode cX5_turnBack 42 = .ok (.iinc 3 1, 3) := by decide +kernel
theorem dX5_turnBack_45 : decode cX5_turnBack 45 = .ok (.goto (-43), 3) := by decide +kernel
theorem dX5_turnBack_48 : decode cX5_turnBack 48 = .ok (.aload_n 0, 1) := by decide +kernel
theorem dX5_turnBack_49 : decode cX5_turnBack 49 = .ok (.getfield 62, 3) := by decide +kernel
theorem dX5_turnBack_52 : decode cX5_turnBack 52 = .ok (.iconst 1, 1) := by decide +kernel
theorem dX5_turnBack_53 : decode cX5_turnBack 53 = .ok (.isub, 1) := by decide +kernel
theorem dX5_turnBack_54 : decode cX5_turnBack 54 = .ok (.istore_n 3, 1) := by decide +kernel
theorem dX5_turnBack_55 : decode cX5_turnBack 55 = .ok (.iload_n 3, 1) := by decide +kernel
theorem dX5_turnBack_56 : decode cX5_turnBack 56 = .ok (.ifCond .lt 67, 3) := by decide +kernel
theorem dX5_turnBack_59 : decode cX5_turnBack 59 = .ok (.aload_n 0, 1) := by decide +kernel
theorem dX5_turnBack_60 : decode cX5_turnBack 60 = .ok (.getfield 42, 3) := by decide +kernel
theorem dX5_turnBack_63 : decode cX5_turnBack 63 = .ok (.iload_n 3, 1) := by decide +kernel
theorem dX5_turnBack_64 : decode cX5_turnBack 64 = .ok (.laload, 1) := by decide +kernel
theorem dX5_turnBack_65 : decode cX5_turnBack 65 = .ok (.lstore 4, 2) := by decide +kernel
theorem dX5_turnBack_67 : decode cX5_turnBack 67 = .ok (.iconst 0, 1) := by decide +kernel
theorem dX5_turnBack_68 : decode cX5_turnBack 68 = .ok (.istore 6, 2) := by decide +kernel
theorem dX5_turnBack_70 : decode cX5_turnBack 70 = .ok (.iload 6, 2) := by decide +kernel
theorem dX5_turnBack_72 : decode cX5_turnBack 72 = .ok (.aload_n 0, 1) := by decide +kernel
theorem dX5_turnBack_73 : decode cX5_turnBack 73 = .ok (.getfield 12, 3) := by decide +kernel
theorem dX5_turnBack_76 : decode cX5_turnBack 76 = .ok (.getfield 78, 3) := by decide +kernel
theorem dX5_turnBack_79 : decode cX5_turnBack 79 = .ok (.if_icmp .ge 28, 3) := by decide +kernel
theorem dX5_turnBack_82 : decode cX5_turnBack 82 = .ok (.lload 4, 2) := by decide +kernel
theorem dX5_turnBack_84 : decode cX5_turnBack 84 = .ok (.aload_n 0, 1) := by decide +kernel
theorem dX5_turnBack_85 : decode cX5_turnBack 85 = .ok (.getfield 48, 3) := by decide +kernel
theorem dX5_turnBack_88 : decode cX5_turnBack 88 = .ok (.iload_n 3, 1) := by decide +kernel
theorem dX5_turnBack_89 : decode cX5_turnBack 89 = .ok (.aaload, 1) := by decide +kernel
theorem dX5_turnBack_90 : decode cX5_turnBack 90 = .ok (.iload 6, 2) := by decide +kernel
theorem dX5_turnBack_92 : decode cX5_turnBack 92 = .ok (.laload, 1) := by decide +kernel
theorem dX5_turnBack_93 : decode cX5_turnBack 93 = .ok (.aload_n 2, 1) := by decide +kernel
theorem dX5_turnBack_94 : decode cX5_turnBack 94 = .ok (.iload 6, 2) := by decide +kernel
theorem dX5_turnBack_96 : decode cX5_turnBack 96 = .ok (.laload, 1) := by decide +kernel
theorem dX5_turnBack_97 : decode cX5_turnBack 97 = .ok (.lmul, 1) := by decide +kernel
theorem dX5_turnBack_98 : decode cX5_turnBack 98 = .ok (.ladd, 1) := by decide +kernel
theorem dX5_turnBack_99 : decode cX5_turnBack 99 = .ok (.lstore 4, 2) := by decide +kernel
theorem dX5_turnBack_101 : decode cX5_turnBack 101 = .ok (.iinc 6 1, 3) := by decide +kernel
theorem dX5_turnBack_104 : decode cX5_turnBack 104 = .ok (.goto (-34), 3) := by decide +kernel
theorem dX5_turnBack_107 : decode cX5_turnBack 107 = .ok (.aload_n 2, 1) := by decide +kernel
theorem dX5_turnBack_108 : decode cX5_turnBack 108 = .ok (.aload_n 0, 1) := by decide +kernel
theorem dX5_turnBack_109 : decode cX5_turnBack 109 = .ok (.getfield 39, 3) := by decide +kernel
theorem dX5_turnBack_112 : decode cX5_turnBack 112 = .ok (.iload_n 3, 1) := by decide +kernel
theorem dX5_turnBack_113 : decode cX5_turnBack 113 = .ok (.iaload, 1) := by decide +kernel
theorem dX5_turnBack_114 : decode cX5_turnBack 114 = .ok (.lload 4, 2) := by decide +kernel
theorem dX5_turnBack_116 : decode cX5_turnBack 116 = .ok (.lastore, 1) := by decide +kernel
theorem dX5_turnBack_117 : decode cX5_turnBack 117 = .ok (.iinc 3 (-1), 3) := by decide +kernel
theorem dX5_turnBack_120 : decode cX5_turnBack 120 = .ok (.goto (-65), 3) := by decide +kernel
theorem dX5_turnBack_123 : decode cX5_turnBack 123 = .ok (.return_, 1) := by decide +kernel
theorem dX7_step_0 : decode cX7_step 0 = .ok (.aload_n 0, 1) := by decide +kernel
theorem dX7_step_1 : decode cX7_step 1 = .ok (.getfield 9, 3) := by decide +kernel
theorem dX7_step_4 : decode cX7_step 4 = .ok (.iload_n 1, 1) := by decide +kernel
theorem dX7_step_5 : decode cX7_step 5 = .ok (.dup2, 1) := by decide +kernel
theorem dX7_step_6 : decode cX7_step 6 = .ok (.laload, 1) := by decide +kernel
theorem dX7_step_7 : decode cX7_step 7 = .ok (.lload_n 2, 1) := by decide +kernel
theorem dX7_step_8 : decode cX7_step 8 = .ok (.ladd, 1) := by decide +kernel
theorem dX7_step_9 : decode cX7_step 9 = .ok (.lastore, 1) := by decide +kernel
theorem dX7_step_10 : decode cX7_step 10 = .ok (.aload_n 0, 1) := by decide +kernel
theorem dX7_step_11 : decode cX7_step 11 = .ok (.dup, 1) := by decide +kernel
theorem dX7_step_12 : decode cX7_step 12 = .ok (.getfield 22, 3) := by decide +kernel
theorem dX7_step_15 : decode cX7_step 15 = .ok (.lload_n 2, 1) := by decide +kernel
theorem dX7_step_16 : decode cX7_step 16 = .ok (.aload_n 0, 1) := by decide +kernel
theorem dX7_step_17 : decode cX7_step 17 = .ok (.getfield 18, 3) := by decide +kernel
theorem dX7_step_20 : decode cX7_step 20 = .ok (.getfield 53, 3) := by decide +kernel
theorem dX7_step_23 : decode cX7_step 23 = .ok (.iload_n 1, 1) := by decide +kernel
theorem dX7_step_24 : decode cX7_step 24 = .ok (.laload, 1) := by decide +kernel
theorem dX7_step_25 : decode cX7_step 25 = .ok (.lmul, 1) := by decide +kernel
theorem dX7_step_26 : decode cX7_step 26 = .ok (.ladd, 1) := by decide +kernel
theorem dX7_step_27 : decode cX7_step 27 = .ok (.putfield 22, 3) := by decide +kernel
theorem dX7_step_30 : decode cX7_step 30 = .ok (.iconst 0, 1) := by decide +kernel
theorem dX7_step_31 : decode cX7_step 31 = .ok (.istore 4, 2) := by decide +kernel
theorem dX7_step_33 : decode cX7_step 33 = .ok (.iload 4, 2) := by decide +kernel
theorem dX7_step_35 : decode cX7_step 35 = .ok (.aload_n 0, 1) := by decide +kernel
theorem dX7_step_36 : decode cX7_step 36 = .ok (.getfield 18, 3) := by decide +kernel
theorem dX7_step_39 : decode cX7_step 39 = .ok (.getfield 46, 3) := by decide +kernel
theorem dX7_step_42 : decode cX7_step 42 = .ok (.if_icmp .ge 33, 3) := by decide +kernel
theorem dX7_step_45 : decode cX7_step 45 = .ok (.aload_n 0, 1) := by decide +kernel
theorem dX7_step_46 : decode cX7_step 46 = .ok (.getfield 15, 3) := by decide +kernel
theorem dX7_step_49 : decode cX7_step 49 = .ok (.iload 4, 2) := by decide +kernel
theorem dX7_step_51 : decode cX7_step 51 = .ok (.dup2, 1) := by decide +kernel
theorem dX7_step_52 : decode cX7_step 52 = .ok (.laload, 1) := by decide +kernel
theorem dX7_step_53 : decode cX7_step 53 = .ok (.lload_n 2, 1) := by decide +kernel
theorem dX7_step_54 : decode cX7_step 54 = .ok (.aload_n 0, 1) := by decide +kernel
theorem dX7_step_55 : decode cX7_step 55 = .ok (.getfield 18, 3) := by decide +kernel
theorem dX7_step_58 : decode cX7_step 58 = .ok (.getfield 56, 3) := by decide +kernel
theorem dX7_step_61 : decode cX7_step 61 = .ok (.iload 4, 2) := by decide +kernel
theorem dX7_step_63 : decode cX7_step 63 = .ok (.aaload, 1) := by decide +kernel
theorem dX7_step_64 : decode cX7_step 64 = .ok (.iload_n 1, 1) := by decide +kernel
theorem dX7_step_65 : decode cX7_step 65 = .ok (.laload, 1) := by decide +kernel
theorem dX7_step_66 : decode cX7_step 66 = .ok (.lmul, 1) := by decide +kernel
theorem dX7_step_67 : decode cX7_step 67 = .ok (.ladd, 1) := by decide +kernel
theorem dX7_step_68 : decode cX7_step 68 = .ok (.lastore, 1) := by decide +kernel
theorem dX7_step_69 : decode cX7_step 69 = .ok (.iinc 4 1, 3) := by decide +kernel
theorem dX7_step_72 : decode cX7_step 72 = .ok (.goto (-39), 3) := by decide +kernel
theorem dX7_step_75 : decode cX7_step 75 = .ok (.return_, 1) := by decide +kernel
theorem dX7_beginAt_0 : decode cX7_beginAt 0 = .ok (.aload_n 0, 1) := by decide +kernel
theorem dX7_beginAt_1 : decode cX7_beginAt 1 = .ok (.aload_n 1, 1) := by decide +kernel
theorem dX7_beginAt_2 : decode cX7_beginAt 2 = .ok (.putfield 18, 3) := by decide +kernel
theorem dX7_beginAt_5 : decode cX7_beginAt 5 = .ok (.aload_n 0, 1) := by decide +kernel
theorem dX7_beginAt_6 : decode cX7_beginAt 6 = .ok (.lconst 0, 1) := by decide +kernel
theorem dX7_beginAt_7 : decode cX7_beginAt 7 = .ok (.putfield 22, 3) := by decide +kernel
theorem dX7_beginAt_10 : decode cX7_beginAt 10 = .ok (.iconst 0, 1) := by decide +kernel
theorem dX7_beginAt_11 : decode cX7_beginAt 11 = .ok (.istore_n 2, 1) := by decide +kernel
theorem dX7_beginAt_12 : decode cX7_beginAt 12 = .ok (.iload_n 2, 1) := by decide +kernel
theorem dX7_beginAt_13 : decode cX7_beginAt 13 = .ok (.bipush 12, 2) := by decide +kernel
theorem dX7_beginAt_15 : decode cX7_beginAt 15 = .ok (.if_icmp .ge 23, 3) := by decide +kernel
theorem dX7_beginAt_18 : decode cX7_beginAt 18 = .ok (.aload_n 0, 1) := by decide +kernel
theorem dX7_beginAt_19 : decode cX7_beginAt 19 = .ok (.getfield 9, 3) := by decide +kernel
theorem dX7_beginAt_22 : decode cX7_beginAt 22 = .ok (.iload_n 2, 1) := by decide +kernel
theorem dX7_beginAt_23 : decode cX7_beginAt 23 = .ok (.lconst 0, 1) := by decide +kernel
theorem dX7_beginAt_24 : decode cX7_beginAt 24 = .ok (.lastore, 1) := by decide +kernel
theorem dX7_beginAt_25 : decode cX7_beginAt 25 = .ok (.aload_n 0, 1) := by decide +kernel
theorem dX7_beginAt_26 : decode cX7_beginAt 26 = .ok (.getfield 15, 3) := by decide +kernel
theorem dX7_beginAt_29 : decode cX7_beginAt 29 = .ok (.iload_n 2, 1) := by decide +kernel
theorem dX7_beginAt_30 : decode cX7_beginAt 30 = .ok (.lconst 0, 1) := by decide +kernel
theorem dX7_beginAt_31 : decode cX7_beginAt 31 = .ok (.lastore, 1) := by decide +kernel
theorem dX7_beginAt_32 : decode cX7_beginAt 32 = .ok (.iinc 2 1, 3) := by decide +kernel
theorem dX7_beginAt_35 : decode cX7_beginAt 35 = .ok (.goto (-23), 3) := by decide +kernel
theorem dX7_beginAt_38 : decode cX7_beginAt 38 = .ok (.iconst 0, 1) := by decide +kernel
theorem dX7_beginAt_39 : decode cX7_beginAt 39 = .ok (.istore_n 2, 1) := by decide +kernel
theorem dX7_beginAt_40 : decode cX7_beginAt 40 = .ok (.iload_n 2, 1) := by decide +kernel
theorem dX7_beginAt_41 : decode cX7_beginAt 41 = .ok (.aload_n 0, 1) := by decide +kernel
theorem dX7_beginAt_42 : decode cX7_beginAt 42 = .ok (.getfield 18, 3) := by decide +kernel
theorem dX7_beginAt_45 : decode cX7_beginAt 45 = .ok (.getfield 26, 3) := by decide +kernel
theorem dX7_beginAt_48 : decode cX7_beginAt 48 = .ok (.if_icmp .ge 34, 3) := by decide +kernel
theorem dX7_beginAt_51 : decode cX7_beginAt 51 = .ok (.aload_n 0, 1) := by decide +kernel
theorem dX7_beginAt_52 : decode cX7_beginAt 52 = .ok (.getfield 18, 3) := by decide +kernel
theorem dX7_beginAt_55 : decode cX7_beginAt 55 = .ok (.iload_n 2, 1) := by decide +kernel
theorem dX7_beginAt_56 : decode cX7_beginAt 56 = .ok (.invokevirtual 32, 3) := by decide +kernel
theorem dX7_beginAt_59 : decode cX7_beginAt 59 = .ok (.ifCond .eq 17, 3) := by decide +kernel
theorem dX7_beginAt_62 : decode cX7_beginAt 62 = .ok (.aload_n 0, 1) := by decide +kernel
theorem dX7_beginAt_63 : decode cX7_beginAt 63 = .ok (.iload_n 2, 1) := by decide +kernel
theorem dX7_beginAt_64 : decode cX7_beginAt 64 = .ok (.aload_n 0, 1) := by decide +kernel
theorem dX7_beginAt_65 : decode cX7_beginAt 65 = .ok (.getfield 18, 3) := by decide +kernel
theorem dX7_beginAt_68 : decode cX7_beginAt 68 = .ok (.getfield 36, 3) := by decide +kernel
theorem dX7_beginAt_71 : decode cX7_beginAt 71 = .ok (.iload_n 2, 1) := by decide +kernel
theorem dX7_beginAt_72 : decode cX7_beginAt 72 = .ok (.laload, 1) := by decide +kernel
theorem dX7_beginAt_73 : decode cX7_beginAt 73 = .ok (.invokevirtual 39, 3) := by decide +kernel
theorem dX7_beginAt_76 : decode cX7_beginAt 76 = .ok (.iinc 2 1, 3) := by decide +kernel
theorem dX7_beginAt_79 : decode cX7_beginAt 79 = .ok (.goto (-39), 3) := by decide +kernel
theorem dX7_beginAt_82 : decode cX7_beginAt 82 = .ok (.return_, 1) := by decide +kernel
theorem dX7_goOn_0 : decode cX7_goOn 0 = .ok (.aload_n 0, 1) := by decide +kernel
theorem dX7_goOn_1 : decode cX7_goOn 1 = .ok (.getfield 18, 3) := by decide +kernel
theorem dX7_goOn_4 : decode cX7_goOn 4 = .ok (.getfield 26, 3) := by decide +kernel
theorem dX7_goOn_7 : decode cX7_goOn 7 = .ok (.iconst 1, 1) := by decide +kernel
theorem dX7_goOn_8 : decode cX7_goOn 8 = .ok (.isub, 1) := by decide +kernel
theorem dX7_goOn_9 : decode cX7_goOn 9 = .ok (.istore_n 1, 1) := by decide +kernel
theorem dX7_goOn_10 : decode cX7_goOn 10 = .ok (.iload_n 1, 1) := by decide +kernel
theorem dX7_goOn_11 : decode cX7_goOn 11 = .ok (.ifCond .lt 70, 3) := by decide +kernel
theorem dX7_goOn_14 : decode cX7_goOn 14 = .ok (.aload_n 0, 1) := by decide +kernel
theorem dX7_goOn_15 : decode cX7_goOn 15 = .ok (.getfield 18, 3) := by decide +kernel
theorem dX7_goOn_18 : decode cX7_goOn 18 = .ok (.iload_n 1, 1) := by decide +kernel
theorem dX7_goOn_19 : decode cX7_goOn 19 = .ok (.invokevirtual 32, 3) := by decide +kernel
theorem dX7_goOn_22 : decode cX7_goOn 22 = .ok (.ifCond .eq 53, 3) := by decide +kernel
theorem dX7_goOn_25 : decode cX7_goOn 25 = .ok (.aload_n 0, 1) := by decide +kernel
theorem dX7_goOn_26 : decode cX7_goOn 26 = .ok (.getfield 9, 3) := by decide +kernel
theorem dX7_goOn_29 : decode cX7_goOn 29 = .ok (.iload_n 1, 1) := by decide +kernel
theorem dX7_goOn_30 : decode cX7_goOn 30 = .ok (.laload, 1) := by decide +kernel
theorem dX7_goOn_31 : decode cX7_goOn 31 = .ok (.aload_n 0, 1) := by decide +kernel
theorem dX7_goOn_32 : decode cX7_goOn 32 = .ok (.getfield 18, 3) := by decide +kernel
theorem dX7_goOn_35 : decode cX7_goOn 35 = .ok (.getfield 43, 3) := by decide +kernel
theorem dX7_goOn_38 : decode cX7_goOn 38 = .ok (.iload_n 1, 1) := by decide +kernel
theorem dX7_goOn_39 : decode cX7_goOn 39 = .ok (.laload, 1) := by decide +kernel
theorem dX7_goOn_40 : decode cX7_goOn 40 = .ok (.lcmp, 1) := by decide +kernel
theorem dX7_goOn_41 : decode cX7_goOn 41 = .ok (.ifCond .ge 10, 3) := by decide +kernel
theorem dX7_goOn_44 : decode cX7_goOn 44 = .ok (.aload_n 0, 1) := by decide +kernel
theorem dX7_goOn_45 : decode cX7_goOn 45 = .ok (.iload_n 1, 1) := by decide +kernel
theorem dX7_goOn_46 : decode cX7_goOn 46 = .ok (.lconst 1, 1) := by decide +kernel
theorem dX7_goOn_47 : decode cX7_goOn 47 = .ok (.invokevirtual 39, 3) := by decide +kernel
theorem dX7_goOn_50 : decode cX7_goOn 50 = .ok (.return_, 1) := by decide +kernel
theorem dX7_goOn_51 : decode cX7_goOn 51 = .ok (.aload_n 0, 1) := by decide +kernel
theorem dX7_goOn_52 : decode cX7_goOn 52 = .ok (.iload_n 1, 1) := by decide +kernel
theorem dX7_goOn_53 : decode cX7_goOn 53 = .ok (.aload_n 0, 1) := by decide +kernel
theorem dX7_goOn_54 : decode cX7_goOn 54 = .ok (.getfield 18, 3) := by decide +kernel
theorem dX7_goOn_57 : decode cX7_goOn 57 = .ok (.getfield 36, 3) := by decide +kernel
theorem dX7_goOn_60 : decode cX7_goOn 60 = .ok (.iload_n 1, 1) := by decide +kernel
theorem dX7_goOn_61 : decode cX7_goOn 61 = .ok (.laload, 1) := by decide +kernel
theorem dX7_goOn_62 : decode cX7_goOn 62 = .ok (.aload_n 0, 1) := by decide +kernel
theorem dX7_goOn_63 : decode cX7_goOn 63 = .ok (.getfield 18, 3) := by decide +kernel
theorem dX7_goOn_66 : decode cX7_goOn 66 = .ok (.getfield 43, 3) := by decide +kernel
theorem dX7_goOn_69 : decode cX7_goOn 69 = .ok (.iload_n 1, 1) := by decide +kernel
theorem dX7_goOn_70 : decode cX7_goOn 70 = .ok (.laload, 1) := by decide +kernel
theorem dX7_goOn_71 : decode cX7_goOn 71 = .ok (.lsub, 1) := by decide +kernel
theorem dX7_goOn_72 : decode cX7_goOn 72 = .ok (.invokevirtual 39, 3) := by decide +kernel
theorem dX7_goOn_75 : decode cX7_goOn 75 = .ok (.iinc 1 (-1), 3) := by decide +kernel
theorem dX7_goOn_78 : decode cX7_goOn 78 = .ok (.goto (-68), 3) := by decide +kernel
theorem dX7_goOn_81 : decode cX7_goOn 81 = .ok (.return_, 1) := by decide +kernel
theorem dX7_holdsAll_0 : decode cX7_holdsAll 0 = .ok (.iconst 0, 1) := by decide +kernel
theorem dX7_holdsAll_1 : decode cX7_holdsAll 1 = .ok (.istore_n 2, 1) := by decide +kernel
theorem dX7_holdsAll_2 : decode cX7_holdsAll 2 = .ok (.iload_n 2, 1) := by decide +kernel
theorem dX7_holdsAll_3 : decode cX7_holdsAll 3 = .ok (.aload_n 0, 1) := by decide +kernel
theorem dX7_holdsAll_4 : decode cX7_holdsAll 4 = .ok (.getfield 18, 3) := by decide +kernel
theorem dX7_holdsAll_7 : decode cX7_holdsAll 7 = .ok (.getfield 46, 3) := by decide +kernel
theorem dX7_holdsAll_10 : decode cX7_holdsAll 10 = .ok (.if_icmp .ge 36, 3) := by decide +kernel
theorem dX7_holdsAll_13 : decode cX7_holdsAll 13 = .ok (.iload_n 1, 1) := by decide +kernel
theorem dX7_holdsAll_14 : decode cX7_holdsAll 14 = .ok (.iload_n 2, 1) := by decide +kernel
theorem dX7_holdsAll_15 : decode cX7_holdsAll 15 = .ok (.ishr, 1) := by decide +kernel
theorem dX7_holdsAll_16 : decode cX7_holdsAll 16 = .ok (.iconst 1, 1) := by decide +kernel
theorem dX7_holdsAll_17 : decode cX7_holdsAll 17 = .ok (.iand, 1) := by decide +kernel
theorem dX7_holdsAll_18 : decode cX7_holdsAll 18 = .ok (.ifCond .eq 22, 3) := by decide +kernel
theorem dX7_holdsAll_21 : decode cX7_holdsAll 21 = .ok (.aload_n 0, 1) := by decide +kernel
theorem dX7_holdsAll_22 : decode cX7_holdsAll 22 = .ok (.getfield 18, 3) := by decide +kernel
theorem dX7_holdsAll_25 : decode cX7_holdsAll 25 = .ok (.iload_n 2, 1) := by decide +kernel
theorem dX7_holdsAll_26 : decode cX7_holdsAll 26 = .ok (.aload_n 0, 1) := by decide +kernel
theorem dX7_holdsAll_27 : decode cX7_holdsAll 27 = .ok (.getfield 15, 3) := by decide +kernel
theorem dX7_holdsAll_30 : decode cX7_holdsAll 30 = .ok (.iload_n 2, 1) := by decide +kernel
theorem dX7_holdsAll_31 : decode cX7_holdsAll 31 = .ok (.laload, 1) := by decide +kernel
theorem dX7_holdsAll_32 : decode cX7_holdsAll 32 = .ok (.invokevirtual 49, 3) := by decide +kernel
theorem dX7_holdsAll_35 : decode cX7_holdsAll 35 = .ok (.ifCond .ne 5, 3) := by decide +kernel
theorem dX7_holdsAll_38 : decode cX7_holdsAll 38 = .ok (.iconst 0, 1) := by decide +kernel
theorem dX7_holdsAll_39 : decode cX7_holdsAll 39 = .ok (.ireturn, 1) := by decide +kernel
theorem dX7_holdsAll_40 : decode cX7_holdsAll 40 = .ok (.iinc 2 1, 3) := by decide +kernel
theorem dX7_holdsAll_43 : decode cX7_holdsAll 43 = .ok (.goto (-41), 3) := by decide +kernel
theorem dX7_holdsAll_46 : decode cX7_holdsAll 46 = .ok (.iconst 1, 1) := by decide +kernel
theorem dX7_holdsAll_47 : decode cX7_holdsAll 47 = .ok (.ireturn, 1) := by decide +kernel
theorem dX2_termSet_0 : decode cX2_termSet 0 = .ok (.iconst 0, 1) := by decide +kernel
theorem dX2_termSet_1 : decode cX2_termSet 1 = .ok (.istore_n 2, 1) := by decide +kernel
theorem dX2_termSet_2 : decode cX2_termSet 2 = .ok (.iconst 0, 1) := by decide +kernel
theorem dX2_termSet_3 : decode cX2_termSet 3 = .ok (.istore_n 3, 1) := by decide +kernel
theorem dX2_termSet_4 : decode cX2_termSet 4 = .ok (.iload_n 3, 1) := by decide +kernel
theorem dX2_termSet_5 : decode cX2_termSet 5 = .ok (.aload_n 0, 1) := by decide +kernel
theorem dX2_termSet_6 : decode cX2_termSet 6 = .ok (.getfield 25, 3) := by decide +kernel
theorem dX2_termSet_9 : decode cX2_termSet 9 = .ok (.getfield 26, 3) := by decide +kernel
theorem dX2_termSet_12 : decode cX2_termSet 12 = .ok (.if_icmp .ge 31, 3) := by decide +kernel
theorem dX2_termSet_15 : decode cX2_termSet 15 = .ok (.aload_n 0, 1) := by decide +kernel
theorem dX2_termSet_16 : decode cX2_termSet 16 = .ok (.getfield 25, 3) := by decide +kernel
theorem dX2_termSet_19 : decode cX2_termSet 19 = .ok (.getfield 49, 3) := by decide +kernel
theorem dX2_termSet_22 : decode cX2_termSet 22 = .ok (.iload_n 1, 1) := by decide +kernel
theorem dX2_termSet_23 : decode cX2_termSet 23 = .ok (.aaload, 1) := by decide +kernel
theorem dX2_termSet_24 : decode cX2_termSet 24 = .ok (.iload_n 3, 1) := by decide +kernel
theorem dX2_termSet_25 : decode cX2_termSet 25 = .ok (.laload, 1) := by decide +kernel
theorem dX2_termSet_26 : decode cX2_termSet 26 = .ok (.lconst 0, 1) := by decide +kernel
theorem dX2_termSet_27 : decode cX2_termSet 27 = .ok (.lcmp, 1) := by decide +kernel
theorem dX2_termSet_28 : decode cX2_termSet 28 = .ok (.ifCond .eq 9, 3) := by decide +kernel
theorem dX2_termSet_31 : decode cX2_termSet 31 = .ok (.iload_n 2, 1) := by decide +kernel
theorem dX2_termSet_32 : decode cX2_termSet 32 = .ok (.iconst 1, 1) := by decide +kernel
theorem dX2_termSet_33 : decode cX2_termSet 33 = .ok (.iload_n 3, 1) := by decide +kernel
theorem dX2_termSet_34 : decode cX2_termSet 34 = .ok (.ishl, 1) := by decide +kernel
theorem dX2_termSet_35 : decode cX2_termSet 35 = .ok (.ior, 1) := by decide +kernel
theorem dX2_termSet_36 : decode cX2_termSet 36 = .ok (.istore_n 2, 1) := by decide +kernel
theorem dX2_termSet_37 : decode cX2_termSet 37 = .ok (.iinc 3 1, 3) := by decide +kernel
theorem dX2_termSet_40 : decode cX2_termSet 40 = .ok (.goto (-36), 3) := by decide +kernel
theorem dX2_termSet_43 : decode cX2_termSet 43 = .ok (.iload_n 2, 1) := by decide +kernel
theorem dX2_termSet_44 : decode cX2_termSet 44 = .ok (.ireturn, 1) := by decide +kernel
theorem dX2_partOf_0 : decode cX2_partOf 0 = .ok (.iconst 1, 1) := by decide +kernel
theorem dX2_partOf_1 : decode cX2_partOf 1 = .ok (.iload_n 1, 1) := by decide +kernel
theorem dX2_partOf_2 : decode cX2_partOf 2 = .ok (.ishl, 1) := by decide +kernel
theorem dX2_partOf_3 : decode cX2_partOf 3 = .ok (.istore_n 2, 1) := by decide +kernel
theorem dX2_partOf_4 : decode cX2_partOf 4 = .ok (.iconst 0, 1) := by decide +kernel
theorem dX2_partOf_5 : decode cX2_partOf 5 = .ok (.istore_n 3, 1) := by decide +kernel
theorem dX2_partOf_6 : decode cX2_partOf 6 = .ok (.iload_n 3, 1) := by decide +kernel
theorem dX2_partOf_7 : decode cX2_partOf 7 = .ok (.aload_n 0, 1) := by decide +kernel
theorem dX2_partOf_8 : decode cX2_partOf 8 = .ok (.getfield 25, 3) := by decide +kernel
theorem dX2_partOf_11 : decode cX2_partOf 11 = .ok (.getfield 40, 3) := by decide +kernel
theorem dX2_partOf_14 : decode cX2_partOf 14 = .ok (.if_icmp .ge 66, 3) := by decide +kernel
theorem dX2_partOf_17 : decode cX2_partOf 17 = .ok (.iconst 0, 1) := by decide +kernel
theorem dX2_partOf_18 : decode cX2_partOf 18 = .ok (.istore 4, 2) := by decide +kernel
theorem dX2_partOf_20 : decode cX2_partOf 20 = .ok (.iload 4, 2) := by decide +kernel
theorem dX2_partOf_22 : decode cX2_partOf 22 = .ok (.aload_n 0, 1) := by decide +kernel
theorem dX2_partOf_23 : decode cX2_partOf 23 = .ok (.getfield 25, 3) := by decide +kernel
theorem dX2_partOf_26 : decode cX2_partOf 26 = .ok (.getfield 40, 3) := by decide +kernel
theorem dX2_partOf_29 : decode cX2_partOf 29 = .ok (.if_icmp .ge 45, 3) := by decide +kernel
theorem dX2_partOf_32 : decode cX2_partOf 32 = .ok (.aload_n 0, 1) := by decide +kernel
theorem dX2_partOf_33 : decode cX2_partOf 33 = .ok (.getfield 25, 3) := by decide +kernel
theorem dX2_partOf_36 : decode cX2_partOf 36 = .ok (.iload 4, 2) := by decide +kernel
theorem dX2_partOf_38 : decode cX2_partOf 38 = .ok (.invokevirtual 43, 3) := by decide +kernel
theorem dX2_partOf_41 : decode cX2_partOf 41 = .ok (.ifCond .eq 7, 3) := by decide +kernel
theorem dX2_partOf_44 : decode cX2_partOf 44 = .ok (.iconst 0, 1) := by decide +kernel
theorem dX2_partOf_45 : decode cX2_partOf 45 = .ok (.goto 9, 3) := by decide +kernel
theorem dX2_partOf_48 : decode cX2_partOf 48 = .ok (.aload_n 0, 1) := by decide +kernel
theorem dX2_partOf_49 : decode cX2_partOf 49 = .ok (.iload 4, 2) := by decide +kernel
theorem dX2_partOf_51 : decode cX2_partOf 51 = .ok (.invokevirtual 46, 3) := by decide +kernel
theorem dX2_partOf_54 : decode cX2_partOf 54 = .ok (.istore 5, 2) := by decide +kernel
theorem dX2_partOf_56 : decode cX2_partOf 56 = .ok (.iload 5, 2) := by decide +kernel
theorem dX2_partOf_58 : decode cX2_partOf 58 = .ok (.iload_n 2, 1) := by decide +kernel
theorem dX2_partOf_59 : decode cX2_partOf 59 = .ok (.iand, 1) := by decide +kernel
theorem dX2_partOf_60 : decode cX2_partOf 60 = .ok (.ifCond .eq 8, 3) := by decide +kernel
theorem dX2_partOf_63 : decode cX2_partOf 63 = .ok (.iload_n 2, 1) := by decide +kernel
theorem dX2_partOf_64 : decode cX2_partOf 64 = .ok (.iload 5, 2) := by decide +kernel
theorem dX2_partOf_66 : decode cX2_partOf 66 = .ok (.ior, 1) := by decide +kernel
theorem dX2_partOf_67 : decode cX2_partOf 67 = .ok (.istore_n 2, 1) := by decide +kernel
theorem dX2_partOf_68 : decode cX2_partOf 68 = .ok (.iinc 4 1, 3) := by decide +kernel
theorem dX2_partOf_71 : decode cX2_partOf 71 = .ok (.goto (-51), 3) := by decide +kernel
theorem dX2_partOf_74 : decode cX2_partOf 74 = .ok (.iinc 3 1, 3) := by decide +kernel
theorem dX2_partOf_77 : decode cX2_partOf 77 = .ok (.goto (-71), 3) := by decide +kernel
theorem dX2_partOf_80 : decode cX2_partOf 80 = .ok (.iload_n 2, 1) := by decide +kernel
theorem dX2_partOf_81 : decode cX2_partOf 81 = .ok (.ireturn, 1) := by decide +kernel
theorem dX2_countParts_0 : decode cX2_countParts 0 = .ok (.iconst 0, 1) := by decide +kernel
theorem dX2_countParts_1 : decode cX2_countParts 1 = .ok (.istore_n 1, 1) := by decide +kernel
theorem dX2_countParts_2 : decode cX2_countParts 2 = .ok (.iconst 0, 1) := by decide +kernel
theorem dX2_countParts_3 : decode cX2_countParts 3 = .ok (.istore_n 2, 1) := by decide +kernel
theorem dX2_countParts_4 : decode cX2_countParts 4 = .ok (.iconst 0, 1) := by decide +kernel
theorem dX2_countParts_5 : decode cX2_countParts 5 = .ok (.istore_n 3, 1) := by decide +kernel
theorem dX2_countParts_6 : decode cX2_countParts 6 = .ok (.iload_n 3, 1) := by decide +kernel
theorem dX2_countParts_7 : decode cX2_countParts 7 = .ok (.aload_n 0, 1) := by decide +kernel
theorem dX2_countParts_8 : decode cX2_countParts 8 = .ok (.getfield 25, 3) := by decide +kernel
theorem dX2_countParts_11 : decode cX2_countParts 11 = .ok (.getfield 26, 3) := by decide +kernel
theorem dX2_countParts_14 : decode cX2_countParts 14 = .ok (.if_icmp .ge 39, 3) := by decide +kernel
theorem dX2_countParts_17 : decode cX2_countParts 17 = .ok (.aload_n 0, 1) := by decide +kernel
theorem dX2_countParts_18 : decode cX2_countParts 18 = .ok (.getfield 25, 3) := by decide +kernel
theorem dX2_countParts_21 : decode cX2_countParts 21 = .ok (.iload_n 3, 1) := by decide +kernel
theorem dX2_countParts_22 : decode cX2_countParts 22 = .ok (.invokevirtual 32, 3) := by decide +kernel
theorem dX2_countParts_25 : decode cX2_countParts 25 = .ok (.ifCond .eq 22, 3) := by decide +kernel
theorem dX2_countParts_28 : decode cX2_countParts 28 = .ok (.iload_n 1, 1) := by decide +kernel
theorem dX2_countParts_29 : decode cX2_countParts 29 = .ok (.iload_n 3, 1) := by decide +kernel
theorem dX2_countParts_30 : decode cX2_countParts 30 = .ok (.ishr, 1) := by decide +kernel
theorem dX2_countParts_31 : decode cX2_countParts 31 = .ok (.iconst 1, 1) := by decide +kernel
theorem dX2_countParts_32 : decode cX2_countParts 32 = .ok (.iand, 1) := by decide +kernel
theorem dX2_countParts_33 : decode cX2_countParts 33 = .ok (.ifCond .ne 14, 3) := by decide +kernel
theorem dX2_countParts_36 : decode cX2_countParts 36 = .ok (.iload_n 1, 1) := by decide +kernel
theorem dX2_countParts_37 : decode cX2_countParts 37 = .ok (.aload_n 0, 1) := by decide +kernel
theorem dX2_countParts_38 : decode cX2_countParts 38 = .ok (.iload_n 3, 1) := by decide +kernel
theorem dX2_countParts_39 : decode cX2_countParts 39 = .ok (.invokevirtual 36, 3) := by decide +kernel
theorem dX2_countParts_42 : decode cX2_countParts 42 = .ok (.ior, 1) := by decide +kernel
theorem dX2_countParts_43 : decode cX2_countParts 43 = .ok (.istore_n 1, 1) := by decide +kernel
theorem dX2_countParts_44 : decode cX2_countParts 44 = .ok (.iinc 2 1, 3) := by decide +kernel
theorem dX2_countParts_47 : decode cX2_countParts 47 = .ok (.iinc 3 1, 3) := by decide +kernel
theorem dX2_countParts_50 : decode cX2_countParts 50 = .ok (.goto (-44), 3) := by decide +kernel
theorem dX2_countParts_53 : decode cX2_countParts 53 = .ok (.iload_n 2, 1) := by decide +kernel
theorem dX2_countParts_54 : decode cX2_countParts 54 = .ok (.ireturn, 1) := by decide +kernel
theorem dX2_amount_0 : decode cX2_amount 0 = .ok (.aload_n 0, 1) := by decide +kernel
theorem dX2_amount_1 : decode cX2_amount 1 = .ok (.getfield 25, 3) := by decide +kernel
theorem dX2_amount_4 : decode cX2_amount 4 = .ok (.getfield 49, 3) := by decide +kernel
theorem dX2_amount_7 : decode cX2_amount 7 = .ok (.iload_n 1, 1) := by decide +kernel
theorem dX2_amount_8 : decode cX2_amount 8 = .ok (.aaload, 1) := by decide +kernel
theorem dX2_amount_9 : decode cX2_amount 9 = .ok (.iload_n 2, 1) := by decide +kernel
theorem dX2_amount_10 : decode cX2_amount 10 = .ok (.laload, 1) := by decide +kernel
theorem dX2_amount_11 : decode cX2_amount 11 = .ok (.invokestatic 71, 3) := by decide +kernel
theorem dX2_amount_14 : decode cX2_amount 14 = .ok (.lreturn, 1) := by decide +kernel
theorem dX2_sortBinaryTerms_0 : decode cX2_sortBinaryTerms 0 = .ok (.iconst 0, 1) := by decide +kernel
theorem dX2_sortBinaryTerms_1 : decode cX2_sortBinaryTerms 1 = .ok (.istore_n 2, 1) := by decide +kernel
theorem dX2_sortBinaryTerms_2 : decode cX2_sortBinaryTerms 2 = .ok (.iconst 0, 1) := by decide +kernel
theorem dX2_sortBinaryTerms_3 : decode cX2_sortBinaryTerms 3 = .ok (.istore_n 3, 1) := by decide +kernel
theorem dX2_sortBinaryTerms_4 : decode cX2_sortBinaryTerms 4 = .ok (.iload_n 3, 1) := by decide +kernel
theorem dX2_sortBinaryTerms_5 : decode cX2_sortBinaryTerms 5 = .ok (.aload_n 0, 1) := by decide +kernel
theorem dX2_sortBinaryTerms_6 : decode cX2_sortBinaryTerms 6 = .ok (.getfield 25, 3) := by decide +kernel
theorem dX2_sortBinaryTerms_9 : decode cX2_sortBinaryTerms 9 = .ok (.getfield 26, 3) := by decide +kernel
theorem dX2_sortBinaryTerms_12 : decode cX2_sortBinaryTerms 12 = .ok (.if_icmp .ge 101, 3) := by decide +kernel
theorem dX2_sortBinaryTerms_15 : decode cX2_sortBinaryTerms 15 = .ok (.aload_n 0, 1) := by decide +kernel
theorem dX2_sortBinaryTerms_16 : decode cX2_sortBinaryTerms 16 = .ok (.getfield 25, 3) := by decide +kernel
theorem dX2_sortBinaryTerms_19 : decode cX2_sortBinaryTerms 19 = .ok (.getfield 49, 3) := by decide +kernel
theorem dX2_sortBinaryTerms_22 : decode cX2_sortBinaryTerms 22 = .ok (.iload_n 1, 1) := by decide +kernel
theorem dX2_sortBinaryTerms_23 : decode cX2_sortBinaryTerms 23 = .ok (.aaload, 1) := by decide +kernel
theorem dX2_sortBinaryTerms_24 : decode cX2_sortBinaryTerms 24 = .ok (.iload_n 3, 1) := by decide +kernel
theorem dX2_sortBinaryTerms_25 : decode cX2_sortBinaryTerms 25 = .ok (.laload, 1) := by decide +kernel
theorem dX2_sortBinaryTerms_26 : decode cX2_sortBinaryTerms 26 = .ok (.lconst 0, 1) := by decide +kernel
theorem dX2_sortBinaryTerms_27 : decode cX2_sortBinaryTerms 27 = .ok (.lcmp, 1) := by decide +kernel
theorem dX2_sortBinaryTerms_28 : decode cX2_sortBinaryTerms 28 = .ok (.ifCond .eq 79, 3) := by decide +kernel
theorem dX2_sortBinaryTerms_31 : decode cX2_sortBinaryTerms 31 = .ok (.aload_n 0, 1) := by decide +kernel
theorem dX2_sortBinaryTerms_32 : decode cX2_sortBinaryTerms 32 = .ok (.getfield 25, 3) := by decide +kernel
theorem dX2_sortBinaryTerms_35 : decode cX2_sortBinaryTerms 35 = .ok (.iload_n 3, 1) := by decide +kernel
theorem dX2_sortBinaryTerms_36 : decode cX2_sortBinaryTerms 36 = .ok (.invokevirtual 68, 3) := by decide +kernel
theorem dX2_sortBinaryTerms_39 : decode cX2_sortBinaryTerms 39 = .ok (.ifCond .eq 68, 3) := by decide +kernel
theorem dX2_sortBinaryTerms_42 : decode cX2_sortBinaryTerms 42 = .ok (.iload_n 2, 1) := by decide +kernel
theorem dX2_sortBinaryTerms_43 : decode cX2_sortBinaryTerms 43 = .ok (.istore 4, 2) := by decide +kernel
theorem dX2_sortBinaryTerms_45 : decode cX2_sortBinaryTerms 45 = .ok (.iload 4, 2) := by decide +kernel
theorem dX2_sortBinaryTerms_47 : decode cX2_sortBinaryTerms 47 = .ok (.ifCond .le 49, 3) := by decide +kernel
theorem dX2_sortBinaryTerms_50 : decode cX2_sortBinaryTerms 50 = .ok (.aload_n 0, 1) := by decide +kernel
theorem dX2_sortBinaryTerms_51 : decode cX2_sortBinaryTerms 51 = .ok (.iload_n 1, 1) := by decide +kernel
theorem dX2_sortBinaryTerms_52 : decode cX2_sortBinaryTerms 52 = .ok (.aload_n 0, 1) := by decide +kernel
theorem dX2_sortBinaryTerms_53 : decode cX2_sortBinaryTerms 53 = .ok (.getfield 9, 3) := by decide +kernel
theorem dX2_sortBinaryTerms_56 : decode cX2_sortBinaryTerms 56 = .ok (.iload 4, 2) := by decide +kernel
theorem dX2_sortBinaryTerms_58 : decode cX2_sortBinaryTerms 58 = .ok (.iconst 1, 1) := by decide +kernel
theorem dX2_sortBinaryTerms_59 : decode cX2_sortBinaryTerms 59 = .ok (.isub, 1) := by decide +kernel
theorem dX2_sortBinaryTerms_60 : decode cX2_sortBinaryTerms 60 = .ok (.iaload, 1) := by decide +kernel
theorem dX2_sortBinaryTerms_61 : decode cX2_sortBinaryTerms 61 = .ok (.invokevirtual 64, 3) := by decide +kernel
theorem dX2_sortBinaryTerms_64 : decode cX2_sortBinaryTerms 64 = .ok (.aload_n 0, 1) := by decide +kernel
theorem dX2_sortBinaryTerms_65 : decode cX2_sortBinaryTerms 65 = .ok (.iload_n 1, 1) := by decide +kernel
theorem dX2_sortBinaryTerms_66 : decode cX2_sortBinaryTerms 66 = .ok (.iload_n 3, 1) := by decide +kernel
theorem dX2_sortBinaryTerms_67 : decode cX2_sortBinaryTerms 67 = .ok (.invokevirtual 64, 3) := by decide +kernel
theorem dX2_sortBinaryTerms_70 : decode cX2_sortBinaryTerms 70 = .ok (.lcmp, 1) := by decide +kernel
theorem dX2_sortBinaryTerms_71 : decode cX2_sortBinaryTerms 71 = .ok (.ifCond .ge 25, 3) := by decide +kernel
theorem dX2_sortBinaryTerms_74 : decode cX2_sortBinaryTerms 74 = .ok (.aload_n 0, 1) := by decide +kernel
theorem dX2_sortBinaryTerms_75 : decode cX2_sortBinaryTerms 75 = .ok (.getfield 9, 3) := by decide +kernel
theorem dX2_sortBinaryTerms_78 : decode cX2_sortBinaryTerms 78 = .ok (.iload 4, 2) := by decide +kernel
theorem dX2_sortBinaryTerms_80 : decode cX2_sortBinaryTerms 80 = .ok (.aload_n 0, 1) := by decide +kernel
theorem dX2_sortBinaryTerms_81 : decode cX2_sortBinaryTerms 81 = .ok (.getfield 9, 3) := by decide +kernel
theorem dX2_sortBinaryTerms_84 : decode cX2_sortBinaryTerms 84 = .ok (.iload 4, 2) := by decide +kernel
theorem dX2_sortBinaryTerms_86 : decode cX2_sortBinaryTerms 86 = .ok (.iconst 1, 1) := by decide +kernel
theorem dX2_sortBinaryTerms_87 : decode cX2_sortBinaryTerms 87 = .ok (.isub, 1) := by decide +kernel
theorem dX2_sortBinaryTerms_88 : decode cX2_sortBinaryTerms 88 = .ok (.iaload, 1) := by decide +kernel
theorem dX2_sortBinaryTerms_89 : decode cX2_sortBinaryTerms 89 = .ok (.iastore, 1) := by decide +kernel
theorem dX2_sortBinaryTerms_90 : decode cX2_sortBinaryTerms 90 = .ok (.iinc 4 (-1), 3) := by decide +kernel
theorem dX2_sortBinaryTerms_93 : decode cX2_sortBinaryTerms 93 = .ok (.goto (-48), 3) := by decide +kernel
theorem dX2_sortBinaryTerms_96 : decode cX2_sortBinaryTerms 96 = .ok (.aload_n 0, 1) := by decide +kernel
theorem dX2_sortBinaryTerms_97 : decode cX2_sortBinaryTerms 97 = .ok (.getfield 9, 3) := by decide +kernel
theorem dX2_sortBinaryTerms_100 : decode cX2_sortBinaryTerms 100 = .ok (.iload 4, 2) := by decide +kernel
theorem dX2_sortBinaryTerms_102 : decode cX2_sortBinaryTerms 102 = .ok (.iload_n 3, 1) := by decide +kernel
theorem dX2_sortBinaryTerms_103 : decode cX2_sortBinaryTerms 103 = .ok (.iastore, 1) := by decide +kernel
theorem dX2_sortBinaryTerms_104 : decode cX2_sortBinaryTerms 104 = .ok (.iinc 2 1, 3) := by decide +kernel
theorem dX2_sortBinaryTerms_107 : decode cX2_sortBinaryTerms 107 = .ok (.iinc 3 1, 3) := by decide +kernel
theorem dX2_sortBinaryTerms_110 : decode cX2_sortBinaryTerms 110 = .ok (.goto (-106), 3) := by decide +kernel
theorem dX2_sortBinaryTerms_113 : decode cX2_sortBinaryTerms 113 = .ok (.iload_n 2, 1) := by decide +kernel
theorem dX2_sortBinaryTerms_114 : decode cX2_sortBinaryTerms 114 = .ok (.ireturn, 1) := by decide +kernel
theorem dX2_findClique_0 : decode cX2_findClique 0 = .ok (.aload_n 0, 1) := by decide +kernel
theorem dX2_findClique_1 : decode cX2_findClique 1 = .ok (.getfield 25, 3) := by decide +kernel
theorem dX2_findClique_4 : decode cX2_findClique 4 = .ok (.iload_n 1, 1) := by decide +kernel
theorem dX2_findClique_5 : decode cX2_findClique 5 = .ok (.invokevirtual 43, 3) := by decide +kernel
theorem dX2_findClique_8 : decode cX2_findClique 8 = .ok (.ifCond .eq 5, 3) := by decide +kernel
theorem dX2_findClique_11 : decode cX2_findClique 11 = .ok (.iconst 0, 1) := by decide +kernel
theorem dX2_findClique_12 : decode cX2_findClique 12 = .ok (.ireturn, 1) := by decide +kernel
theorem dX2_findClique_13 : decode cX2_findClique 13 = .ok (.aload_n 0, 1) := by decide +kernel
theorem dX2_findClique_14 : decode cX2_findClique 14 = .ok (.iload_n 1, 1) := by decide +kernel
theorem dX2_findClique_15 : decode cX2_findClique 15 = .ok (.invokevirtual 53, 3) := by decide +kernel
theorem dX2_findClique_18 : decode cX2_findClique 18 = .ok (.istore_n 2, 1) := by decide +kernel
theorem dX2_findClique_19 : decode cX2_findClique 19 = .ok (.aload_n 0, 1) := by decide +kernel
theorem dX2_findClique_20 : decode cX2_findClique 20 = .ok (.getfield 25, 3) := by decide +kernel
theorem dX2_findClique_23 : decode cX2_findClique 23 = .ok (.getfield 56, 3) := by decide +kernel
theorem dX2_findClique_26 : decode cX2_findClique 26 = .ok (.iload_n 1, 1) := by decide +kernel
theorem dX2_findClique_27 : decode cX2_findClique 27 = .ok (.laload, 1) := by decide +kernel
theorem dX2_findClique_28 : decode cX2_findClique 28 = .ok (.aload_n 0, 1) := by decide +kernel
theorem dX2_findClique_29 : decode cX2_findClique 29 = .ok (.getfield 15, 3) := by decide +kernel
theorem dX2_findClique_32 : decode cX2_findClique 32 = .ok (.iload_n 1, 1) := by decide +kernel
theorem dX2_findClique_33 : decode cX2_findClique 33 = .ok (.iconst (-1), 1) := by decide +kernel
theorem dX2_findClique_34 : decode cX2_findClique 34 = .ok (.iconst 0, 1) := by decide +kernel
theorem dX2_findClique_35 : decode cX2_findClique 35 = .ok (.invokevirtual 60, 3) := by decide +kernel
theorem dX2_findClique_38 : decode cX2_findClique 38 = .ok (.lsub, 1) := by decide +kernel
theorem dX2_findClique_39 : decode cX2_findClique 39 = .ok (.lstore_n 3, 1) := by decide +kernel
theorem dX2_findClique_40 : decode cX2_findClique 40 = .ok (.iconst 0, 1) := by decide +kernel
theorem dX2_findClique_41 : decode cX2_findClique 41 = .ok (.istore 5, 2) := by decide +kernel
theorem dX2_findClique_43 : decode cX2_findClique 43 = .ok (.iconst 1, 1) := by decide +kernel
theorem dX2_findClique_44 : decode cX2_findClique 44 = .ok (.istore 6, 2) := by decide +kernel
theorem dX2_findClique_46 : decode cX2_findClique 46 = .ok (.iload 6, 2) := by decide +kernel
theorem dX2_findClique_48 : decode cX2_findClique 48 = .ok (.iload_n 2, 1) := by decide +kernel
theorem dX2_findClique_49 : decode cX2_findClique 49 = .ok (.if_icmp .ge 47, 3) := by decide +kernel
theorem dX2_findClique_52 : decode cX2_findClique 52 = .ok (.aload_n 0, 1) := by decide +kernel
theorem dX2_findClique_53 : decode cX2_findClique 53 = .ok (.iload_n 1, 1) := by decide +kernel
theorem dX2_findClique_54 : decode cX2_findClique 54 = .ok (.aload_n 0, 1) := by decide +kernel
theorem dX2_findClique_55 : decode cX2_findClique 55 = .ok (.getfield 9, 3) := by decide +kernel
theorem dX2_findClique_58 : decode cX2_findClique 58 = .ok (.iload 6, 2) := by decide +kernel
theorem dX2_findClique_60 : decode cX2_findClique 60 = .ok (.iconst 1, 1) := by decide +kernel
theorem dX2_findClique_61 : decode cX2_findClique 61 = .ok (.isub, 1) := by decide +kernel
theorem dX2_findClique_62 : decode cX2_findClique 62 = .ok (.iaload, 1) := by decide +kernel
theorem dX2_findClique_63 : decode cX2_findClique 63 = .ok (.invokevirtual 64, 3) := by decide +kernel
theorem dX2_findClique_66 : decode cX2_findClique 66 = .ok (.aload_n 0, 1) := by decide +kernel
theorem dX2_findClique_67 : decode cX2_findClique 67 = .ok (.iload_n 1, 1) := by decide +kernel
theorem dX2_findClique_68 : decode cX2_findClique 68 = .ok (.aload_n 0, 1) := by decide +kernel
theorem dX2_findClique_69 : decode cX2_findClique 69 = .ok (.getfield 9, 3) := by decide +kernel
theorem dX2_findClique_72 : decode cX2_findClique 72 = .ok (.iload 6, 2) := by decide +kernel
theorem dX2_findClique_74 : decode cX2_findClique 74 = .ok (.iaload, 1) := by decide +kernel
theorem dX2_findClique_75 : decode cX2_findClique 75 = .ok (.invokevirtual 64, 3) := by decide +kernel
theorem dX2_findClique_78 : decode cX2_findClique 78 = .ok (.ladd, 1) := by decide +kernel
theorem dX2_findClique_79 : decode cX2_findClique 79 = .ok (.lload_n 3, 1) := by decide +kernel
theorem dX2_findClique_80 : decode cX2_findClique 80 = .ok (.lcmp, 1) := by decide +kernel
theorem dX2_findClique_81 : decode cX2_findClique 81 = .ok (.ifCond .le 9, 3) := by decide +kernel
theorem dX2_findClique_84 : decode cX2_findClique 84 = .ok (.iload 6, 2) := by decide +kernel
theorem dX2_findClique_86 : decode cX2_findClique 86 = .ok (.iconst 1, 1) := by decide +kernel
theorem dX2_findClique_87 : decode cX2_findClique 87 = .ok (.iadd, 1) := by decide +kernel
theorem dX2_findClique_88 : decode cX2_findClique 88 = .ok (.istore 5, 2) := by decide +kernel
theorem dX2_findClique_90 : decode cX2_findClique 90 = .ok (.iinc 6 1, 3) := by decide +kernel
theorem dX2_findClique_93 : decode cX2_findClique 93 = .ok (.goto (-47), 3) := by decide +kernel
theorem dX2_findClique_96 : decode cX2_findClique 96 = .ok (.iload 5, 2) := by decide +kernel
theorem dX2_findClique_98 : decode cX2_findClique 98 = .ok (.ireturn, 1) := by decide +kernel
theorem dX2_areSame_0 : decode cX2_areSame 0 = .ok (.aload_n 0, 1) := by decide +kernel
theorem dX2_areSame_1 : decode cX2_areSame 1 = .ok (.getfield 25, 3) := by decide +kernel
theorem dX2_areSame_4 : decode cX2_areSame 4 = .ok (.iload_n 1, 1) := by decide +kernel
theorem dX2_areSame_5 : decode cX2_areSame 5 = .ok (.invokevirtual 32, 3) := by decide +kernel
theorem dX2_areSame_8 : decode cX2_areSame 8 = .ok (.ifCond .eq 14, 3) := by decide +kernel
theorem dX2_areSame_11 : decode cX2_areSame 11 = .ok (.aload_n 0, 1) := by decide +kernel
theorem dX2_areSame_12 : decode cX2_areSame 12 = .ok (.getfield 25, 3) := by decide +kernel
theorem dX2_areSame_15 : decode cX2_areSame 15 = .ok (.iload_n 2, 1) := by decide +kernel
theorem dX2_areSame_16 : decode cX2_areSame 16 = .ok (.invokevirtual 32, 3) := by decide +kernel
theorem dX2_areSame_19 : decode cX2_areSame 19 = .ok (.ifCond .ne 5, 3) := by decide +kernel
theorem dX2_areSame_22 : decode cX2_areSame 22 = .ok (.iconst 0, 1) := by decide +kernel
theorem dX2_areSame_23 : decode cX2_areSame 23 = .ok (.ireturn, 1) := by decide +kernel
theorem dX2_areSame_24 : decode cX2_areSame 24 = .ok (.aload_n 0, 1) := by decide +kernel
theorem dX2_areSame_25 : decode cX2_areSame 25 = .ok (.getfield 25, 3) := by decide +kernel
theorem dX2_areSame_28 : decode cX2_areSame 28 = .ok (.getfield 77, 3) := by decide +kernel
theorem dX2_areSame_31 : decode cX2_areSame 31 = .ok (.iload_n 1, 1) := by decide +kernel
theorem dX2_areSame_32 : decode cX2_areSame 32 = .ok (.laload, 1) := by decide +kernel
theorem dX2_areSame_33 : decode cX2_areSame 33 = .ok (.aload_n 0, 1) := by decide +kernel
theorem dX2_areSame_34 : decode cX2_areSame 34 = .ok (.getfield 25, 3) := by decide +kernel
theorem dX2_areSame_37 : decode cX2_areSame 37 = .ok (.getfield 77, 3) := by decide +kernel
theorem dX2_areSame_40 : decode cX2_areSame 40 = .ok (.iload_n 2, 1) := by decide +kernel
theorem dX2_areSame_41 : decode cX2_areSame 41 = .ok (.laload, 1) := by decide +kernel
theorem dX2_areSame_42 : decode cX2_areSame 42 = .ok (.lcmp, 1) := by decide +kernel
theorem dX2_areSame_43 : decode cX2_areSame 43 = .ok (.ifCond .ne 47, 3) := by decide +kernel
theorem dX2_areSame_46 : decode cX2_areSame 46 = .ok (.aload_n 0, 1) := by decide +kernel
theorem dX2_areSame_47 : decode cX2_areSame 47 = .ok (.getfield 25, 3) := by decide +kernel
theorem dX2_areSame_50 : decode cX2_areSame 50 = .ok (.getfield 80, 3) := by decide +kernel
theorem dX2_areSame_53 : decode cX2_areSame 53 = .ok (.iload_n 1, 1) := by decide +kernel
theorem dX2_areSame_54 : decode cX2_areSame 54 = .ok (.laload, 1) := by decide +kernel
theorem dX2_areSame_55 : decode cX2_areSame 55 = .ok (.aload_n 0, 1) := by decide +kernel
theorem dX2_areSame_56 : decode cX2_areSame 56 = .ok (.getfield 25, 3) := by decide +kernel
theorem dX2_areSame_59 : decode cX2_areSame 59 = .ok (.getfield 80, 3) := by decide +kernel
theorem dX2_areSame_62 : decode cX2_areSame 62 = .ok (.iload_n 2, 1) := by decide +kernel
theorem dX2_areSame_63 : decode cX2_areSame 63 = .ok (.laload, 1) := by decide +kernel
theorem dX2_areSame_64 : decode cX2_areSame 64 = .ok (.lcmp, 1) := by decide +kernel
theorem dX2_areSame_65 : decode cX2_areSame 65 = .ok (.ifCond .ne 25, 3) := by decide +kernel
theorem dX2_areSame_68 : decode cX2_areSame 68 = .ok (.aload_n 0, 1) := by decide +kernel
theorem dX2_areSame_69 : decode cX2_areSame 69 = .ok (.getfield 25, 3) := by decide +kernel
theorem dX2_areSame_72 : decode cX2_areSame 72 = .ok (.getfield 83, 3) := by decide +kernel
theorem dX2_areSame_75 : decode cX2_areSame 75 = .ok (.iload_n 1, 1) := by decide +kernel
theorem dX2_areSame_76 : decode cX2_areSame 76 = .ok (.laload, 1) := by decide +kernel
theorem dX2_areSame_77 : decode cX2_areSame 77 = .ok (.aload_n 0, 1) := by decide +kernel
theorem dX2_areSame_78 : decode cX2_areSame 78 = .ok (.getfield 25, 3) := by decide +kernel
theorem dX2_areSame_81 : decode cX2_areSame 81 = .ok (.getfield 83, 3) := by decide +kernel
theorem dX2_areSame_84 : decode cX2_areSame 84 = .ok (.iload_n 2, 1) := by decide +kernel
theorem dX2_areSame_85 : decode cX2_areSame 85 = .ok (.laload, 1) := by decide +kernel
theorem dX2_areSame_86 : decode cX2_areSame 86 = .ok (.lcmp, 1) := by decide +kernel
theorem dX2_areSame_87 : decode cX2_areSame 87 = .ok (.ifCond .eq 5, 3) := by decide +kernel
theorem dX2_areSame_90 : decode cX2_areSame 90 = .ok (.iconst 0, 1) := by decide +kernel
theorem dX2_areSame_91 : decode cX2_areSame 91 = .ok (.ireturn, 1) := by decide +kernel
theorem dX2_areSame_92 : decode cX2_areSame 92 = .ok (.iconst 0, 1) := by decide +kernel
theorem dX2_areSame_93 : decode cX2_areSame 93 = .ok (.istore_n 3, 1) := by decide +kernel
theorem dX2_areSame_94 : decode cX2_areSame 94 = .ok (.iload_n 3, 1) := by decide +kernel
theorem dX2_areSame_95 : decode cX2_areSame 95 = .ok (.aload_n 0, 1) := by decide +kernel
theorem dX2_areSame_96 : decode cX2_areSame 96 = .ok (.getfield 25, 3) := by decide +kernel
theorem dX2_areSame_99 : decode cX2_areSame 99 = .ok (.getfield 40, 3) := by decide +kernel
theorem dX2_areSame_102 : decode cX2_areSame 102 = .ok (.if_icmp .ge 48, 3) := by decide +kernel
theorem dX2_areSame_105 : decode cX2_areSame 105 = .ok (.aload_n 0, 1) := by decide +kernel
theorem dX2_areSame_106 : decode cX2_areSame 106 = .ok (.getfield 25, 3) := by decide +kernel
theorem dX2_areSame_109 : decode cX2_areSame 109 = .ok (.iload_n 3, 1) := by decide +kernel
theorem dX2_areSame_110 : decode cX2_areSame 110 = .ok (.invokevirtual 43, 3) := by decide +kernel
theorem dX2_areSame_113 : decode cX2_areSame 113 = .ok (.ifCond .ne 31, 3) := by decide +kernel
theorem dX2_areSame_116 : decode cX2_areSame 116 = .ok (.aload_n 0, 1) := by decide +kernel
theorem dX2_areSame_117 : decode cX2_areSame 117 = .ok (.getfield 25, 3) := by decide +kernel
theorem dX2_areSame_120 : decode cX2_areSame 120 = .ok (.getfield 49, 3) := by decide +kernel
theorem dX2_areSame_123 : decode cX2_areSame 123 = .ok (.iload_n 3, 1) := by decide +kernel
theorem dX2_areSame_124 : decode cX2_areSame 124 = .ok (.aaload, 1) := by decide +kernel
theorem dX2_areSame_125 : decode cX2_areSame 125 = .ok (.iload_n 1, 1) := by decide +kernel
theorem dX2_areSame_126 : decode cX2_areSame 126 = .ok (.laload, 1) := by decide +kernel
theorem dX2_areSame_127 : decode cX2_areSame 127 = .ok (.aload_n 0, 1) := by decide +kernel
theorem dX2_areSame_128 : decode cX2_areSame 128 = .ok (.getfield 25, 3) := by decide +kernel
theorem dX2_areSame_131 : decode cX2_areSame 131 = .ok (.getfield 49, 3) := by decide +kernel
theorem dX2_areSame_134 : decode cX2_areSame 134 = .ok (.iload_n 3, 1) := by decide +kernel
theorem dX2_areSame_135 : decode cX2_areSame 135 = .ok (.aaload, 1) := by decide +kernel
theorem dX2_areSame_136 : decode cX2_areSame 136 = .ok (.iload_n 2, 1) := by decide +kernel
theorem dX2_areSame_137 : decode cX2_areSame 137 = .ok (.laload, 1) := by decide +kernel
theorem dX2_areSame_138 : decode cX2_areSame 138 = .ok (.lcmp, 1) := by decide +kernel
theorem dX2_areSame_139 : decode cX2_areSame 139 = .ok (.ifCond .eq 5, 3) := by decide +kernel
theorem dX2_areSame_142 : decode cX2_areSame 142 = .ok (.iconst 0, 1) := by decide +kernel
theorem dX2_areSame_143 : decode cX2_areSame 143 = .ok (.ireturn, 1) := by decide +kernel
theorem dX2_areSame_144 : decode cX2_areSame 144 = .ok (.iinc 3 1, 3) := by decide +kernel
theorem dX2_areSame_147 : decode cX2_areSame 147 = .ok (.goto (-53), 3) := by decide +kernel
theorem dX2_areSame_150 : decode cX2_areSame 150 = .ok (.iconst 1, 1) := by decide +kernel
theorem dX2_areSame_151 : decode cX2_areSame 151 = .ok (.ireturn, 1) := by decide +kernel
theorem dX4_leaveEmpty_0 : decode cX4_leaveEmpty 0 = .ok (.aload_n 0, 1) := by decide +kernel
theorem dX4_leaveEmpty_1 : decode cX4_leaveEmpty 1 = .ok (.getfield 21, 3) := by decide +kernel
theorem dX4_leaveEmpty_4 : decode cX4_leaveEmpty 4 = .ok (.iload_n 1, 1) := by decide +kernel
theorem dX4_leaveEmpty_5 : decode cX4_leaveEmpty 5 = .ok (.iconst 0, 1) := by decide +kernel
theorem dX4_leaveEmpty_6 : decode cX4_leaveEmpty 6 = .ok (.invokevirtual 22, 3) := by decide +kernel
theorem dX4_leaveEmpty_9 : decode cX4_leaveEmpty 9 = .ok (.iconst (-1), 1) := by decide +kernel
theorem dX4_leaveEmpty_10 : decode cX4_leaveEmpty 10 = .ok (.if_icmp .eq 5, 3) := by decide +kernel
theorem dX4_leaveEmpty_13 : decode cX4_leaveEmpty 13 = .ok (.iconst 1, 1) := by decide +kernel
theorem dX4_leaveEmpty_14 : decode cX4_leaveEmpty 14 = .ok (.ireturn, 1) := by decide +kernel
theorem dX4_leaveEmpty_15 : decode cX4_leaveEmpty 15 = .ok (.aload_n 0, 1) := by decide +kernel
theorem dX4_leaveEmpty_16 : decode cX4_leaveEmpty 16 = .ok (.getfield 21, 3) := by decide +kernel
theorem dX4_leaveEmpty_19 : decode cX4_leaveEmpty 19 = .ok (.iload_n 1, 1) := by decide +kernel
theorem dX4_leaveEmpty_20 : decode cX4_leaveEmpty 20 = .ok (.lconst 0, 1) := by decide +kernel
theorem dX4_leaveEmpty_21 : decode cX4_leaveEmpty 21 = .ok (.invokevirtual 28, 3) := by decide +kernel
theorem dX4_leaveEmpty_24 : decode cX4_leaveEmpty 24 = .ok (.ifCond .ne 20, 3) := by decide +kernel
theorem dX4_leaveEmpty_27 : decode cX4_leaveEmpty 27 = .ok (.aload_n 0, 1) := by decide +kernel
theorem dX4_leaveEmpty_28 : decode cX4_leaveEmpty 28 = .ok (.getfield 9, 3) := by decide +kernel
theorem dX4_leaveEmpty_31 : decode cX4_leaveEmpty 31 = .ok (.aload_n 0, 1) := by decide +kernel
theorem dX4_leaveEmpty_32 : decode cX4_leaveEmpty 32 = .ok (.getfield 9, 3) := by decide +kernel
theorem dX4_leaveEmpty_35 : decode cX4_leaveEmpty 35 = .ok (.getfield 32, 3) := by decide +kernel
theorem dX4_leaveEmpty_38 : decode cX4_leaveEmpty 38 = .ok (.iload_n 1, 1) := by decide +kernel
theorem dX4_leaveEmpty_39 : decode cX4_leaveEmpty 39 = .ok (.iaload, 1) := by decide +kernel
theorem dX4_leaveEmpty_40 : decode cX4_leaveEmpty 40 = .ok (.invokevirtual 36, 3) := by decide +kernel
theorem dX4_leaveEmpty_43 : decode cX4_leaveEmpty 43 = .ok (.ireturn, 1) := by decide +kernel
theorem dX4_leaveEmpty_44 : decode cX4_leaveEmpty 44 = .ok (.aload_n 0, 1) := by decide +kernel
theorem dX4_leaveEmpty_45 : decode cX4_leaveEmpty 45 = .ok (.getfield 9, 3) := by decide +kernel
theorem dX4_leaveEmpty_48 : decode cX4_leaveEmpty 48 = .ok (.iload_n 1, 1) := by decide +kernel
theorem dX4_leaveEmpty_49 : decode cX4_leaveEmpty 49 = .ok (.invokevirtual 40, 3) := by decide +kernel
theorem dX4_leaveEmpty_52 : decode cX4_leaveEmpty 52 = .ok (.iconst 1, 1) := by decide +kernel
theorem dX4_leaveEmpty_53 : decode cX4_leaveEmpty 53 = .ok (.ireturn, 1) := by decide +kernel
theorem dX4_greatestDivisor_0 : decode cX4_greatestDivisor 0 = .ok (.lload_n 0, 1) := by decide +kernel
theorem dX4_greatestDivisor_1 : decode cX4_greatestDivisor 1 = .ok (.lstore 4, 2) := by decide +kernel
theorem dX4_greatestDivisor_3 : decode cX4_greatestDivisor 3 = .ok (.lload_n 2, 1) := by decide +kernel
theorem dX4_greatestDivisor_4 : decode cX4_greatestDivisor 4 = .ok (.lstore 6, 2) := by decide +kernel
theorem dX4_greatestDivisor_6 : decode cX4_greatestDivisor 6 = .ok (.iconst 0, 1) := by decide +kernel
theorem dX4_greatestDivisor_7 : decode cX4_greatestDivisor 7 = .ok (.istore 8, 2) := by decide +kernel
theorem dX4_greatestDivisor_9 : decode cX4_greatestDivisor 9 = .ok (.iload 8, 2) := by decide +kernel
theorem dX4_greatestDivisor_11 : decode cX4_greatestDivisor 11 = .ok (.bipush 100, 2) := by decide +kernel
theorem dX4_greatestDivisor_13 : decode cX4_greatestDivisor 13 = .ok (.if_icmp .ge 31, 3) := by decide +kernel
theorem dX4_greatestDivisor_16 : decode cX4_greatestDivisor 16 = .ok (.lload 6, 2) := by decide +kernel
theorem dX4_greatestDivisor_18 : decode cX4_greatestDivisor 18 = .ok (.lconst 0, 1) := by decide +kernel
theorem dX4_greatestDivisor_19 : decode cX4_greatestDivisor 19 = .ok (.lcmp, 1) := by decide +kernel
theorem dX4_greatestDivisor_20 : decode cX4_greatestDivisor 20 = .ok (.ifCond .eq 24, 3) := by decide +kernel
theorem dX4_greatestDivisor_23 : decode cX4_greatestDivisor 23 = .ok (.lload 4, 2) := by decide +kernel
theorem dX4_greatestDivisor_25 : decode cX4_greatestDivisor 25 = .ok (.lload 6, 2) := by decide +kernel
theorem dX4_greatestDivisor_27 : decode cX4_greatestDivisor 27 = .ok (.lrem, 1) := by decide +kernel
theorem dX4_greatestDivisor_28 : decode cX4_greatestDivisor 28 = .ok (.lstore 9, 2) := by decide +kernel
theorem dX4_greatestDivisor_30 : decode cX4_greatestDivisor 30 = .ok (.lload 6, 2) := by decide +kernel
theorem dX4_greatestDivisor_32 : decode cX4_greatestDivisor 32 = .ok (.lstore 4, 2) := by decide +kernel
theorem dX4_greatestDivisor_34 : decode cX4_greatestDivisor 34 = .ok (.lload 9, 2) := by decide +kernel
theorem dX4_greatestDivisor_36 : decode cX4_greatestDivisor 36 = .ok (.lstore 6, 2) := by decide +kernel
theorem dX4_greatestDivisor_38 : decode cX4_greatestDivisor 38 = .ok (.iinc 8 1, 3) := by decide +kernel
theorem dX4_greatestDivisor_41 : decode cX4_greatestDivisor 41 = .ok (.goto (-32), 3) := by decide +kernel
theorem dX4_greatestDivisor_44 : decode cX4_greatestDivisor 44 = .ok (.lload 4, 2) := by decide +kernel
theorem dX4_greatestDivisor_46 : decode cX4_greatestDivisor 46 = .ok (.lreturn, 1) := by decide +kernel
theorem dX4_sharedDivisor_0 : decode cX4_sharedDivisor 0 = .ok (.lconst 0, 1) := by decide +kernel
theorem dX4_sharedDivisor_1 : decode cX4_sharedDivisor 1 = .ok (.lstore_n 2, 1) := by decide +kernel
theorem dX4_sharedDivisor_2 : decode cX4_sharedDivisor 2 = .ok (.iconst 0, 1) := by decide +kernel
theorem dX4_sharedDivisor_3 : decode cX4_sharedDivisor 3 = .ok (.istore 4, 2) := by decide +kernel
theorem dX4_sharedDivisor_5 : decode cX4_sharedDivisor 5 = .ok (.iload 4, 2) := by decide +kernel
theorem dX4_sharedDivisor_7 : decode cX4_sharedDivisor 7 = .ok (.aload_n 0, 1) := by decide +kernel
theorem dX4_sharedDivisor_8 : decode cX4_sharedDivisor 8 = .ok (.getfield 21, 3) := by decide +kernel
theorem dX4_sharedDivisor_11 : decode cX4_sharedDivisor 11 = .ok (.getfield 69, 3) := by decide +kernel
theorem dX4_sharedDivisor_14 : decode cX4_sharedDivisor 14 = .ok (.if_icmp .ge 29, 3) := by decide +kernel
theorem dX4_sharedDivisor_17 : decode cX4_sharedDivisor 17 = .ok (.lload_n 2, 1) := by decide +kernel
theorem dX4_sharedDivisor_18 : decode cX4_sharedDivisor 18 = .ok (.aload_n 0, 1) := by decide +kernel
theorem dX4_sharedDivisor_19 : decode cX4_sharedDivisor 19 = .ok (.getfield 21, 3) := by decide +kernel
theorem dX4_sharedDivisor_22 : decode cX4_sharedDivisor 22 = .ok (.getfield 55, 3) := by decide +kernel
theorem dX4_sharedDivisor_25 : decode cX4_sharedDivisor 25 = .ok (.iload_n 1, 1) := by decide +kernel
theorem dX4_sharedDivisor_26 : decode cX4_sharedDivisor 26 = .ok (.aaload, 1) := by decide +kernel
theorem dX4_sharedDivisor_27 : decode cX4_sharedDivisor 27 = .ok (.iload 4, 2) := by decide +kernel
theorem dX4_sharedDivisor_29 : decode cX4_sharedDivisor 29 = .ok (.laload, 1) := by decide +kernel
theorem dX4_sharedDivisor_30 : decode cX4_sharedDivisor 30 = .ok (.invokestatic 73, 3) := by decide +kernel
theorem dX4_sharedDivisor_33 : decode cX4_sharedDivisor 33 = .ok (.invokestatic 79, 3) := by decide +kernel
theorem dX4_sharedDivisor_36 : decode cX4_sharedDivisor 36 = .ok (.lstore_n 2, 1) := by decide +kernel
theorem dX4_sharedDivisor_37 : decode cX4_sharedDivisor 37 = .ok (.iinc 4 1, 3) := by decide +kernel
theorem dX4_sharedDivisor_40 : decode cX4_sharedDivisor 40 = .ok (.goto (-35), 3) := by decide +kernel
theorem dX4_sharedDivisor_43 : decode cX4_sharedDivisor 43 = .ok (.lload_n 2, 1) := by decide +kernel
theorem dX4_sharedDivisor_44 : decode cX4_sharedDivisor 44 = .ok (.lreturn, 1) := by decide +kernel
theorem dX4_divide_0 : decode cX4_divide 0 = .ok (.lload_n 2, 1) := by decide +kernel
theorem dX4_divide_1 : decode cX4_divide 1 = .ok (.lconst 0, 1) := by decide +kernel
theorem dX4_divide_2 : decode cX4_divide 2 = .ok (.lcmp, 1) := by decide +kernel
theorem dX4_divide_3 : decode cX4_divide 3 = .ok (.ifCond .ne 4, 3) := by decide +kernel
theorem dX4_divide_6 : decode cX4_divide 6 = .ok (.return_, 1) := by decide +kernel
theorem dX4_divide_7 : decode cX4_divide 7 = .ok (.iconst 0, 1) := by decide +kernel
theorem dX4_divide_8 : decode cX4_divide 8 = .ok (.istore 4, 2) := by decide +kernel
theorem dX4_divide_10 : decode cX4_divide 10 = .ok (.iload 4, 2) := by decide +kernel
theorem dX4_divide_12 : decode cX4_divide 12 = .ok (.aload_n 0, 1) := by decide +kernel
theorem dX4_divide_13 : decode cX4_divide 13 = .ok (.getfield 21, 3) := by decide +kernel
theorem dX4_divide_16 : decode cX4_divide 16 = .ok (.getfield 69, 3) := by decide +kernel
theorem dX4_divide_19 : decode cX4_divide 19 = .ok (.if_icmp .ge 25, 3) := by decide +kernel
theorem dX4_divide_22 : decode cX4_divide 22 = .ok (.aload_n 0, 1) := by decide +kernel
theorem dX4_divide_23 : decode cX4_divide 23 = .ok (.getfield 21, 3) := by decide +kernel
theorem dX4_divide_26 : decode cX4_divide 26 = .ok (.getfield 55, 3) := by decide +kernel
theorem dX4_divide_29 : decode cX4_divide 29 = .ok (.iload_n 1, 1) := by decide +kernel
theorem dX4_divide_30 : decode cX4_divide 30 = .ok (.aaload, 1) := by decide +kernel
theorem dX4_divide_31 : decode cX4_divide 31 = .ok (.iload 4, 2) := by decide +kernel
theorem dX4_divide_33 : decode cX4_divide 33 = .ok (.dup2, 1) := by decide +kernel
theorem dX4_divide_34 : decode cX4_divide 34 = .ok (.laload, 1) := by decide +kernel
theorem dX4_divide_35 : decode cX4_divide 35 = .ok (.lload_n 2, 1) := by decide +kernel
theorem dX4_divide_36 : decode cX4_divide 36 = .ok (.ldiv, 1) := by decide +kernel
theorem dX4_divide_37 : decode cX4_divide 37 = .ok (.lastore, 1) := by decide +kernel
theorem dX4_divide_38 : decode cX4_divide 38 = .ok (.iinc 4 1, 3) := by decide +kernel
theorem dX4_divide_41 : decode cX4_divide 41 = .ok (.goto (-31), 3) := by decide +kernel
theorem dX4_divide_44 : decode cX4_divide 44 = .ok (.aload_n 0, 1) := by decide +kernel
theorem dX4_divide_45 : decode cX4_divide 45 = .ok (.getfield 21, 3) := by decide +kernel
theorem dX4_divide_48 : decode cX4_divide 48 = .ok (.getfield 51, 3) := by decide +kernel
theorem dX4_divide_51 : decode cX4_divide 51 = .ok (.iload_n 1, 1) := by decide +kernel
theorem dX4_divide_52 : decode cX4_divide 52 = .ok (.aload_n 0, 1) := by decide +kernel
theorem dX4_divide_53 : decode cX4_divide 53 = .ok (.getfield 21, 3) := by decide +kernel
theorem dX4_divide_56 : decode cX4_divide 56 = .ok (.getfield 51, 3) := by decide +kernel
theorem dX4_divide_59 : decode cX4_divide 59 = .ok (.iload_n 1, 1) := by decide +kernel
theorem dX4_divide_60 : decode cX4_divide 60 = .ok (.laload, 1) := by decide +kernel
theorem dX4_divide_61 : decode cX4_divide 61 = .ok (.lload_n 2, 1) := by decide +kernel
theorem dX4_divide_62 : decode cX4_divide 62 = .ok (.invokestatic 83, 3) := by decide +kernel
theorem dX4_divide_65 : decode cX4_divide 65 = .ok (.lastore, 1) := by decide +kernel
theorem dX4_divide_66 : decode cX4_divide 66 = .ok (.return_, 1) := by decide +kernel
theorem dX4_turnSigns_0 : decode cX4_turnSigns 0 = .ok (.iconst 0, 1) := by decide +kernel
theorem dX4_turnSigns_1 : decode cX4_turnSigns 1 = .ok (.istore_n 2, 1) := by decide +kernel
theorem dX4_turnSigns_2 : decode cX4_turnSigns 2 = .ok (.iload_n 2, 1) := by decide +kernel
theorem dX4_turnSigns_3 : decode cX4_turnSigns 3 = .ok (.aload_n 0, 1) := by decide +kernel
theorem dX4_turnSigns_4 : decode cX4_turnSigns 4 = .ok (.getfield 21, 3) := by decide +kernel
theorem dX4_turnSigns_7 : decode cX4_turnSigns 7 = .ok (.getfield 69, 3) := by decide +kernel
theorem dX4_turnSigns_10 : decode cX4_turnSigns 10 = .ok (.if_icmp .ge 32, 3) := by decide +kernel
theorem dX4_turnSigns_13 : decode cX4_turnSigns 13 = .ok (.aload_n 0, 1) := by decide +kernel
theorem dX4_turnSigns_14 : decode cX4_turnSigns 14 = .ok (.getfield 21, 3) := by decide +kernel
theorem dX4_turnSigns_17 : decode cX4_turnSigns 17 = .ok (.getfield 55, 3) := by decide +kernel
theorem dX4_turnSigns_20 : decode cX4_turnSigns 20 = .ok (.iload_n 1, 1) := by decide +kernel
theorem dX4_turnSigns_21 : decode cX4_turnSigns 21 = .ok (.aaload, 1) := by decide +kernel
theorem dX4_turnSigns_22 : decode cX4_turnSigns 22 = .ok (.iload_n 2, 1) := by decide +kernel
theorem dX4_turnSigns_23 : decode cX4_turnSigns 23 = .ok (.aload_n 0, 1) := by decide +kernel
theorem dX4_turnSigns_24 : decode cX4_turnSigns 24 = .ok (.getfield 21, 3) := by decide +kernel
theorem dX4_turnSigns_27 : decode cX4_turnSigns 27 = .ok (.getfield 55, 3) := by decide +kernel
theorem dX4_turnSigns_30 : decode cX4_turnSigns 30 = .ok (.iload_n 1, 1) := by decide +kernel
theorem dX4_turnSigns_31 : decode cX4_turnSigns 31 = .ok (.aaload, 1) := by decide +kernel
theorem dX4_turnSigns_32 : decode cX4_turnSigns 32 = .ok (.iload_n 2, 1) := by decide +kernel
theorem dX4_turnSigns_33 : decode cX4_turnSigns 33 = .ok (.laload, 1) := by decide +kernel
theorem dX4_turnSigns_34 : decode cX4_turnSigns 34 = .ok (.lneg, 1) := by decide +kernel
theorem dX4_turnSigns_35 : decode cX4_turnSigns 35 = .ok (.lastore, 1) := by decide +kernel
theorem dX4_turnSigns_36 : decode cX4_turnSigns 36 = .ok (.iinc 2 1, 3) := by decide +kernel
theorem dX4_turnSigns_39 : decode cX4_turnSigns 39 = .ok (.goto (-37), 3) := by decide +kernel
theorem dX4_turnSigns_42 : decode cX4_turnSigns 42 = .ok (.aload_n 0, 1) := by decide +kernel
theorem dX4_turnSigns_43 : decode cX4_turnSigns 43 = .ok (.getfield 21, 3) := by decide +kernel
theorem dX4_turnSigns_46 : decode cX4_turnSigns 46 = .ok (.getfield 51, 3) := by decide +kernel
theorem dX4_turnSigns_49 : decode cX4_turnSigns 49 = .ok (.iload_n 1, 1) := by decide +kernel
theorem dX4_turnSigns_50 : decode cX4_turnSigns 50 = .ok (.aload_n 0, 1) := by decide +kernel
theorem dX4_turnSigns_51 : decode cX4_turnSigns 51 = .ok (.getfield 21, 3) := by decide +kernel
theorem dX4_turnSigns_54 : decode cX4_turnSigns 54 = .ok (.getfield 51, 3) := by decide +kernel
theorem dX4_turnSigns_57 : decode cX4_turnSigns 57 = .ok (.iload_n 1, 1) := by decide +kernel
theorem dX4_turnSigns_58 : decode cX4_turnSigns 58 = .ok (.laload, 1) := by decide +kernel
theorem dX4_turnSigns_59 : decode cX4_turnSigns 59 = .ok (.lneg, 1) := by decide +kernel
theorem dX4_turnSigns_60 : decode cX4_turnSigns 60 = .ok (.lastore, 1) := by decide +kernel
theorem dX4_turnSigns_61 : decode cX4_turnSigns 61 = .ok (.return_, 1) := by decide +kernel
theorem dX4_divideShared_0 : decode cX4_divideShared 0 = .ok (.aload_n 0, 1) := by decide +kernel
theorem dX4_divideShared_1 : decode cX4_divideShared 1 = .ok (.getfield 21, 3) := by decide +kernel
theorem dX4_divideShared_4 : decode cX4_divideShared 4 = .ok (.iload_n 1, 1) := by decide +kernel
theorem dX4_divideShared_5 : decode cX4_divideShared 5 = .ok (.iconst 0, 1) := by decide +kernel
theorem dX4_divideShared_6 : decode cX4_divideShared 6 = .ok (.invokevirtual 22, 3) := by decide +kernel
theorem dX4_divideShared_9 : decode cX4_divideShared 9 = .ok (.istore_n 2, 1) := by decide +kernel
theorem dX4_divideShared_10 : decode cX4_divideShared 10 = .ok (.iload_n 2, 1) := by decide +kernel
theorem dX4_divideShared_11 : decode cX4_divideShared 11 = .ok (.iconst (-1), 1) := by decide +kernel
theorem dX4_divideShared_12 : decode cX4_divideShared 12 = .ok (.if_icmp .ne 5, 3) := by decide +kernel
theorem dX4_divideShared_15 : decode cX4_divideShared 15 = .ok (.iconst 1, 1) := by decide +kernel
theorem dX4_divideShared_16 : decode cX4_divideShared 16 = .ok (.ireturn, 1) := by decide +kernel
theorem dX4_divideShared_17 : decode cX4_divideShared 17 = .ok (.aload_n 0, 1) := by decide +kernel
theorem dX4_divideShared_18 : decode cX4_divideShared 18 = .ok (.iload_n 1, 1) := by decide +kernel
theorem dX4_divideShared_19 : decode cX4_divideShared 19 = .ok (.invokevirtual 44, 3) := by decide +kernel
theorem dX4_divideShared_22 : decode cX4_divideShared 22 = .ok (.lstore_n 3, 1) := by decide +kernel
theorem dX4_divideShared_23 : decode cX4_divideShared 23 = .ok (.aload_n 0, 1) := by decide +kernel
theorem dX4_divideShared_24 : decode cX4_divideShared 24 = .ok (.getfield 21, 3) := by decide +kernel
theorem dX4_divideShared_27 : decode cX4_divideShared 27 = .ok (.getfield 48, 3) := by decide +kernel
theorem dX4_divideShared_30 : decode cX4_divideShared 30 = .ok (.iload_n 1, 1) := by decide +kernel
theorem dX4_divideShared_31 : decode cX4_divideShared 31 = .ok (.iaload, 1) := by decide +kernel
theorem dX4_divideShared_32 : decode cX4_divideShared 32 = .ok (.iconst 1, 1) := by decide +kernel
theorem dX4_divideShared_33 : decode cX4_divideShared 33 = .ok (.if_icmp .ne 7, 3) := by decide +kernel
theorem dX4_divideShared_36 : decode cX4_divideShared 36 = .ok (.iconst 1, 1) := by decide +kernel
theorem dX4_divideShared_37 : decode cX4_divideShared 37 = .ok (.goto 4, 3) := by decide +kernel
theorem dX4_divideShared_40 : decode cX4_divideShared 40 = .ok (.iconst 0, 1) := by decide +kernel
theorem dX4_divideShared_41 : decode cX4_divideShared 41 = .ok (.istore 5, 2) := by decide +kernel
theorem dX4_divideShared_43 : decode cX4_divideShared 43 = .ok (.iload 5, 2) := by decide +kernel
theorem dX4_divideShared_45 : decode cX4_divideShared 45 = .ok (.ifCond .eq 42, 3) := by decide +kernel
theorem dX4_divideShared_48 : decode cX4_divideShared 48 = .ok (.lload_n 3, 1) := by decide +kernel
theorem dX4_divideShared_49 : decode cX4_divideShared 49 = .ok (.lconst 0, 1) := by decide +kernel
theorem dX4_divideShared_50 : decode cX4_divideShared 50 = .ok (.lcmp, 1) := by decide +kernel
theorem dX4_divideShared_51 : decode cX4_divideShared 51 = .ok (.ifCond .eq 36, 3) := by decide +kernel
theorem dX4_divideShared_54 : decode cX4_divideShared 54 = .ok (.aload_n 0, 1) := by decide +kernel
theorem dX4_divideShared_55 : decode cX4_divideShared 55 = .ok (.getfield 21, 3) := by decide +kernel
theorem dX4_divideShared_58 : decode cX4_divideShared 58 = .ok (.getfield 51, 3) := by decide +kernel
theorem dX4_divideShared_61 : decode cX4_divideShared 61 = .ok (.iload_n 1, 1) := by decide +kernel
theorem dX4_divideShared_62 : decode cX4_divideShared 62 = .ok (.laload, 1) := by decide +kernel
theorem dX4_divideShared_63 : decode cX4_divideShared 63 = .ok (.lload_n 3, 1) := by decide +kernel
theorem dX4_divideShared_64 : decode cX4_divideShared 64 = .ok (.lrem, 1) := by decide +kernel
theorem dX4_divideShared_65 : decode cX4_divideShared 65 = .ok (.lconst 0, 1) := by decide +kernel
theorem dX4_divideShared_66 : decode cX4_divideShared 66 = .ok (.lcmp, 1) := by decide +kernel
theorem dX4_divideShared_67 : decode cX4_divideShared 67 = .ok (.ifCond .eq 20, 3) := by decide +kernel
theorem dX4_divideShared_70 : decode cX4_divideShared 70 = .ok (.aload_n 0, 1) := by decide +kernel
theorem dX4_divideShared_71 : decode cX4_divideShared 71 = .ok (.getfield 9, 3) := by decide +kernel
theorem dX4_divideShared_74 : decode cX4_divideShared 74 = .ok (.aload_n 0, 1) := by decide +kernel
theorem dX4_divideShared_75 : decode cX4_divideShared 75 = .ok (.getfield 9, 3) := by decide +kernel
theorem dX4_divideShared_78 : decode cX4_divideShared 78 = .ok (.getfield 32, 3) := by decide +kernel
theorem dX4_divideShared_81 : decode cX4_divideShared 81 = .ok (.iload_n 1, 1) := by decide +kernel
theorem dX4_divideShared_82 : decode cX4_divideShared 82 = .ok (.iaload, 1) := by decide +kernel
