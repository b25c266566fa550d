set_option maxRecDepth 20000 in
theorem wk_420 : (Jvm.Cond.classLink "RowPresolveLaw" (13 : Nat) "java/lang/IllegalStateException") ∈ gtbl := gt2 100 rfl rfl
set_option maxRecDepth 20000 in
theorem wk_421 : (Jvm.Cond.classLink "RowPresolveLaw" (15 : Nat) "java/lang/IllegalArgumentException") ∈ gtbl := gt2 101 rfl rfl
set_option maxRecDepth 20000 in
theorem wk_422 : (Jvm.Cond.methodLink "RowPresolveLaw" (7 : Nat) ({ cls := "RowPresolve", name := "column", desc := "(III)I" } : Jvm.MethodName)) ∈ gtbl := gt2 102 rfl rfl
set_option maxRecDepth 20000 in
theorem wk_518 : (Jvm.Cond.methodLink "RowPresolveLaw" (17 : Nat) ({ cls := "RowPresolve", name := "row", desc := "(II)I" } : Jvm.MethodName)) ∈ gtbl := gt2 198 rfl rfl
set_option maxRecDepth 20000 in
theorem wk_528 : (Jvm.Cond.classLink "RowPresolveLaw" (25 : Nat) "java/lang/IndexOutOfBoundsException") ∈ gtbl := gt2 208 rfl rfl
set_option maxRecDepth 20000 in
theorem wk_529 : (Jvm.Cond.methodLink "RowPresolveLaw" (21 : Nat) ({ cls := "RowPresolve", name := "term", desc := "(III)V" } : Jvm.MethodName)) ∈ gtbl := gt2 209 rfl rfl
set_option maxRecDepth 20000 in
theorem wk_562 : (Jvm.Cond.methodLink "RowPresolveLaw" (27 : Nat) ({ cls := "RowPresolve", name := "shrink", desc := "(II)I" } : Jvm.MethodName)) ∈ gtbl := gt3 2 rfl rfl
set_option maxRecDepth 20000 in
theorem wk_792 : (Jvm.Cond.methodLink "RowPresolveLaw" (30 : Nat) ({ cls := "RowPresolve", name := "state", desc := "(I)I" } : Jvm.MethodName)) ∈ gtbl := gt3 232 rfl rfl
set_option maxRecDepth 20000 in
theorem wk_804 : (Jvm.Cond.methodLink "RowPresolveLaw" (34 : Nat) ({ cls := "RowPresolve", name := "bound", desc := "(IZ)I" } : Jvm.MethodName)) ∈ gtbl := gt4 4 rfl rfl
set_option maxRecDepth 20000 in
theorem wk_811 : (Jvm.Cond.methodLink "RowPresolveLaw" (38 : Nat) ({ cls := "RowPresolve", name := "cost", desc := "(I)I" } : Jvm.MethodName)) ∈ gtbl := gt4 11 rfl rfl
set_option maxRecDepth 20000 in
theorem wk_819 : (Jvm.Cond.methodLink "RowPresolveLaw" (41 : Nat) ({ cls := "RowPresolve", name := "kind", desc := "(I)I" } : Jvm.MethodName)) ∈ gtbl := gt4 19 rfl rfl
set_option maxRecDepth 20000 in
theorem wk_826 : (Jvm.Cond.methodLink "RowPresolveLaw" (44 : Nat) ({ cls := "RowPresolve", name := "right", desc := "(I)J" } : Jvm.MethodName)) ∈ gtbl := gt4 26 rfl rfl
set_option maxRecDepth 20000 in
theorem wk_833 : (Jvm.Cond.methodLink "RowPresolveLaw" (48 : Nat) ({ cls := "RowPresolve", name := "coefficient", desc := "(II)I" } : Jvm.MethodName)) ∈ gtbl := gt4 33 rfl rfl
set_option maxRecDepth 20000 in
theorem wk_841 : (Jvm.Cond.methodLink "RowPresolveLaw" (51 : Nat) ({ cls := "RowPresolve", name := "offset", desc := "()J" } : Jvm.MethodName)) ∈ gtbl := gt4 41 rfl rfl
set_option maxRecDepth 20000 in
theorem wk_848 : (Jvm.Cond.methodLink "RowPresolveLaw" (55 : Nat) ({ cls := "RowPresolve", name := "rest", desc := "(II)I" } : Jvm.MethodName)) ∈ gtbl := gt4 48 rfl rfl
set_option maxRecDepth 20000 in
theorem wk_856 : (Jvm.Cond.methodLink "RowPresolveLaw" (58 : Nat) ({ cls := "RowPresolve", name := "certificate", desc := "()I" } : Jvm.MethodName)) ∈ gtbl := gt4 56 rfl rfl
set_option maxRecDepth 20000 in
theorem wk_863 : (Jvm.Cond.methodLink "RowPresolveLaw" (62 : Nat) ({ cls := "RowPresolve", name := "certified", desc := "()I" } : Jvm.MethodName)) ∈ gtbl := gt4 63 rfl rfl
set_option maxRecDepth 20000 in
theorem wk_899 : (Jvm.Cond.methodLink "RowPresolveLaw" (65 : Nat) ({ cls := "RowPresolve", name := "acts", desc := "()I" } : Jvm.MethodName)) ∈ gtbl := gt4 99 rfl rfl
set_option maxRecDepth 20000 in
theorem wk_906 : (Jvm.Cond.methodLink "RowPresolveLaw" (68 : Nat) ({ cls := "RowPresolve", name := "act", desc := "(II)J" } : Jvm.MethodName)) ∈ gtbl := gt4 106 rfl rfl
set_option maxRecDepth 20000 in
theorem wk_919 : (Jvm.Cond.methodLink "RowPresolveLaw" (72 : Nat) ({ cls := "RowPresolve", name := "parts", desc := "()I" } : Jvm.MethodName)) ∈ gtbl := gt4 119 rfl rfl
set_option maxRecDepth 20000 in
theorem wk_940 : (Jvm.Cond.methodLink "RowPresolveLaw" (75 : Nat) ({ cls := "RowPresolve", name := "clique", desc := "(I)I" } : Jvm.MethodName)) ∈ gtbl := gt4 140 rfl rfl
set_option maxRecDepth 20000 in
theorem wk_962 : (Jvm.Cond.methodLink "RowPresolveLaw" (78 : Nat) ({ cls := "RowPresolve", name := "cliqueAt", desc := "(II)I" } : Jvm.MethodName)) ∈ gtbl := gt4 162 rfl rfl
set_option maxRecDepth 20000 in
theorem wk_970 : (Jvm.Cond.methodLink "RowPresolveLaw" (81 : Nat) ({ cls := "RowPresolve", name := "same", desc := "(II)Z" } : Jvm.MethodName)) ∈ gtbl := gt4 170 rfl rfl
set_option maxRecDepth 20000 in
theorem wk_981 : (Jvm.Cond.methodLink "RowPresolveLaw" (85 : Nat) ({ cls := "RowPresolve", name := "put", desc := "(II)V" } : Jvm.MethodName)) ∈ gtbl := gt4 181 rfl rfl
set_option maxRecDepth 20000 in
theorem wk_994 : (Jvm.Cond.methodLink "RowPresolveLaw" (89 : Nat) ({ cls := "RowPresolve", name := "back", desc := "()I" } : Jvm.MethodName)) ∈ gtbl := gt4 194 rfl rfl
set_option maxRecDepth 20000 in
theorem wk_1012 : (Jvm.Cond.methodLink "RowPresolveLaw" (92 : Nat) ({ cls := "RowPresolve", name := "at", desc := "(I)I" } : Jvm.MethodName)) ∈ gtbl := gt4 212 rfl rfl
set_option maxRecDepth 20000 in
theorem wk_1024 : (Jvm.Cond.methodLink "RowPresolveLaw" (95 : Nat) ({ cls := "RowPresolve", name := "value", desc := "()J" } : Jvm.MethodName)) ∈ gtbl := gt4 224 rfl rfl
set_option maxRecDepth 20000 in
theorem wk_1031 : (Jvm.Cond.methodLink "RowPresolveLaw" (98 : Nat) ({ cls := "RowPresolve", name := "best", desc := "(Z)I" } : Jvm.MethodName)) ∈ gtbl := gt4 231 rfl rfl
set_option maxRecDepth 20000 in
theorem wk_1044 : (Jvm.Cond.methodLink "RowPresolveLaw" (102 : Nat) ({ cls := "RowPresolve", name := "bestValue", desc := "()J" } : Jvm.MethodName)) ∈ gtbl := gt5 4 rfl rfl
set_option maxRecDepth 20000 in
theorem wk_1056 : (Jvm.Cond.methodLink "RowPresolveLaw" (105 : Nat) ({ cls := "RowPresolve", name := "bestAt", desc := "(I)I" } : Jvm.MethodName)) ∈ gtbl := gt5 16 rfl rfl
theorem dL_column_0 : decode cL_column 0 = .ok (.aload 4, 2) := by decide +kernel
theorem dL_column_2 : decode cL_column 2 = .ok (.iconst 0, 1) := by decide +kernel
theorem dL_column_3 : decode cL_column 3 = .ok (.aload_n 0, 1) := by decide +kernel
theorem dL_column_4 : decode cL_column 4 = .ok (.iload_n 1, 1) := by decide +kernel
theorem dL_column_5 : decode cL_column 5 = .ok (.iload_n 2, 1) := by decide +kernel
theorem dL_column_6 : decode cL_column 6 = .ok (.iload_n 3, 1) := by decide +kernel
theorem dL_column_7 : decode cL_column 7 = .ok (.invokevirtual 7, 3) := by decide +kernel
theorem dL_column_10 : decode cL_column 10 = .ok (.i2l, 1) := by decide +kernel
theorem dL_column_11 : decode cL_column 11 = .ok (.lastore, 1) := by decide +kernel
theorem dL_column_12 : decode cL_column 12 = .ok (.goto 11, 3) := by decide +kernel
theorem dL_column_15 : decode cL_column 15 = .ok (.astore 5, 2) := by decide +kernel
theorem dL_column_17 : decode cL_column 17 = .ok (.iconst 1, 1) := by decide +kernel
theorem dL_column_18 : decode cL_column 18 = .ok (.ireturn, 1) := by decide +kernel
theorem dL_column_19 : decode cL_column 19 = .ok (.astore 5, 2) := by decide +kernel
theorem dL_column_21 : decode cL_column 21 = .ok (.iconst 2, 1) := by decide +kernel
theorem dL_column_22 : decode cL_column 22 = .ok (.ireturn, 1) := by decide +kernel
theorem dL_column_23 : decode cL_column 23 = .ok (.iconst 0, 1) := by decide +kernel
theorem dL_column_24 : decode cL_column 24 = .ok (.ireturn, 1) := by decide +kernel
theorem dL_row_0 : decode cL_row 0 = .ok (.aload_n 3, 1) := by decide +kernel
theorem dL_row_1 : decode cL_row 1 = .ok (.iconst 0, 1) := by decide +kernel
theorem dL_row_2 : decode cL_row 2 = .ok (.aload_n 0, 1) := by decide +kernel
theorem dL_row_3 : decode cL_row 3 = .ok (.iload_n 1, 1) := by decide +kernel
theorem dL_row_4 : decode cL_row 4 = .ok (.iload_n 2, 1) := by decide +kernel
theorem dL_row_5 : decode cL_row 5 = .ok (.invokevirtual 17, 3) := by decide +kernel
theorem dL_row_8 : decode cL_row 8 = .ok (.i2l, 1) := by decide +kernel
theorem dL_row_9 : decode cL_row 9 = .ok (.lastore, 1) := by decide +kernel
theorem dL_row_10 : decode cL_row 10 = .ok (.goto 11, 3) := by decide +kernel
theorem dL_row_13 : decode cL_row 13 = .ok (.astore 4, 2) := by decide +kernel
theorem dL_row_15 : decode cL_row 15 = .ok (.iconst 1, 1) := by decide +kernel
theorem dL_row_16 : decode cL_row 16 = .ok (.ireturn, 1) := by decide +kernel
theorem dL_row_17 : decode cL_row 17 = .ok (.astore 4, 2) := by decide +kernel
theorem dL_row_19 : decode cL_row 19 = .ok (.iconst 2, 1) := by decide +kernel
theorem dL_row_20 : decode cL_row 20 = .ok (.ireturn, 1) := by decide +kernel
theorem dL_row_21 : decode cL_row 21 = .ok (.iconst 0, 1) := by decide +kernel
theorem dL_row_22 : decode cL_row 22 = .ok (.ireturn, 1) := by decide +kernel
theorem dL_term_0 : decode cL_term 0 = .ok (.aload_n 0, 1) := by decide +kernel
theorem dL_term_1 : decode cL_term 1 = .ok (.iload_n 1, 1) := by decide +kernel
theorem dL_term_2 : decode cL_term 2 = .ok (.iload_n 2, 1) := by decide +kernel
theorem dL_term_3 : decode cL_term 3 = .ok (.iload_n 3, 1) := by decide +kernel
theorem dL_term_4 : decode cL_term 4 = .ok (.invokevirtual 21, 3) := by decide +kernel
theorem dL_term_7 : decode cL_term 7 = .ok (.goto 11, 3) := by decide +kernel
theorem dL_term_10 : decode cL_term 10 = .ok (.astore 4, 2) := by decide +kernel
theorem dL_term_12 : decode cL_term 12 = .ok (.iconst 1, 1) := by decide +kernel
theorem dL_term_13 : decode cL_term 13 = .ok (.ireturn, 1) := by decide +kernel
theorem dL_term_14 : decode cL_term 14 = .ok (.astore 4, 2) := by decide +kernel
theorem dL_term_16 : decode cL_term 16 = .ok (.iconst 2, 1) := by decide +kernel
theorem dL_term_17 : decode cL_term 17 = .ok (.ireturn, 1) := by decide +kernel
theorem dL_term_18 : decode cL_term 18 = .ok (.iconst 0, 1) := by decide +kernel
theorem dL_term_19 : decode cL_term 19 = .ok (.ireturn, 1) := by decide +kernel
theorem dL_shrink_0 : decode cL_shrink 0 = .ok (.aload_n 3, 1) := by decide +kernel
theorem dL_shrink_1 : decode cL_shrink 1 = .ok (.iconst 0, 1) := by decide +kernel
theorem dL_shrink_2 : decode cL_shrink 2 = .ok (.aload_n 0, 1) := by decide +kernel
theorem dL_shrink_3 : decode cL_shrink 3 = .ok (.iload_n 1, 1) := by decide +kernel
theorem dL_shrink_4 : decode cL_shrink 4 = .ok (.iload_n 2, 1) := by decide +kernel
theorem dL_shrink_5 : decode cL_shrink 5 = .ok (.invokevirtual 27, 3) := by decide +kernel
theorem dL_shrink_8 : decode cL_shrink 8 = .ok (.i2l, 1) := by decide +kernel
theorem dL_shrink_9 : decode cL_shrink 9 = .ok (.lastore, 1) := by decide +kernel
theorem dL_shrink_10 : decode cL_shrink 10 = .ok (.goto 7, 3) := by decide +kernel
theorem dL_shrink_13 : decode cL_shrink 13 = .ok (.astore 4, 2) := by decide +kernel
theorem dL_shrink_15 : decode cL_shrink 15 = .ok (.iconst 1, 1) := by decide +kernel
theorem dL_shrink_16 : decode cL_shrink 16 = .ok (.ireturn, 1) := by decide +kernel
theorem dL_shrink_17 : decode cL_shrink 17 = .ok (.iconst 0, 1) := by decide +kernel
theorem dL_shrink_18 : decode cL_shrink 18 = .ok (.ireturn, 1) := by decide +kernel
theorem dL_state_0 : decode cL_state 0 = .ok (.aload_n 2, 1) := by decide +kernel
theorem dL_state_1 : decode cL_state 1 = .ok (.iconst 0, 1) := by decide +kernel
theorem dL_state_2 : decode cL_state 2 = .ok (.aload_n 0, 1) := by decide +kernel
theorem dL_state_3 : decode cL_state 3 = .ok (.iload_n 1, 1) := by decide +kernel
theorem dL_state_4 : decode cL_state 4 = .ok (.invokevirtual 30, 3) := by decide +kernel
theorem dL_state_7 : decode cL_state 7 = .ok (.i2l, 1) := by decide +kernel
theorem dL_state_8 : decode cL_state 8 = .ok (.lastore, 1) := by decide +kernel
theorem dL_state_9 : decode cL_state 9 = .ok (.goto 9, 3) := by decide +kernel
theorem dL_state_12 : decode cL_state 12 = .ok (.astore_n 3, 1) := by decide +kernel
theorem dL_state_13 : decode cL_state 13 = .ok (.iconst 1, 1) := by decide +kernel
theorem dL_state_14 : decode cL_state 14 = .ok (.ireturn, 1) := by decide +kernel
theorem dL_state_15 : decode cL_state 15 = .ok (.astore_n 3, 1) := by decide +kernel
theorem dL_state_16 : decode cL_state 16 = .ok (.iconst 2, 1) := by decide +kernel
theorem dL_state_17 : decode cL_state 17 = .ok (.ireturn, 1) := by decide +kernel
theorem dL_state_18 : decode cL_state 18 = .ok (.iconst 0, 1) := by decide +kernel
theorem dL_state_19 : decode cL_state 19 = .ok (.ireturn, 1) := by decide +kernel
theorem dL_bound_0 : decode cL_bound 0 = .ok (.aload_n 3, 1) := by decide +kernel
theorem dL_bound_1 : decode cL_bound 1 = .ok (.iconst 0, 1) := by decide +kernel
theorem dL_bound_2 : decode cL_bound 2 = .ok (.aload_n 0, 1) := by decide +kernel
theorem dL_bound_3 : decode cL_bound 3 = .ok (.iload_n 1, 1) := by decide +kernel
theorem dL_bound_4 : decode cL_bound 4 = .ok (.iload_n 2, 1) := by decide +kernel
theorem dL_bound_5 : decode cL_bound 5 = .ok (.invokevirtual 34, 3) := by decide +kernel
theorem dL_bound_8 : decode cL_bound 8 = .ok (.i2l, 1) := by decide +kernel
theorem dL_bound_9 : decode cL_bound 9 = .ok (.lastore, 1) := by decide +kernel
theorem dL_bound_10 : decode cL_bound 10 = .ok (.goto 11, 3) := by decide +kernel
theorem dL_bound_13 : decode cL_bound 13 = .ok (.astore 4, 2) := by decide +kernel
theorem dL_bound_15 : decode cL_bound 15 = .ok (.iconst 1, 1) := by decide +kernel
theorem dL_bound_16 : decode cL_bound 16 = .ok (.ireturn, 1) := by decide +kernel
theorem dL_bound_17 : decode cL_bound 17 = .ok (.astore 4, 2) := by decide +kernel
theorem dL_bound_19 : decode cL_bound 19 = .ok (.iconst 2, 1) := by decide +kernel
theorem dL_bound_20 : decode cL_bound 20 = .ok (.ireturn, 1) := by decide +kernel
theorem dL_bound_21 : decode cL_bound 21 = .ok (.iconst 0, 1) := by decide +kernel
theorem dL_bound_22 : decode cL_bound 22 = .ok (.ireturn, 1) := by decide +kernel
theorem dL_cost_0 : decode cL_cost 0 = .ok (.aload_n 2, 1) := by decide +kernel
theorem dL_cost_1 : decode cL_cost 1 = .ok (.iconst 0, 1) := by decide +kernel
theorem dL_cost_2 : decode cL_cost 2 = .ok (.aload_n 0, 1) := by decide +kernel
theorem dL_cost_3 : decode cL_cost 3 = .ok (.iload_n 1, 1) := by decide +kernel
theorem dL_cost_4 : decode cL_cost 4 = .ok (.invokevirtual 38, 3) := by decide +kernel
theorem dL_cost_7 : decode cL_cost 7 = .ok (.i2l, 1) := by decide +kernel
theorem dL_cost_8 : decode cL_cost 8 = .ok (.lastore, 1) := by decide +kernel
theorem dL_cost_9 : decode cL_cost 9 = .ok (.goto 9, 3) := by decide +kernel
theorem dL_cost_12 : decode cL_cost 12 = .ok (.astore_n 3, 1) := by decide +kernel
theorem dL_cost_13 : decode cL_cost 13 = .ok (.iconst 1, 1) := by decide +kernel
theorem dL_cost_14 : decode cL_cost 14 = .ok (.ireturn, 1) := by decide +kernel
theorem dL_cost_15 : decode cL_cost 15 = .ok (.astore_n 3, 1) := by decide +kernel
theorem dL_cost_16 : decode cL_cost 16 = .ok (.iconst 2, 1) := by decide +kernel
theorem dL_cost_17 : decode cL_cost 17 = .ok (.ireturn, 1) := by decide +kernel
theorem dL_cost_18 : decode cL_cost 18 = .ok (.iconst 0, 1) := by decide +kernel
theorem dL_cost_19 : decode cL_cost 19 = .ok (.ireturn, 1) := by decide +kernel
theorem dL_kind_0 : decode cL_kind 0 = .ok (.aload_n 2, 1) := by decide +kernel
theorem dL_kind_1 : decode cL_kind 1 = .ok (.iconst 0, 1) := by decide +kernel
theorem dL_kind_2 : decode cL_kind 2 = .ok (.aload_n 0, 1) := by decide +kernel
theorem dL_kind_3 : decode cL_kind 3 = .ok (.iload_n 1, 1) := by decide +kernel
theorem dL_kind_4 : decode cL_kind 4 = .ok (.invokevirtual 41, 3) := by decide +kernel
theorem dL_kind_7 : decode cL_kind 7 = .ok (.i2l, 1) := by decide +kernel
theorem dL_kind_8 : decode cL_kind 8 = .ok (.lastore, 1) := by decide +kernel
theorem dL_kind_9 : decode cL_kind 9 = .ok (.goto 9, 3) := by decide +kernel
theorem dL_kind_12 : decode cL_kind 12 = .ok (.astore_n 3, 1) := by decide +kernel
theorem dL_kind_13 : decode cL_kind 13 = .ok (.iconst 1, 1) := by decide +kernel
theorem dL_kind_14 : decode cL_kind 14 = .ok (.ireturn, 1) := by decide +kernel
theorem dL_kind_15 : decode cL_kind 15 = .ok (.astore_n 3, 1) := by decide +kernel
theorem dL_kind_16 : decode cL_kind 16 = .ok (.iconst 2, 1) := by decide +kernel
theorem dL_kind_17 : decode cL_kind 17 = .ok (.ireturn, 1) := by decide +kernel
theorem dL_kind_18 : decode cL_kind 18 = .ok (.iconst 0, 1) := by decide +kernel
theorem dL_kind_19 : decode cL_kind 19 = .ok (.ireturn, 1) := by decide +kernel
theorem dL_right_0 : decode cL_right 0 = .ok (.aload_n 2, 1) := by decide +kernel
theorem dL_right_1 : decode cL_right 1 = .ok (.iconst 0, 1) := by decide +kernel
theorem dL_right_2 : decode cL_right 2 = .ok (.aload_n 0, 1) := by decide +kernel
theorem dL_right_3 : decode cL_right 3 = .ok (.iload_n 1, 1) := by decide +kernel
theorem dL_right_4 : decode cL_right 4 = .ok (.invokevirtual 44, 3) := by decide +kernel
theorem dL_right_7 : decode cL_right 7 = .ok (.lastore, 1) := by decide +kernel
theorem dL_right_8 : decode cL_right 8 = .ok (.goto 9, 3) := by decide +kernel
theorem dL_right_11 : decode cL_right 11 = .ok (.astore_n 3, 1) := by decide +kernel
theorem dL_right_12 : decode cL_right 12 = .ok (.iconst 1, 1) := by decide +kernel
theorem dL_right_13 : decode cL_right 13 = .ok (.ireturn, 1) := by decide +kernel
theorem dL_right_14 : decode cL_right 14 = .ok (.astore_n 3, 1) := by decide +kernel
theorem dL_right_15 : decode cL_right 15 = .ok (.iconst 2, 1) := by decide +kernel
theorem dL_right_16 : decode cL_right 16 = .ok (.ireturn, 1) := by decide +kernel
theorem dL_right_17 : decode cL_right 17 = .ok (.iconst 0, 1) := by decide +kernel
theorem dL_right_18 : decode cL_right 18 = .ok (.ireturn, 1) := by decide +kernel
theorem dL_coefficient_0 : decode cL_coefficient 0 = .ok (.aload_n 3, 1) := by decide +kernel
theorem dL_coefficient_1 : decode cL_coefficient 1 = .ok (.iconst 0, 1) := by decide +kernel
theorem dL_coefficient_2 : decode cL_coefficient 2 = .ok (.aload_n 0, 1) := by decide +kernel
theorem dL_coefficient_3 : decode cL_coefficient 3 = .ok (.iload_n 1, 1) := by decide +kernel
theorem dL_coefficient_4 : decode cL_coefficient 4 = .ok (.iload_n 2, 1) := by decide +kernel
theorem dL_coefficient_5 : decode cL_coefficient 5 = .ok (.invokevirtual 48, 3) := by decide +kernel
theorem dL_coefficient_8 : decode cL_coefficient 8 = .ok (.i2l, 1) := by decide +kernel
theorem dL_coefficient_9 : decode cL_coefficient 9 = .ok (.lastore, 1) := by decide +kernel
theorem dL_coefficient_10 : decode cL_coefficient 10 = .ok (.goto 11, 3) := by decide +kernel
theorem dL_coefficient_13 : decode cL_coefficient 13 = .ok (.astore 4, 2) := by decide +kernel
theorem dL_coefficient_15 : decode cL_coefficient 15 = .ok (.iconst 1, 1) := by decide +kernel
theorem dL_coefficient_16 : decode cL_coefficient 16 = .ok (.ireturn, 1) := by decide +kernel
theorem dL_coefficient_17 : decode cL_coefficient 17 = .ok (.astore 4, 2) := by decide +kernel
theorem dL_coefficient_19 : decode cL_coefficient 19 = .ok (.iconst 2, 1) := by decide +kernel
theorem dL_coefficient_20 : decode cL_coefficient 20 = .ok (.ireturn, 1) := by decide +kernel
theorem dL_coefficient_21 : decode cL_coefficient 21 = .ok (.iconst 0, 1) := by decide +kernel
theorem dL_coefficient_22 : decode cL_coefficient 22 = .ok (.ireturn, 1) := by decide +kernel
theorem dL_offset_0 : decode cL_offset 0 = .ok (.aload_n 1, 1) := by decide +kernel
theorem dL_offset_1 : decode cL_offset 1 = .ok (.iconst 0, 1) := by decide +kernel
theorem dL_offset_2 : decode cL_offset 2 = .ok (.aload_n 0, 1) := by decide +kernel
theorem dL_offset_3 : decode cL_offset 3 = .ok (.invokevirtual 51, 3) := by decide +kernel
theorem dL_offset_6 : decode cL_offset 6 = .ok (.lastore, 1) := by decide +kernel
theorem dL_offset_7 : decode cL_offset 7 = .ok (.goto 6, 3) := by decide +kernel
theorem dL_offset_10 : decode cL_offset 10 = .ok (.astore_n 2, 1) := by decide +kernel
theorem dL_offset_11 : decode cL_offset 11 = .ok (.iconst 1, 1) := by decide +kernel
theorem dL_offset_12 : decode cL_offset 12 = .ok (.ireturn, 1) := by decide +kernel
theorem dL_offset_13 : decode cL_offset 13 = .ok (.iconst 0, 1) := by decide +kernel
theorem dL_offset_14 : decode cL_offset 14 = .ok (.ireturn, 1) := by decide +kernel
theorem dL_rest_0 : decode cL_rest 0 = .ok (.aload_n 3, 1) := by decide +kernel
theorem dL_rest_1 : decode cL_rest 1 = .ok (.iconst 0, 1) := by decide +kernel
theorem dL_rest_2 : decode cL_rest 2 = .ok (.aload_n 0, 1) := by decide +kernel
theorem dL_rest_3 : decode cL_rest 3 = .ok (.iload_n 1, 1) := by decide +kernel
theorem dL_rest_4 : decode cL_rest 4 = .ok (.iload_n 2, 1) := by decide +kernel
theorem dL_rest_5 : decode cL_rest 5 = .ok (.invokevirtual 55, 3) := by decide +kernel
theorem dL_rest_8 : decode cL_rest 8 = .ok (.i2l, 1) := by decide +kernel
theorem dL_rest_9 : decode cL_rest 9 = .ok (.lastore, 1) := by decide +kernel
theorem dL_rest_10 : decode cL_rest 10 = .ok (.goto 15, 3) := by decide +kernel
theorem dL_rest_13 : decode cL_rest 13 = .ok (.astore 4, 2) := by decide +kernel
theorem dL_rest_15 : decode cL_rest 15 = .ok (.iconst 1, 1) := by decide +kernel
theorem dL_rest_16 : decode cL_rest 16 = .ok (.ireturn, 1) := by decide +kernel
theorem dL_rest_17 : decode cL_rest 17 = .ok (.astore 4, 2) := by decide +kernel
theorem dL_rest_19 : decode cL_rest 19 = .ok (.iconst 2, 1) := by decide +kernel
theorem dL_rest_20 : decode cL_rest 20 = .ok (.ireturn, 1) := by decide +kernel
theorem dL_rest_21 : decode cL_rest 21 = .ok (.astore 4, 2) := by decide +kernel
theorem dL_rest_23 : decode cL_rest 23 = .ok (.iconst 3, 1) := by decide +kernel
theorem dL_rest_24 : decode cL_rest 24 = .ok (.ireturn, 1) := by decide +kernel
theorem dL_rest_25 : decode cL_rest 25 = .ok (.iconst 0, 1) := by decide +kernel
theorem dL_rest_26 : decode cL_rest 26 = .ok (.ireturn, 1) := by decide +kernel
theorem dL_certificate_0 : decode cL_certificate 0 = .ok (.aload_n 1, 1) := by decide +kernel
theorem dL_certificate_1 : decode cL_certificate 1 = .ok (.iconst 0, 1) := by decide +kernel
theorem dL_certificate_2 : decode cL_certificate 2 = .ok (.aload_n 0, 1) := by decide +kernel
theorem dL_certificate_3 : decode cL_certificate 3 = .ok (.invokevirtual 58, 3) := by decide +kernel
theorem dL_certificate_6 : decode cL_certificate 6 = .ok (.i2l, 1) := by decide +kernel
theorem dL_certificate_7 : decode cL_certificate 7 = .ok (.lastore, 1) := by decide +kernel
theorem dL_certificate_8 : decode cL_certificate 8 = .ok (.goto 6, 3) := by decide +kernel
theorem dL_certificate_11 : decode cL_certificate 11 = .ok (.astore_n 2, 1) := by decide +kernel
theorem dL_certificate_12 : decode cL_certificate 12 = .ok (.iconst 1, 1) := by decide +kernel
theorem dL_certificate_13 : decode cL_certificate 13 = .ok (.ireturn, 1) := by decide +kernel
theorem dL_certificate_14 : decode cL_certificate 14 = .ok (.iconst 0, 1) := by decide +kernel
theorem dL_certificate_15 : decode cL_certificate 15 = .ok (.ireturn, 1) := by decide +kernel
theorem dL_certified_0 : decode cL_certified 0 = .ok (.aload_n 1, 1) := by decide +kernel
theorem dL_certified_1 : decode cL_certified 1 = .ok (.iconst 0, 1) := by decide +kernel
theorem dL_certified_2 : decode cL_certified 2 = .ok (.aload_n 0, 1) := by decide +kernel
theorem dL_certified_3 : decode cL_certified 3 = .ok (.invokevirtual 62, 3) := by decide +kernel
theorem dL_certified_6 : decode cL_certified 6 = .ok (.i2l, 1) := by decide +kernel
theorem dL_certified_7 : decode cL_certified 7 = .ok (.lastore, 1) := by decide +kernel
theorem dL_certified_8 : decode cL_certified 8 = .ok (.goto 6, 3) := by decide +kernel
theorem dL_certified_11 : decode cL_certified 11 = .ok (.astore_n 2, 1) := by decide +kernel
theorem dL_certified_12 : decode cL_certified 12 = .ok (.iconst 1, 1) := by decide +kernel
theorem dL_certified_13 : decode cL_certified 13 = .ok (.ireturn, 1) := by decide +kernel
theorem dL_certified_14 : decode cL_certified 14 = .ok (.iconst 0, 1) := by decide +kernel
theorem dL_certified_15 : decode cL_certified 15 = .ok (.ireturn, 1) := by decide +kernel
theorem dL_acts_0 : decode cL_acts 0 = .ok (.aload_n 1, 1) := by decide +kernel
theorem dL_acts_1 : decode cL_acts 1 = .ok (.iconst 0, 1) := by decide +kernel
theorem dL_acts_2 : decode cL_acts 2 = .ok (.aload_n 0, 1) := by decide +kernel
theorem dL_acts_3 : decode cL_acts 3 = .ok (.invokevirtual 65, 3) := by decide +kernel
theorem dL_acts_6 : decode cL_acts 6 = .ok (.i2l, 1) := by decide +kernel
theorem dL_acts_7 : decode cL_acts 7 = .ok (.lastore, 1) := by decide +kernel
theorem dL_acts_8 : decode cL_acts 8 = .ok (.goto 6, 3) := by decide +kernel
theorem dL_acts_11 : decode cL_acts 11 = .ok (.astore_n 2, 1) := by decide +kernel
theorem dL_acts_12 : decode cL_acts 12 = .ok (.iconst 1, 1) := by decide +kernel
theorem dL_acts_13 : decode cL_acts 13 = .ok (.ireturn, 1) := by decide +kernel
theorem dL_acts_14 : decode cL_acts 14 = .ok (.iconst 0, 1) := by decide +kernel
theorem dL_acts_15 : decode cL_acts 15 = .ok (.ireturn, 1) := by decide +kernel
theorem dL_act_0 : decode cL_act 0 = .ok (.aload_n 3, 1) := by decide +kernel
theorem dL_act_1 : decode cL_act 1 = .ok (.iconst 0, 1) := by decide +kernel
theorem dL_act_2 : decode cL_act 2 = .ok (.aload_n 0, 1) := by decide +kernel
theorem dL_act_3 : decode cL_act 3 = .ok (.iload_n 1, 1) := by decide +kernel
theorem dL_act_4 : decode cL_act 4 = .ok (.iload_n 2, 1) := by decide +kernel
theorem dL_act_5 : decode cL_act 5 = .ok (.invokevirtual 68, 3) := by decide +kernel
theorem dL_act_8 : decode cL_act 8 = .ok (.lastore, 1) := by decide +kernel
theorem dL_act_9 : decode cL_act 9 = .ok (.goto 15, 3) := by decide +kernel
theorem dL_act_12 : decode cL_act 12 = .ok (.astore 4, 2) := by decide +kernel
theorem dL_act_14 : decode cL_act 14 = .ok (.iconst 1, 1) := by decide +kernel
theorem dL_act_15 : decode cL_act 15 = .ok (.ireturn, 1) := by decide +kernel
theorem dL_act_16 : decode cL_act 16 = .ok (.astore 4, 2) := by decide +kernel
theorem dL_act_18 : decode cL_act 18 = .ok (.iconst 2, 1) := by decide +kernel
theorem dL_act_19 : decode cL_act 19 = .ok (.ireturn, 1) := by decide +kernel
theorem dL_act_20 : decode cL_act 20 = .ok (.astore 4, 2) := by decide +kernel
theorem dL_act_22 : decode cL_act 22 = .ok (.iconst 3, 1) := by decide +kernel
theorem dL_act_23 : decode cL_act 23 = .ok (.ireturn, 1) := by decide +kernel
theorem dL_act_24 : decode cL_act 24 = .ok (.iconst 0, 1) := by decide +kernel
theorem dL_act_25 : decode cL_act 25 = .ok (.ireturn, 1) := by decide +kernel
theorem dL_parts_0 : decode cL_parts 0 = .ok (.aload_n 1, 1) := by decide +kernel
theorem dL_parts_1 : decode cL_parts 1 = .ok (.iconst 0, 1) := by decide +kernel
theorem dL_parts_2 : decode cL_parts 2 = .ok (.aload_n 0, 1) := by decide +kernel
theorem dL_parts_3 : decode cL_parts 3 = .ok (.invokevirtual 72, 3) := by decide +kernel
theorem dL_parts_6 : decode cL_parts 6 = .ok (.i2l, 1) := by decide +kernel
theorem dL_parts_7 : decode cL_parts 7 = .ok (.lastore, 1) := by decide +kernel
theorem dL_parts_8 : decode cL_parts 8 = .ok (.goto 6, 3) := by decide +kernel
theorem dL_parts_11 : decode cL_parts 11 = .ok (.astore_n 2, 1) := by decide +kernel
theorem dL_parts_12 : decode cL_parts 12 = .ok (.iconst 1, 1) := by decide +kernel
theorem dL_parts_13 : decode cL_parts 13 = .ok (.ireturn, 1) := by decide +kernel
theorem dL_parts_14 : decode cL_parts 14 = .ok (.iconst 0, 1) := by decide +kernel
theorem dL_parts_15 : decode cL_parts 15 = .ok (.ireturn, 1) := by decide +kernel
theorem dL_clique_0 : decode cL_clique 0 = .ok (.aload_n 2, 1) := by decide +kernel
theorem dL_clique_1 : decode cL_clique 1 = .ok (.iconst 0, 1) := by decide +kernel
theorem dL_clique_2 : decode cL_clique 2 = .ok (.aload_n 0, 1) := by decide +kernel
theorem dL_clique_3 : decode cL_clique 3 = .ok (.iload_n 1, 1) := by decide +kernel
theorem dL_clique_4 : decode cL_clique 4 = .ok (.invokevirtual 75, 3) := by decide +kernel
theorem dL_clique_7 : decode cL_clique 7 = .ok (.i2l, 1) := by decide +kernel
theorem dL_clique_8 : decode cL_clique 8 = .ok (.lastore, 1) := by decide +kernel
theorem dL_clique_9 : decode cL_clique 9 = .ok (.goto 9, 3) := by decide +kernel
theorem dL_clique_12 : decode cL_clique 12 = .ok (.astore_n 3, 1) := by decide +kernel
theorem dL_clique_13 : decode cL_clique 13 = .ok (.iconst 1, 1) := by decide +kernel
theorem dL_clique_14 : decode cL_clique 14 = .ok (.ireturn, 1) := by decide +kernel
theorem dL_clique_15 : decode cL_clique 15 = .ok (.astore_n 3, 1) := by decide +kernel
theorem dL_clique_16 : decode cL_clique 16 = .ok (.iconst 2, 1) := by decide +kernel
theorem dL_clique_17 : decode cL_clique 17 = .ok (.ireturn, 1) := by decide +kernel
theorem dL_clique_18 : decode cL_clique 18 = .ok (.iconst 0, 1) := by decide +kernel
theorem dL_clique_19 : decode cL_clique 19 = .ok (.ireturn, 1) := by decide +kernel
theorem dL_cliqueAt_0 : decode cL_cliqueAt 0 = .ok (.aload_n 3, 1) := by decide +kernel
theorem dL_cliqueAt_1 : decode cL_cliqueAt 1 = .ok (.iconst 0, 1) := by decide +kernel
theorem dL_cliqueAt_2 : decode cL_cliqueAt 2 = .ok (.aload_n 0, 1) := by decide +kernel
theorem dL_cliqueAt_3 : decode cL_cliqueAt 3 = .ok (.iload_n 1, 1) := by decide +kernel
theorem dL_cliqueAt_4 : decode cL_cliqueAt 4 = .ok (.iload_n 2, 1) := by decide +kernel
theorem dL_cliqueAt_5 : decode cL_cliqueAt 5 = .ok (.invokevirtual 78, 3) := by decide +kernel
theorem dL_cliqueAt_8 : decode cL_cliqueAt 8 = .ok (.i2l, 1) := by decide +kernel
theorem dL_cliqueAt_9 : decode cL_cliqueAt 9 = .ok (.lastore, 1) := by decide +kernel
theorem dL_cliqueAt_10 : decode cL_cliqueAt 10 = .ok (.goto 11, 3) := by decide +kernel
theorem dL_cliqueAt_13 : decode cL_cliqueAt 13 = .ok (.astore 4, 2) := by decide +kernel
theorem dL_cliqueAt_15 : decode cL_cliqueAt 15 = .ok (.iconst 1, 1) := by decide +kernel
theorem dL_cliqueAt_16 : decode cL_cliqueAt 16 = .ok (.ireturn, 1) := by decide +kernel
theorem dL_cliqueAt_17 : decode cL_cliqueAt 17 = .ok (.astore 4, 2) := by decide +kernel
theorem dL_cliqueAt_19 : decode cL_cliqueAt 19 = .ok (.iconst 2, 1) := by decide +kernel
theorem dL_cliqueAt_20 : decode cL_cliqueAt 20 = .ok (.ireturn, 1) := by decide +kernel
theorem dL_cliqueAt_21 : decode cL_cliqueAt 21 = .ok (.iconst 0, 1) := by decide +kernel
theorem dL_cliqueAt_22 : decode cL_cliqueAt 22 = .ok (.ireturn, 1) := by decide +kernel
theorem dL_same_0 : decode cL_same 0 = .ok (.aload_n 3, 1) := by decide +kernel
theorem dL_same_1 : decode cL_same 1 = .ok (.iconst 0, 1) := by decide +kernel
theorem dL_same_2 : decode cL_same 2 = .ok (.aload_n 0, 1) := by decide +kernel
theorem dL_same_3 : decode cL_same 3 = .ok (.iload_n 1, 1) := by decide +kernel
theorem dL_same_4 : decode cL_same 4 = .ok (.iload_n 2, 1) := by decide +kernel
theorem dL_same_5 : decode cL_same 5 = .ok (.invokevirtual 81, 3) := by decide +kernel
theorem dL_same_8 : decode cL_same 8 = .ok (.ifCond .eq 7, 3) := by decide +kernel
theorem dL_same_11 : decode cL_same 11 = .ok (.lconst 1, 1) := by decide +kernel
theorem dL_same_12 : decode cL_same 12 = .ok (.goto 4, 3) := by decide +kernel
theorem dL_same_15 : decode cL_same 15 = .ok (.lconst 0, 1) := by decide +kernel
theorem dL_same_16 : decode cL_same 16 = .ok (.lastore, 1) := by decide +kernel
theorem dL_same_17 : decode cL_same 17 = .ok (.goto 11, 3) := by decide +kernel
theorem dL_same_20 : decode cL_same 20 = .ok (.astore 4, 2) := by decide +kernel
theorem dL_same_22 : decode cL_same 22 = .ok (.iconst 1, 1) := by decide +kernel
theorem dL_same_23 : decode cL_same 23 = .ok (.ireturn, 1) := by decide +kernel
theorem dL_same_24 : decode cL_same 24 = .ok (.astore 4, 2) := by decide +kernel
theorem dL_same_26 : decode cL_same 26 = .ok (.iconst 2, 1) := by decide +kernel
theorem dL_same_27 : decode cL_same 27 = .ok (.ireturn, 1) := by decide +kernel
theorem dL_same_28 : decode cL_same 28 = .ok (.iconst 0, 1) := by decide +kernel
theorem dL_same_29 : decode cL_same 29 = .ok (.ireturn, 1) := by decide +kernel
theorem dL_put_0 : decode cL_put 0 = .ok (.aload_n 0, 1) := by decide +kernel
theorem dL_put_1 : decode cL_put 1 = .ok (.iload_n 1, 1) := by decide +kernel
theorem dL_put_2 : decode cL_put 2 = .ok (.iload_n 2, 1) := by decide +kernel
theorem dL_put_3 : decode cL_put 3 = .ok (.invokevirtual 85, 3) := by decide +kernel
theorem dL_put_6 : decode cL_put 6 = .ok (.goto 12, 3) := by decide +kernel
theorem dL_put_9 : decode cL_put 9 = .ok (.astore_n 3, 1) := by decide +kernel
theorem dL_put_10 : decode cL_put 10 = .ok (.iconst 1, 1) := by decide +kernel
theorem dL_put_11 : decode cL_put 11 = .ok (.ireturn, 1) := by decide +kernel
theorem dL_put_12 : decode cL_put 12 = .ok (.astore_n 3, 1) := by decide +kernel
theorem dL_put_13 : decode cL_put 13 = .ok (.iconst 2, 1) := by decide +kernel
theorem dL_put_14 : decode cL_put 14 = .ok (.ireturn, 1) := by decide +kernel
theorem dL_put_15 : decode cL_put 15 = .ok (.astore_n 3, 1) := by decide +kernel
theorem dL_put_16 : decode cL_put 16 = .ok (.iconst 3, 1) := by decide +kernel
theorem dL_put_17 : decode cL_put 17 = .ok (.ireturn, 1) := by decide +kernel
theorem dL_put_18 : decode cL_put 18 = .ok (.iconst 0, 1) := by decide +kernel
theorem dL_put_19 : decode cL_put 19 = .ok (.ireturn, 1) := by decide +kernel
theorem dL_back_0 : decode cL_back 0 = .ok (.aload_n 1, 1) := by decide +kernel
theorem dL_back_1 : decode cL_back 1 = .ok (.iconst 0, 1) := by decide +kernel
theorem dL_back_2 : decode cL_back 2 = .ok (.aload_n 0, 1) := by decide +kernel
theorem dL_back_3 : decode cL_back 3 = .ok (.invokevirtual 89, 3) := by decide +kernel
theorem dL_back_6 : decode cL_back 6 = .ok (.i2l, 1) := by decide +kernel
theorem dL_back_7 : decode cL_back 7 = .ok (.lastore, 1) := by decide +kernel
theorem dL_back_8 : decode cL_back 8 = .ok (.goto 6, 3) := by decide +kernel
theorem dL_back_11 : decode cL_back 11 = .ok (.astore_n 2, 1) := by decide +kernel
theorem dL_back_12 : decode cL_back 12 = .ok (.iconst 1, 1) := by decide +kernel
theorem dL_back_13 : decode cL_back 13 = .ok (.ireturn, 1) := by decide +kernel
theorem dL_back_14 : decode cL_back 14 = .ok (.iconst 0, 1) := by decide +kernel
theorem dL_back_15 : decode cL_back 15 = .ok (.ireturn, 1) := by decide +kernel
theorem dL_at_0 : decode cL_at 0 = .ok (.aload_n 2, 1) := by decide +kernel
theorem dL_at_1 : decode cL_at 1 = .ok (.iconst 0, 1) := by decide +kernel
theorem dL_at_2 : decode cL_at 2 = .ok (.aload_n 0, 1) := by decide +kernel
theorem dL_at_3 : decode cL_at 3 = .ok (.iload_n 1, 1) := by decide +kernel
theorem dL_at_4 : decode cL_at 4 = .ok (.invokevirtual 92, 3) := by decide +kernel
theorem dL_at_7 : decode cL_at 7 = .ok (.i2l, 1) := by decide +kernel
theorem dL_at_8 : decode cL_at 8 = .ok (.lastore, 1) := by decide +kernel
theorem dL_at_9 : decode cL_at 9 = .ok (.goto 9, 3) := by decide +kernel
theorem dL_at_12 : decode cL_at 12 = .ok (.astore_n 3, 1) := by decide +kernel
theorem dL_at_13 : decode cL_at 13 = .ok (.iconst 1, 1) := by decide +kernel
theorem dL_at_14 : decode cL_at 14 = .ok (.ireturn, 1) := by decide +kernel
theorem dL_at_15 : decode cL_at 15 = .ok (.astore_n 3, 1) := by decide +kernel
theorem dL_at_16 : decode cL_at 16 = .ok (.iconst 2, 1) := by decide +kernel
theorem dL_at_17 : decode cL_at 17 = .ok (.ireturn, 1) := by decide +kernel
theorem dL_at_18 : decode cL_at 18 = .ok (.iconst 0, 1) := by decide +kernel
theorem dL_at_19 : decode cL_at 19 = .ok (.ireturn, 1) := by decide +kernel
theorem dL_value_0 : decode cL_value 0 = .ok (.aload_n 1, 1) := by decide +kernel
theorem dL_value_1 : decode cL_value 1 = .ok (.iconst 0, 1) := by decide +kernel
theorem dL_value_2 : decode cL_value 2 = .ok (.aload_n 0, 1) := by decide +kernel
theorem dL_value_3 : decode cL_value 3 = .ok (.invokevirtual 95, 3) := by decide +kernel
theorem dL_value_6 : decode cL_value 6 = .ok (.lastore, 1) := by decide +kernel
theorem dL_value_7 : decode cL_value 7 = .ok (.goto 6, 3) := by decide +kernel
theorem dL_value_10 : decode cL_value 10 = .ok (.astore_n 2, 1) := by decide +kernel
theorem dL_value_11 : decode cL_value 11 = .ok (.iconst 1, 1) := by decide +kernel
theorem dL_value_12 : decode cL_value 12 = .ok (.ireturn, 1) := by decide +kernel
theorem dL_value_13 : decode cL_value 13 = .ok (.iconst 0, 1) := by decide +kernel
theorem dL_value_14 : decode cL_value 14 = .ok (.ireturn, 1) := by decide +kernel
theorem dL_best_0 : decode cL_best 0 = .ok (.aload_n 2, 1) := by decide +kernel
theorem dL_best_1 : decode cL_best 1 = .ok (.iconst 0, 1) := by decide +kernel
theorem dL_best_2 : decode cL_best 2 = .ok (.aload_n 0, 1) := by decide +kernel
theorem dL_best_3 : decode cL_best 3 = .ok (.iload_n 1, 1) := by decide +kernel
theorem dL_best_4 : decode cL_best 4 = .ok (.invokevirtual 98, 3) := by decide +kernel
theorem dL_best_7 : decode cL_best 7 = .ok (.i2l, 1) := by decide +kernel
theorem dL_best_8 : decode cL_best 8 = .ok (.lastore, 1) := by decide +kernel
theorem dL_best_9 : decode cL_best 9 = .ok (.goto 6, 3) := by decide +kernel
theorem dL_best_12 : decode cL_best 12 = .ok (.astore_n 3, 1) := by decide +kernel
theorem dL_best_13 : decode cL_best 13 = .ok (.iconst 1, 1) := by decide +kernel
theorem dL_best_14 : decode cL_best 14 = .ok (.ireturn, 1) := by decide +kernel
theorem dL_best_15 : decode cL_best 15 = .ok (.iconst 0, 1) := by decide +kernel
theorem dL_best_16 : decode cL_best 16 = .ok (.ireturn, 1) := by decide +kernel
theorem dL_bestValue_0 : decode cL_bestValue 0 = .ok (.aload_n 1, 1) := by decide +kernel
theorem dL_bestValue_1 : decode cL_bestValue 1 = .ok (.iconst 0, 1) := by decide +kernel
theorem dL_bestValue_2 : decode cL_bestValue 2 = .ok (.aload_n 0, 1) := by decide +kernel
theorem dL_bestValue_3 : decode cL_bestValue 3 = .ok (.invokevirtual 102, 3) := by decide +kernel
theorem dL_bestValue_6 : decode cL_bestValue 6 = .ok (.lastore, 1) := by decide +kernel
theorem dL_bestValue_7 : decode cL_bestValue 7 = .ok (.goto 6, 3) := by decide +kernel
theorem dL_bestValue_10 : decode cL_bestValue 10 = .ok (.astore_n 2, 1) := by decide +kernel
theorem dL_bestValue_11 : decode cL_bestValue 11 = .ok (.iconst 1, 1) := by decide +kernel
theorem dL_bestValue_12 : decode cL_bestValue 12 = .ok (.ireturn, 1) := by decide +kernel
theorem dL_bestValue_13 : decode cL_bestValue 13 = .ok (.iconst 0, 1) := by decide +kernel
theorem dL_bestValue_14 : decode cL_bestValue 14 = .ok (.ireturn, 1) := by decide +kernel
theorem dL_bestAt_0 : decode cL_bestAt 0 = .ok (.aload_n 2, 1) := by decide +kernel
theorem dL_bestAt_1 : decode cL_bestAt 1 = .ok (.iconst 0, 1) := by decide +kernel
theorem dL_bestAt_2 : decode cL_bestAt 2 = .ok (.aload_n 0, 1) := by decide +kernel
theorem dL_bestAt_3 : decode cL_bestAt 3 = .ok (.iload_n 1, 1) := by decide +kernel
theorem dL_bestAt_4 : decode cL_bestAt 4 = .ok (.invokevirtual 105, 3) := by decide +kernel
theorem dL_bestAt_7 : decode cL_bestAt 7 = .ok (.i2l, 1) := by decide +kernel
theorem dL_bestAt_8 : decode cL_bestAt 8 = .ok (.lastore, 1) := by decide +kernel
theorem dL_bestAt_9 : decode cL_bestAt 9 = .ok (.goto 9, 3) := by decide +kernel
theorem dL_bestAt_12 : decode cL_bestAt 12 = .ok (.astore_n 3, 1) := by decide +kernel
theorem dL_bestAt_13 : decode cL_bestAt 13 = .ok (.iconst 1, 1) := by decide +kernel
theorem dL_bestAt_14 : decode cL_bestAt 14 = .ok (.ireturn, 1) := by decide +kernel
theorem dL_bestAt_15 : decode cL_bestAt 15 = .ok (.astore_n 3, 1) := by decide +kernel
theorem dL_bestAt_16 : decode cL_bestAt 16 = .ok (.iconst 2, 1) := by decide +kernel
theorem dL_bestAt_17 : decode cL_bestAt 17 = .ok (.ireturn, 1) := by decide +kernel
theorem dL_bestAt_18 : decode cL_bestAt 18 = .ok (.iconst 0, 1) := by decide +kernel
theorem dL_bestAt_19 : decode cL_bestAt 19 = .ok (.ireturn, 1) := by decide +kernel
def L_column (w : LW) (a0 : Int32) (a1 : Int32) (a2 : Int32) : Option (Int32 × LW) := ((X8_column w.1 a0 a1 a2).bind (fun r7 : (String × CW) ⊕ (Int32 × CW) => Sum.elim (fun x7 : String × CW => (if x7.1 = "java/lang/IllegalStateException" then (some (1, (x7.2, w.2))) else (if x7.1 = "java/lang/IllegalArgumentException" then (some (2, (x7.2, w.2))) else none))) (fun r7 : Int32 × CW => (if inR 0 1 = true then (bnd ((r7.2, w.2).1, vp_updL (r7.2, w.2).2 (0 : Int32).toNatClampNeg r7.1.toInt64) (fun w11 : LW => (some (0, w11)))) else none)) r7))
def L_row (w : LW) (a0 : Int32) (a1 : Int32) : Option (Int32 × LW) := ((X8_row w.1 a0 a1).bind (fun r5 : (String × CW) ⊕ (Int32 × CW) => Sum.elim (fun x5 : String × CW => (if x5.1 = "java/lang/IllegalStateException" then (some (1, (x5.2, w.2))) else (if x5.1 = "java/lang/IllegalArgumentException" then (some (2, (x5.2, w.2))) else none))) (fun r5 : Int32 × CW => (if inR 0 1 = true then (bnd ((r5.2, w.2).1, vp_updL (r5.2, w.2).2 (0 : Int32).toNatClampNeg r5.1.toInt64) (fun w9 : LW => (some (0, w9)))) else none)) r5))
def L_term (w : LW) (a0 : Int32) (a1 : Int32) (a2 : Int32) : Option (Int32 × LW) := ((X8_term w.1 a0 a1 a2).bind (fun r4 : (String × CW) ⊕ (CW) => Sum.elim (fun x4 : String × CW => (if x4.1 = "java/lang/IndexOutOfBoundsException" then (some (1, (x4.2, w.2))) else (if x4.1 = "java/lang/IllegalArgumentException" then (some (2, (x4.2, w.2))) else none))) (fun r4 : CW => (some (0, (r4, w.2)))) r4))
def L_shrink (w : LW) (a0 : Int32) (a1 : Int32) : Option (Int32 × LW) := ((X8_shrink w.1 a0 a1).bind (fun r5 : (String × CW) ⊕ (Int32 × CW) => Sum.elim (fun x5 : String × CW => (if x5.1 = "java/lang/IllegalArgumentException" then (some (1, (x5.2, w.2))) else none)) (fun r5 : Int32 × CW => (if inR 0 1 = true then (bnd ((r5.2, w.2).1, vp_updL (r5.2, w.2).2 (0 : Int32).toNatClampNeg r5.1.toInt64) (fun w9 : LW => (some (0, w9)))) else none)) r5))
def L_state (w : LW) (a0 : Int32) : Option (Int32 × LW) := ((X8_state w.1 a0).bind (fun r4 : (String × CW) ⊕ (Int32) => Sum.elim (fun x4 : String × CW => (if x4.1 = "java/lang/IllegalStateException" then (some (1, (x4.2, w.2))) else (if x4.1 = "java/lang/IndexOutOfBoundsException" then (some (2, (x4.2, w.2))) else none))) (fun r4 : Int32 => (if inR 0 1 = true then (bnd ((w.1, w.2).1, vp_updL (w.1, w.2).2 (0 : Int32).toNatClampNeg r4.toInt64) (fun w8 : LW => (some (0, w8)))) else none)) r4))
def L_bound (w : LW) (a0 : Int32) (a1 : Int32) : Option (Int32 × LW) := ((X8_bound w.1 a0 a1).bind (fun r5 : (String × CW) ⊕ (Int32) => Sum.elim (fun x5 : String × CW => (if x5.1 = "java/lang/IllegalStateException" then (some (1, (x5.2, w.2))) else (if x5.1 = "java/lang/IndexOutOfBoundsException" then (some (2, (x5.2, w.2))) else none))) (fun r5 : Int32 => (if inR 0 1 = true then (bnd ((w.1, w.2).1, vp_updL (w.1, w.2).2 (0 : Int32).toNatClampNeg r5.toInt64) (fun w9 : LW => (some (0, w9)))) else none)) r5))
def L_cost (w : LW) (a0 : Int32) : Option (Int32 × LW) := ((X8_cost w.1 a0).bind (fun r4 : (String × CW) ⊕ (Int32) => Sum.elim (fun x4 : String × CW => (if x4.1 = "java/lang/IllegalStateException" then (some (1, (x4.2, w.2))) else (if x4.1 = "java/lang/IndexOutOfBoundsException" then (some (2, (x4.2, w.2))) else none))) (fun r4 : Int32 => (if inR 0 1 = true then (bnd ((w.1, w.2).1, vp_updL (w.1, w.2).2 (0 : Int32).toNatClampNeg r4.toInt64) (fun w8 : LW => (some (0, w8)))) else none)) r4))
def L_kind (w : LW) (a0 : Int32) : Option (Int32 × LW) := ((X8_kind w.1 a0).bind (fun r4 : (String × CW) ⊕ (Int32) => Sum.elim (fun x4 : String × CW => (if x4.1 = "java/lang/IllegalStateException" then (some (1, (x4.2, w.2))) else (if x4.1 = "java/lang/IndexOutOfBoundsException" then (some (2, (x4.2, w.2))) else none))) (fun r4 : Int32 => (if inR 0 1 = true then (bnd ((w.1, w.2).1, vp_updL (w.1, w.2).2 (0 : Int32).toNatClampNeg r4.toInt64) (fun w8 : LW => (some (0, w8)))) else none)) r4))
def L_right (w : LW) (a0 : Int32) : Option (Int32 × LW) := ((X8_right w.1 a0).bind (fun r4 : (String × CW) ⊕ (Int64) => Sum.elim (fun x4 : String × CW => (if x4.1 = "java/lang/IllegalStateException" then (some (1, (x4.2, w.2))) else (if x4.1 = "java/lang/IndexOutOfBoundsException" then (some (2, (x4.2, w.2))) else none))) (fun r4 : Int64 => (if inR 0 1 = true then (bnd ((w.1, w.2).1, vp_updL (w.1, w.2).2 (0 : Int32).toNatClampNeg r4) (fun w7 : LW => (some (0, w7)))) else none)) r4))
def L_coefficient (w : LW) (a0 : Int32) (a1 : Int32) : Option (Int32 × LW) := ((X8_coefficient w.1 a0 a1).bind (fun r5 : (String × CW) ⊕ (Int32) => Sum.elim (fun x5 : String × CW => (if x5.1 = "java/lang/IllegalStateException" then (some (1, (x5.2, w.2))) else (if x5.1 = "java/lang/IndexOutOfBoundsException" then (some (2, (x5.2, w.2))) else none))) (fun r5 : Int32 => (if inR 0 1 = true then (bnd ((w.1, w.2).1, vp_updL (w.1, w.2).2 (0 : Int32).toNatClampNeg r5.toInt64) (fun w9 : LW => (some (0, w9)))) else none)) r5))
def L_offset (w : LW) : Option (Int32 × LW) := ((X8_offset w.1 ).bind (fun r3 : (String × CW) ⊕ (Int64) => Sum.elim (fun x3 : String × CW => (if x3.1 = "java/lang/IllegalStateException" then (some (1, (x3.2, w.2))) else none)) (fun r3 : Int64 => (if inR 0 1 = true then (bnd ((w.1, w.2).1, vp_updL (w.1, w.2).2 (0 : Int32).toNatClampNeg r3) (fun w6 : LW => (some (0, w6)))) else none)) r3))
def L_rest (w : LW) (a0 : Int32) (a1 : Int32) : Option (Int32 × LW) := ((X8_rest w.1 a0 a1).bind (fun r5 : (String × CW) ⊕ (Int32) => Sum.elim (fun x5 : String × CW => (if x5.1 = "java/lang/IllegalStateException" then (some (1, (x5.2, w.2))) else (if x5.1 = "java/lang/IllegalArgumentException" then (some (2, (x5.2, w.2))) else (if x5.1 = "java/lang/IndexOutOfBoundsException" then (some (3, (x5.2, w.2))) else none)))) (fun r5 : Int32 => (if inR 0 1 = true then (bnd ((w.1, w.2).1, vp_updL (w.1, w.2).2 (0 : Int32).toNatClampNeg r5.toInt64) (fun w9 : LW => (some (0, w9)))) else none)) r5))
def L_certificate (w : LW) : Option (Int32 × LW) := ((X8_certificate w.1 ).bind (fun r3 : (String × CW) ⊕ (Int32) => Sum.elim (fun x3 : String × CW => (if x3.1 = "java/lang/IllegalStateException" then (some (1, (x3.2, w.2))) else none)) (fun r3 : Int32 => (if inR 0 1 = true then (bnd ((w.1, w.2).1, vp_updL (w.1, w.2).2 (0 : Int32).toNatClampNeg r3.toInt64) (fun w7 : LW => (some (0, w7)))) else none)) r3))
def L_certified (w : LW) : Option (Int32 × LW) := ((X8_certified w.1 ).bind (fun r3 : (String × CW) ⊕ (Int32 × CW) => Sum.elim (fun x3 : String × CW => (if x3.1 = "java/lang/IllegalStateException" then (some (1, (x3.2, w.2))) else none)) (fun r3 : Int32 × CW => (if inR 0 1 = true then (bnd ((r3.2, w.2).1, vp_updL (r3.2, w.2).2 (0 : Int32).toNatClampNeg r3.1.toInt64) (fun w7 : LW => (some (0, w7)))) else none)) r3))
def L_acts (w : LW) : Option (Int32 × LW) := ((X8_acts w.1 ).bind (fun r3 : (String × CW) ⊕ (Int32) => Sum.elim (fun x3 : String × CW => (if x3.1 = "java/lang/IllegalStateException" then (some (1, (x3.2, w.2))) else none)) (fun r3 : Int32 => (if inR 0 1 = true then (bnd ((w.1, w.2).1, vp_updL (w.1, w.2).2 (0 : Int32).toNatClampNeg r3.toInt64) (fun w7 : LW => (some (0, w7)))) else none)) r3))
def L_act (w : LW) (a0 : Int32) (a1 : Int32) : Option (Int32 × LW) := ((X8_act w.1 a0 a1).bind (fun r5 : (String × CW) ⊕ (Int64) => Sum.elim (fun x5 : String × CW => (if x5.1 = "java/lang/IllegalStateException" then (some (1, (x5.2, w.2))) else (if x5.1 = "java/lang/IndexOutOfBoundsException" then (some (2, (x5.2, w.2))) else (if x5.1 = "java/lang/IllegalArgumentException" then (some (3, (x5.2, w.2))) else none)))) (fun r5 : Int64 => (if inR 0 1 = true then (bnd ((w.1, w.2).1, vp_updL (w.1, w.2).2 (0 : Int32).toNatClampNeg r5) (fun w8 : LW => (some (0, w8)))) else none)) r5))
def L_parts (w : LW) : Option (Int32 × LW) := ((X8_parts w.1 ).bind (fun r3 : (String × CW) ⊕ (Int32) => Sum.elim (fun x3 : String × CW => (if x3.1 = "java/lang/IllegalStateException" then (some (1, (x3.2, w.2))) else none)) (fun r3 : Int32 => (if inR 0 1 = true then (bnd ((w.1, w.2).1, vp_updL (w.1, w.2).2 (0 : Int32).toNatClampNeg r3.toInt64) (fun w7 : LW => (some (0, w7)))) else none)) r3))
def L_clique (w : LW) (a0 : Int32) : Option (Int32 × LW) := ((X8_clique w.1 a0).bind (fun r4 : (String × CW) ⊕ (Int32 × CW) => Sum.elim (fun x4 : String × CW => (if x4.1 = "java/lang/IllegalStateException" then (some (1, (x4.2, w.2))) else (if x4.1 = "java/lang/IndexOutOfBoundsException" then (some (2, (x4.2, w.2))) else none))) (fun r4 : Int32 × CW => (if inR 0 1 = true then (bnd ((r4.2, w.2).1, vp_updL (r4.2, w.2).2 (0 : Int32).toNatClampNeg r4.1.toInt64) (fun w8 : LW => (some (0, w8)))) else none)) r4))
def L_cliqueAt (w : LW) (a0 : Int32) (a1 : Int32) : Option (Int32 × LW) := ((X8_cliqueAt w.1 a0 a1).bind (fun r5 : (String × CW) ⊕ (Int32 × CW) => Sum.elim (fun x5 : String × CW => (if x5.1 = "java/lang/IllegalStateException" then (some (1, (x5.2, w.2))) else (if x5.1 = "java/lang/IndexOutOfBoundsException" then (some (2, (x5.2, w.2))) else none))) (fun r5 : Int32 × CW => (if inR 0 1 = true then (bnd ((r5.2, w.2).1, vp_updL (r5.2, w.2).2 (0 : Int32).toNatClampNeg r5.1.toInt64) (fun w9 : LW => (some (0, w9)))) else none)) r5))
def L_same_J16  (j16_0 : LW) (j16_1 : Int32) (j16_2 : Int64) : Option (Int32 × LW) := (if inR j16_1 1 = true then (bnd (j16_0.1, vp_updL j16_0.2 j16_1.toNatClampNeg j16_2) (fun w16 : LW => (some (0, w16)))) else none)
def L_same (w : LW) (a0 : Int32) (a1 : Int32) : Option (Int32 × LW) := ((X8_same w.1 a0 a1).bind (fun r5 : (String × CW) ⊕ (Int32) => Sum.elim (fun x5 : String × CW => (if x5.1 = "java/lang/IllegalStateException" then (some (1, (x5.2, w.2))) else (if x5.1 = "java/lang/IndexOutOfBoundsException" then (some (2, (x5.2, w.2))) else none))) (fun r5 : Int32 => (if r5 = 0 then (L_same_J16 (w.1, w.2) 0 0) else (L_same_J16 (w.1, w.2) 0 1))) r5))
def L_put (w : LW) (a0 : Int32) (a1 : Int32) : Option (Int32 × LW) := ((X8_put w.1 a0 a1).bind (fun r3 : (String × CW) ⊕ (CW) => Sum.elim (fun x3 : String × CW => (if x3.1 = "java/lang/IllegalStateException" then (some (1, (x3.2, w.2))) else (if x3.1 = "java/lang/IndexOutOfBoundsException" then (some (2, (x3.2, w.2))) else (if x3.1 = "java/lang/IllegalArgumentException" then (some (3, (x3.2, w.2))) else none)))) (fun r3 : CW => (some (0, (r3, w.2)))) r3))
def L_back (w : LW) : Option (Int32 × LW) := ((X8_back w.1 ).bind (fun r3 : (String × CW) ⊕ (Int32 × CW) => Sum.elim (fun x3 : String × CW => (if x3.1 = "java/lang/IllegalStateException" then (some (1, (x3.2, w.2))) else none)) (fun r3 : Int32 × CW => (if inR 0 1 = true then (bnd ((r3.2, w.2).1, vp_updL (r3.2, w.2).2 (0 : Int32).toNatClampNeg r3.1.toInt64) (fun w7 : LW => (some (0, w7)))) else none)) r3))
def L_at (w : LW) (a0 : Int32) : Option (Int32 × LW) := ((X8_at w.1 a0).bind (fun r4 : (String × CW) ⊕ (Int32) => Sum.elim (fun x4 : String × CW => (if x4.1 = "java/lang/IllegalStateException" then (some (1, (x4.2, w.2))) else (if x4.1 = "java/lang/IndexOutOfBoundsException" then (some (2, (x4.2, w.2))) else none))) (fun r4 : Int32 => (if inR 0 1 = true then (bnd ((w.1, w.2).1, vp_updL (w.1, w.2).2 (0 : Int32).toNatClampNeg r4.toInt64) (fun w8 : LW => (some (0, w8)))) else none)) r4))
def L_value (w : LW) : Option (Int32 × LW) := ((X8_value w.1 ).bind (fun r3 : (String × CW) ⊕ (Int64) => Sum.elim (fun x3 : String × CW => (if x3.1 = "java/lang/IllegalStateException" then (some (1, (x3.2, w.2))) else none)) (fun r3 : Int64 => (if inR 0 1 = true then (bnd ((w.1, w.2).1, vp_updL (w.1, w.2).2 (0 : Int32).toNatClampNeg r3) (fun w6 : LW => (some (0, w6)))) else none)) r3))
def L_best (w : LW) (a0 : Int32) : Option (Int32 × LW) := ((X8_best w.1 a0).bind (fun r4 : (String × CW) ⊕ (Int32 × CW) => Sum.elim (fun x4 : String × CW => (if x4.1 = "java/lang/IllegalStateException" then (some (1, (x4.2, w.2))) else none)) (fun r4 : Int32 × CW => (if inR 0 1 = true then (bnd ((r4.2, w.2).1, vp_updL (r4.2, w.2).2 (0 : Int32).toNatClampNeg r4.1.toInt64) (fun w8 : LW => (some (0, w8)))) else none)) r4))
def L_bestValue (w : LW) : Option (Int32 × LW) := ((X8_bestValue w.1 ).bind (fun r3 : (String × CW) ⊕ (Int64) => Sum.elim (fun x3 : String × CW => (if x3.1 = "java/lang/IllegalStateException" then (some (1, (x3.2, w.2))) else none)) (fun r3 : Int64 => (if inR 0 1 = true then (bnd ((w.1, w.2).1, vp_updL (w.1, w.2).2 (0 : Int32).toNatClampNeg r3) (fun w6 : LW => (some (0, w6)))) else none)) r3))
def L_bestAt (w : LW) (a0 : Int32) : Option (Int32 × LW) := ((X8_bestAt w.1 a0).bind (fun r4 : (String × CW) ⊕ (Int32) => Sum.elim (fun x4 : String × CW => (if x4.1 = "java/lang/IllegalStateException" then (some (1, (x4.2, w.2))) else (if x4.1 = "java/lang/IndexOutOfBoundsException" then (some (2, (x4.2, w.2))) else none))) (fun r4 : Int32 => (if inR 0 1 = true then (bnd ((w.1, w.2).1, vp_updL (w.1, w.2).2 (0 : Int32).toNatClampNeg r4.toInt64) (fun w8 : LW => (some (0, w8)))) else none)) r4))
set_option maxRecDepth 100000 in
set_option maxHeartbeats 4000000 in
theorem ct_L_column (l : Launch) (hl : l.stackTraces = false) (g : wG) (ad : Nat → Nat) (w : LW) (a0 : Int32) (a1 : Int32) (a2 : Int32) (rr : Int32 × LW) (hf : L_column w a0 a1 a2 = some rr) : MetL l g yL_column cL_column 6 (some .int) [(0, 12, 15, 13), (0, 12, 19, 15)] (x_rm 7 1 114) [.ref (ad 0), .int a0, .int a1, .int a2, .ref (ad 73)] (lcells g ad w) (lcells g ad rr.2) (some (.int rr.1)) 1 6 := by
  refine MetL.of2 [(0, .ref (ad 0)), (1, .int a0), (2, .int a1), (3, .int a2), (4, .ref (ad 73))] rfl (by decide +kernel) (Nat.le_of_ble_eq_true rfl) ?_
  intro p e s m args below meth c hG hr hX
  unfold L_column at hf
  refine v_aload hG 4 rfl dL_column_0 ?_
  refine v_iconst hG (v := 0) (by decide) dL_column_2 ?_
  refine v_aload_n hG 0 rfl rfl dL_column_3 ?_
  refine v_iload_n hG 1 rfl rfl dL_column_4 ?_
  refine v_iload_n hG 2 rfl rfl dL_column_5 ?_
  refine v_iload_n hG 3 rfl rfl dL_column_6 ?_
  obtain ⟨r7, hr7, hf⟩ := bd_some hf
  rcases r7 with x7 | r7
  · rcases x7 with ⟨e7, y7⟩
    simp only [Sum.elim_inl] at hf
    by_cases hE : e7 = "java/lang/IllegalStateException"
    · subst hE
      rw [if_pos rfl] at hf
      refine l_callC (wc := ccells g ad w.1) (wc' := ccells g ad y7) (ext := oCell g ad w.2) (st := [.int 0, .ref (ad 73)]) hG hX 0 8 [] ⟨0, 12, 15, 13⟩ [⟨0, 12, 19, 15⟩] rfl (fun z hz => by cases hz) rfl (by decide) wk_420 (by decide +kernel) (ct_X8_column l hl g ad w.1 a0 a1 a2 (.inl ("java/lang/IllegalStateException", y7)) hr7) iw_X8_column wk_422 rfl rfl ⟨rfl, rfl, Nat.le_of_ble_eq_true rfl, Nat.le_of_ble_eq_true rfl⟩ ⟨Nat.le_of_ble_eq_true rfl, Nat.le_of_ble_eq_true rfl⟩ rfl rfl (Nat.le_of_ble_eq_true rfl) rfl dL_column_7 (fun q7 => ?_)
      refine (show V p l e (x_rm 7 1 114) s m args below meth c (inW (lcells g ad w)) (EL below args s g (lcells g ad w) (lcells g ad rr.2) (some (.int rr.1)) 1 6) g 6 (lcells g ad (y7, w.2)) 1 6 15 [(0, .ref (ad 0)), (1, .int a0), (2, .int a1), (3, .int a2), (4, .ref (ad 73))] [.ref q7] from ?_)
      refine v_astore hG [(5, _), (0, _), (1, _), (2, _), (3, _), (4, _)] dL_column_15 (by decide) rfl ?_
      refine v_iconst hG (v := 1) (by decide) dL_column_17 ?_
      cases hf
      exact l_iret hG hr ⟨Nat.le_of_ble_eq_true rfl, Nat.le_of_ble_eq_true rfl⟩ dL_column_18
    · rw [if_neg hE] at hf
      by_cases hE : e7 = "java/lang/IllegalArgumentException"
      · subst hE
        rw [if_pos rfl] at hf
        refine l_callC (wc := ccells g ad w.1) (wc' := ccells g ad y7) (ext := oCell g ad w.2) (st := [.int 0, .ref (ad 73)]) hG hX 0 8 [⟨0, 12, 15, 13⟩] ⟨0, 12, 19, 15⟩ [] rfl (List.forall_mem_cons.mpr ⟨⟨by decide, _, wk_420, by decide +kernel⟩, (fun _ h => absurd h List.not_mem_nil)⟩) rfl (by decide) wk_421 (by decide +kernel) (ct_X8_column l hl g ad w.1 a0 a1 a2 (.inl ("java/lang/IllegalArgumentException", y7)) hr7) iw_X8_column wk_422 rfl rfl ⟨rfl, rfl, Nat.le_of_ble_eq_true rfl, Nat.le_of_ble_eq_true rfl⟩ ⟨Nat.le_of_ble_eq_true rfl, Nat.le_of_ble_eq_true rfl⟩ rfl rfl (Nat.le_of_ble_eq_true rfl) rfl dL_column_7 (fun q7 => ?_)
        refine (show V p l e (x_rm 7 1 114) s m args below meth c (inW (lcells g ad w)) (EL below args s g (lcells g ad w) (lcells g ad rr.2) (some (.int rr.1)) 1 6) g 6 (lcells g ad (y7, w.2)) 1 6 19 [(0, .ref (ad 0)), (1, .int a0), (2, .int a1), (3, .int a2), (4, .ref (ad 73))] [.ref q7] from ?_)
        refine v_astore hG [(5, _), (0, _), (1, _), (2, _), (3, _), (4, _)] dL_column_19 (by decide) rfl ?_
        refine v_iconst hG (v := 2) (by decide) dL_column_21 ?_
        cases hf
        exact l_iret hG hr ⟨Nat.le_of_ble_eq_true rfl, Nat.le_of_ble_eq_true rfl⟩ dL_column_22
      · rw [if_neg hE] at hf
        cases hf
  · simp only [Sum.elim_inr] at hf
    refine l_callR (wc := ccells g ad w.1) (ext := oCell g ad w.2) (st := [.int 0, .ref (ad 73)]) hG hX 0 8 (ct_X8_column l hl g ad w.1 a0 a1 a2 (.inr r7) hr7) iw_X8_column wk_422 rfl rfl ⟨rfl, rfl, Nat.le_of_ble_eq_true rfl, Nat.le_of_ble_eq_true rfl⟩ ⟨Nat.le_of_ble_eq_true rfl, Nat.le_of_ble_eq_true rfl⟩ rfl rfl (Nat.le_of_ble_eq_true rfl) rfl dL_column_7 ?_
    refine (show V p l e (x_rm 7 1 114) s m args below meth c (inW (lcells g ad w)) (EL below args s g (lcells g ad w) (lcells g ad rr.2) (some (.int rr.1)) 1 6) g 6 (lcells g ad (r7.2, w.2)) 1 6 10 [(0, .ref (ad 0)), (1, .int a0), (2, .int a1), (3, .int a2), (4, .ref (ad 73))] [.int r7.1, .int 0, .ref (ad 73)] from ?_)
    refine v_i2l hG dL_column_10 ?_
    refine l_s_out hG dL_column_11 hf (fun w11 hf => ?_)
    refine v_goto hG 23 dL_column_12 rfl ?_
    refine v_iconst hG (v := 0) (by decide) dL_column_23 ?_
    cases hf
    exact l_iret hG hr ⟨Nat.le_of_ble_eq_true rfl, Nat.le_of_ble_eq_true rfl⟩ dL_column_24
set_option maxRecDepth 100000 in
set_option maxHeartbeats 4000000 in
theorem ct_L_row (l : Launch) (hl : l.stackTraces = false) (g : wG) (ad : Nat → Nat) (w : LW) (a0 : Int32) (a1 : Int32) (rr : Int32 × LW) (hf : L_row w a0 a1 = some rr) : MetL l g yL_row cL_row 5 (some .int) [(0, 10, 13, 13), (0, 10, 17, 15)] (x_rm 7 1 113) [.ref (ad 0), .int a0, .int a1, .ref (ad 73)] (lcells g ad w) (lcells g ad rr.2) (some (.int rr.1)) 1 6 := by
  refine MetL.of2 [(0, .ref (ad 0)), (1, .int a0), (2, .int a1), (3, .ref (ad 73))] rfl (by decide +kernel) (Nat.le_of_ble_eq_true rfl) ?_
  intro p e s m args below meth c hG hr hX
  unfold L_row at hf
  refine v_aload_n hG 3 rfl rfl dL_row_0 ?_
  refine v_iconst hG (v := 0) (by decide) dL_row_1 ?_
  refine v_aload_n hG 0 rfl rfl dL_row_2 ?_
  refine v_iload_n hG 1 rfl rfl dL_row_3 ?_
  refine v_iload_n hG 2 rfl rfl dL_row_4 ?_
  obtain ⟨r5, hr5, hf⟩ := bd_some hf
  rcases r5 with x5 | r5
  · rcases x5 with ⟨e5, y5⟩
    simp only [Sum.elim_inl] at hf
    by_cases hE : e5 = "java/lang/IllegalStateException"
    · subst hE
      rw [if_pos rfl] at hf
      refine l_callC (wc := ccells g ad w.1) (wc' := ccells g ad y5) (ext := oCell g ad w.2) (st := [.int 0, .ref (ad 73)]) hG hX 0 8 [] ⟨0, 10, 13, 13⟩ [⟨0, 10, 17, 15⟩] rfl (fun z hz => by cases hz) rfl (by decide) wk_420 (by decide +kernel) (ct_X8_row l hl g ad w.1 a0 a1 (.inl ("java/lang/IllegalStateException", y5)) hr5) iw_X8_row wk_518 rfl rfl ⟨rfl, rfl, Nat.le_of_ble_eq_true rfl, Nat.le_of_ble_eq_true rfl⟩ ⟨Nat.le_of_ble_eq_true rfl, Nat.le_of_ble_eq_true rfl⟩ rfl rfl (Nat.le_of_ble_eq_true rfl) rfl dL_row_5 (fun q5 => ?_)
      refine (show V p l e (x_rm 7 1 113) s m args below meth c (inW (lcells g ad w)) (EL below args s g (lcells g ad w) (lcells g ad rr.2) (some (.int rr.1)) 1 6) g 5 (lcells g ad (y5, w.2)) 1 6 13 [(0, .ref (ad 0)), (1, .int a0), (2, .int a1), (3, .ref (ad 73))] [.ref q5] from ?_)
      refine v_astore hG [(4, _), (0, _), (1, _), (2, _), (3, _)] dL_row_13 (by decide) rfl ?_
      refine v_iconst hG (v := 1) (by decide) dL_row_15 ?_
      cases hf
      exact l_iret hG hr ⟨Nat.le_of_ble_eq_true rfl, Nat.le_of_ble_eq_true rfl⟩ dL_row_16
    · rw [if_neg hE] at hf
      by_cases hE : e5 = "java/lang/IllegalArgumentException"
      · subst hE
        rw [if_pos rfl] at hf
        refine l_callC (wc := ccells g ad w.1) (wc' := ccells g ad y5) (ext := oCell g ad w.2) (st := [.int 0, .ref (ad 73)]) hG hX 0 8 [⟨0, 10, 13, 13⟩] ⟨0, 10, 17, 15⟩ [] rfl (List.forall_mem_cons.mpr ⟨⟨by decide, _, wk_420, by decide +kernel⟩, (fun _ h => absurd h List.not_mem_nil)⟩) rfl (by decide) wk_421 (by decide +kernel) (ct_X8_row l hl g ad w.1 a0 a1 (.inl ("java/lang/IllegalArgumentException", y5)) hr5) iw_X8_row wk_518 rfl rfl ⟨rfl, rfl, Nat.le_of_ble_eq_true rfl, Nat.le_of_ble_eq_true rfl⟩ ⟨Nat.le_of_ble_eq_true rfl, Nat.le_of_ble_eq_true rfl⟩ rfl rfl (Nat.le_of_ble_eq_true rfl) rfl dL_row_5 (fun q5 => ?_)
        refine (show V p l e (x_rm 7 1 113) s m args below meth c (inW (lcells g ad w)) (EL below args s g (lcells g ad w) (lcells g ad rr.2) (some (.int rr.1)) 1 6) g 5 (lcells g ad (y5, w.2)) 1 6 17 [(0, .ref (ad 0)), (1, .int a0), (2, .int a1), (3, .ref (ad 73))] [.ref q5] from ?_)
        refine v_astore hG [(4, _), (0, _), (1, _), (2, _), (3, _)] dL_row_17 (by decide) rfl ?_
        refine v_iconst hG (v := 2) (by decide) dL_row_19 ?_
        cases hf
        exact l_iret hG hr ⟨Nat.le_of_ble_eq_true rfl, Nat.le_of_ble_eq_true rfl⟩ dL_row_20
      · rw [if_neg hE] at hf
        cases hf
  · simp only [Sum.elim_inr] at hf
    refine l_callR (wc := ccells g ad w.1) (ext := oCell g ad w.2) (st := [.int 0, .ref (ad 73)]) hG hX 0 8 (ct_X8_row l hl g ad w.1 a0 a1 (.inr r5) hr5) iw_X8_row wk_518 rfl rfl ⟨rfl, rfl, Nat.le_of_ble_eq_true rfl, Nat.le_of_ble_eq_true rfl⟩ ⟨Nat.le_of_ble_eq_true rfl, Nat.le_of_ble_eq_true rfl⟩ rfl rfl (Nat.le_of_ble_eq_true rfl) rfl dL_row_5 ?_
    refine (show V p l e (x_rm 7 1 113) s m args below meth c (inW (lcells g ad w)) (EL below args s g (lcells g ad w) (lcells g ad rr.2) (some (.int rr.1)) 1 6) g 5 (lcells g ad (r5.2, w.2)) 1 6 8 [(0, .ref (ad 0)), (1, .int a0), (2, .int a1), (3, .ref (ad 73))] [.int r5.1, .int 0, .ref (ad 73)] from ?_)
    refine v_i2l hG dL_row_8 ?_
    refine l_s_out hG dL_row_9 hf (fun w9 hf => ?_)
    refine v_goto hG 21 dL_row_10 rfl ?_
    refine v_iconst hG (v := 0) (by decide) dL_row_21 ?_
    cases hf
    exact l_iret hG hr ⟨Nat.le_of_ble_eq_true rfl, Nat.le_of_ble_eq_true rfl⟩ dL_row_22
set_option maxRecDepth 100000 in
set_option maxHeartbeats 4000000 in
theorem ct_L_term (l : Launch) (hl : l.stackTraces = false) (g : wG) (ad : Nat → Nat) (w : LW) (a0 : Int32) (a1 : Int32) (a2 : Int32) (rr : Int32 × LW) (hf : L_term w a0 a1 a2 = some rr) : MetL l g yL_term cL_term 5 (some .int) [(0, 7, 10, 25), (0, 7, 14, 15)] (x_rm 8 3 134) [.ref (ad 0), .int a0, .int a1, .int a2] (lcells g ad w) (lcells g ad rr.2) (some (.int rr.1)) 3 18 := by
  refine MetL.of2 [(0, .ref (ad 0)), (1, .int a0), (2, .int a1), (3, .int a2)] rfl (by decide +kernel) (Nat.le_of_ble_eq_true rfl) ?_
  intro p e s m args below meth c hG hr hX
  unfold L_term at hf
  refine v_aload_n hG 0 rfl rfl dL_term_0 ?_
  refine v_iload_n hG 1 rfl rfl dL_term_1 ?_
  refine v_iload_n hG 2 rfl rfl dL_term_2 ?_
  refine v_iload_n hG 3 rfl rfl dL_term_3 ?_
  obtain ⟨r4, hr4, hf⟩ := bd_some hf
  rcases r4 with x4 | r4
  · rcases x4 with ⟨e4, y4⟩
    simp only [Sum.elim_inl] at hf
    by_cases hE : e4 = "java/lang/IndexOutOfBoundsException"
    · subst hE
      rw [if_pos rfl] at hf
      refine l_callC (wc := ccells g ad w.1) (wc' := ccells g ad y4) (ext := oCell g ad w.2) (st := []) hG hX 0 8 [] ⟨0, 7, 10, 25⟩ [⟨0, 7, 14, 15⟩] rfl (fun z hz => by cases hz) rfl (by decide) wk_528 (by decide +kernel) (ct_X8_term l hl g ad w.1 a0 a1 a2 (.inl ("java/lang/IndexOutOfBoundsException", y4)) hr4) iw_X8_term wk_529 rfl rfl ⟨rfl, rfl, Nat.le_of_ble_eq_true rfl, Nat.le_of_ble_eq_true rfl⟩ ⟨Nat.le_of_ble_eq_true rfl, Nat.le_of_ble_eq_true rfl⟩ rfl rfl (Nat.le_of_ble_eq_true rfl) rfl dL_term_4 (fun q4 => ?_)
      refine (show V p l e (x_rm 8 3 134) s m args below meth c (inW (lcells g ad w)) (EL below args s g (lcells g ad w) (lcells g ad rr.2) (some (.int rr.1)) 3 18) g 5 (lcells g ad (y4, w.2)) 3 18 10 [(0, .ref (ad 0)), (1, .int a0), (2, .int a1), (3, .int a2)] [.ref q4] from ?_)
      refine v_astore hG [(4, _), (0, _), (1, _), (2, _), (3, _)] dL_term_10 (by decide) rfl ?_
      refine v_iconst hG (v := 1) (by decide) dL_term_12 ?_
      cases hf
      exact l_iret hG hr ⟨Nat.le_of_ble_eq_true rfl, Nat.le_of_ble_eq_true rfl⟩ dL_term_13
    · rw [if_neg hE] at hf
      by_cases hE : e4 = "java/lang/IllegalArgumentException"
      · subst hE
        rw [if_pos rfl] at hf
        refine l_callC (wc := ccells g ad w.1) (wc' := ccells g ad y4) (ext := oCell g ad w.2) (st := []) hG hX 0 8 [⟨0, 7, 10, 25⟩] ⟨0, 7, 14, 15⟩ [] rfl (List.forall_mem_cons.mpr ⟨⟨by decide, _, wk_528, by decide +kernel⟩, (fun _ h => absurd h List.not_mem_nil)⟩) rfl (by decide) wk_421 (by decide +kernel) (ct_X8_term l hl g ad w.1 a0 a1 a2 (.inl ("java/lang/IllegalArgumentException", y4)) hr4) iw_X8_term wk_529 rfl rfl ⟨rfl, rfl, Nat.le_of_ble_eq_true rfl, Nat.le_of_ble_eq_true rfl⟩ ⟨Nat.le_of_ble_eq_true rfl, Nat.le_of_ble_eq_true rfl⟩ rfl rfl (Nat.le_of_ble_eq_true rfl) rfl dL_term_4 (fun q4 => ?_)
        refine (show V p l e (x_rm 8 3 134) s m args below meth c (inW (lcells g ad w)) (EL below args s g (lcells g ad w) (lcells g ad rr.2) (some (.int rr.1)) 3 18) g 5 (lcells g ad (y4, w.2)) 3 18 14 [(0, .ref (ad 0)), (1, .int a0), (2, .int a1), (3, .int a2)] [.ref q4] from ?_)
        refine v_astore hG [(4, _), (0, _), (1, _), (2, _), (3, _)] dL_term_14 (by decide) rfl ?_
        refine v_iconst hG (v := 2) (by decide) dL_term_16 ?_
        cases hf
        exact l_iret hG hr ⟨Nat.le_of_ble_eq_true rfl, Nat.le_of_ble_eq_true rfl⟩ dL_term_17
      · rw [if_neg hE] at hf
        cases hf
  · simp only [Sum.elim_inr] at hf
    refine l_callR (wc := ccells g ad w.1) (ext := oCell g ad w.2) (st := []) hG hX 0 8 (ct_X8_term l hl g ad w.1 a0 a1 a2 (.inr r4) hr4) iw_X8_term wk_529 rfl rfl ⟨rfl, rfl, Nat.le_of_ble_eq_true rfl, Nat.le_of_ble_eq_true rfl⟩ ⟨Nat.le_of_ble_eq_true rfl, Nat.le_of_ble_eq_true rfl⟩ rfl rfl (Nat.le_of_ble_eq_true rfl) rfl dL_term_4 ?_
    refine (show V p l e (x_rm 8 3 134) s m args below meth c (inW (lcells g ad w)) (EL below args s g (lcells g ad w) (lcells g ad rr.2) (some (.int rr.1)) 3 18) g 5 (lcells g ad (r4, w.2)) 3 18 7 [(0, .ref (ad 0)), (1, .int a0), (2, .int a1), (3, .int a2)] [] from ?_)
    refine v_goto hG 18 dL_term_7 rfl ?_
    refine v_iconst hG (v := 0) (by decide) dL_term_18 ?_
    cases hf
    exact l_iret hG hr ⟨Nat.le_of_ble_eq_true rfl, Nat.le_of_ble_eq_true rfl⟩ dL_term_19
set_option maxRecDepth 100000 in
set_option maxHeartbeats 4000000 in
theorem ct_L_shrink (l : Launch) (hl : l.stackTraces = false) (g : wG) (ad : Nat → Nat) (w : LW) (a0 : Int32) (a1 : Int32) (rr : Int32 × LW) (hf : L_shrink w a0 a1 = some rr) : MetL l g yL_shrink cL_shrink 5 (some .int) [(0, 10, 13, 15)] (x_rm 8 1 190) [.ref (ad 0), .int a0, .int a1, .ref (ad 73)] (lcells g ad w) (lcells g ad rr.2) (some (.int rr.1)) 1 6 := by
  refine MetL.of2 [(0, .ref (ad 0)), (1, .int a0), (2, .int a1), (3, .ref (ad 73))] rfl (by decide +kernel) (Nat.le_of_ble_eq_true rfl) ?_
  intro p e s m args below meth c hG hr hX
  unfold L_shrink at hf
  refine v_aload_n hG 3 rfl rfl dL_shrink_0 ?_
  refine v_iconst hG (v := 0) (by decide) dL_shrink_1 ?_
  refine v_aload_n hG 0 rfl rfl dL_shrink_2 ?_
  refine v_iload_n hG 1 rfl rfl dL_shrink_3 ?_
  refine v_iload_n hG 2 rfl rfl dL_shrink_4 ?_
  obtain ⟨r5, hr5, hf⟩ := bd_some hf
  rcases r5 with x5 | r5
  · rcases x5 with ⟨e5, y5⟩
    simp only [Sum.elim_inl] at hf
    by_cases hE : e5 = "java/lang/IllegalArgumentException"
    · subst hE
      rw [if_pos rfl] at hf
      refine l_callC (wc := ccells g ad w.1) (wc' := ccells g ad y5) (ext := oCell g ad w.2) (st := [.int 0, .ref (ad 73)]) hG hX 0 8 [] ⟨0, 10, 13, 15⟩ [] rfl (fun z hz => by cases hz) rfl (by decide) wk_421 (by decide +kernel) (ct_X8_shrink l hl g ad w.1 a0 a1 (.inl ("java/lang/IllegalArgumentException", y5)) hr5) iw_X8_shrink wk_562 rfl rfl ⟨rfl, rfl, Nat.le_of_ble_eq_true rfl, Nat.le_of_ble_eq_true rfl⟩ ⟨Nat.le_of_ble_eq_true rfl, Nat.le_of_ble_eq_true rfl⟩ rfl rfl (Nat.le_of_ble_eq_true rfl) rfl dL_shrink_5 (fun q5 => ?_)
      refine (show V p l e (x_rm 8 1 190) s m args below meth c (inW (lcells g ad w)) (EL below args s g (lcells g ad w) (lcells g ad rr.2) (some (.int rr.1)) 1 6) g 5 (lcells g ad (y5, w.2)) 1 6 13 [(0, .ref (ad 0)), (1, .int a0), (2, .int a1), (3, .ref (ad 73))] [.ref q5] from ?_)
      refine v_astore hG [(4, _), (0, _), (1, _), (2, _), (3, _)] dL_shrink_13 (by decide) rfl ?_
      refine v_iconst hG (v := 1) (by decide) dL_shrink_15 ?_
      cases hf
      exact l_iret hG hr ⟨Nat.le_of_ble_eq_true rfl, Nat.le_of_ble_eq_true rfl⟩ dL_shrink_16
    · rw [if_neg hE] at hf
      cases hf
  · simp only [Sum.elim_inr] at hf
    refine l_callR (wc := ccells g ad w.1) (ext := oCell g ad w.2) (st := [.int 0, .ref (ad 73)]) hG hX 0 8 (ct_X8_shrink l hl g ad w.1 a0 a1 (.inr r5) hr5) iw_X8_shrink wk_562 rfl rfl ⟨rfl, rfl, Nat.le_of_ble_eq_true rfl, Nat.le_of_ble_eq_true rfl⟩ ⟨Nat.le_of_ble_eq_true rfl, Nat.le_of_ble_eq_true rfl⟩ rfl rfl (Nat.le_of_ble_eq_true rfl) rfl dL_shrink_5 ?_
    refine (show V p l e (x_rm 8 1 190) s m args below meth c (inW (lcells g ad w)) (EL below args s g (lcells g ad w) (lcells g ad rr.2) (some (.int rr.1)) 1 6) g 5 (lcells g ad (r5.2, w.2)) 1 6 8 [(0, .ref (ad 0)), (1, .int a0), (2, .int a1), (3, .ref (ad 73))] [.int r5.1, .int 0, .ref (ad 73)] from ?_)
    refine v_i2l hG dL_shrink_8 ?_
    refine l_s_out hG dL_shrink_9 hf (fun w9 hf => ?_)
    refine v_goto hG 17 dL_shrink_10 rfl ?_
    refine v_iconst hG (v := 0) (by decide) dL_shrink_17 ?_
    cases hf
    exact l_iret hG hr ⟨Nat.le_of_ble_eq_true rfl, Nat.le_of_ble_eq_true rfl⟩ dL_shrink_18
set_option maxRecDepth 100000 in
set_option maxHeartbeats 4000000 in
theorem ct_L_state (l : Launch) (hl : l.stackTraces = false) (g : wG) (ad : Nat → Nat) (w : LW) (a0 : Int32) (rr : Int32 × LW) (hf : L_state w a0 = some rr) : MetL l g yL_state cL_state 4 (some .int) [(0, 9, 12, 13), (0, 9, 15, 25)] (x_rm 8 2 132) [.ref (ad 0), .int a0, .ref (ad 73)] (lcells g ad w) (lcells g ad rr.2) (some (.int rr.1)) 2 12 := by
  refine MetL.of2 [(0, .ref (ad 0)), (1, .int a0), (2, .ref (ad 73))] rfl (by decide +kernel) (Nat.le_of_ble_eq_true rfl) ?_
  intro p e s m args below meth c hG hr hX
  unfold L_state at hf
  refine v_aload_n hG 2 rfl rfl dL_state_0 ?_
  refine v_iconst hG (v := 0) (by decide) dL_state_1 ?_
  refine v_aload_n hG 0 rfl rfl dL_state_2 ?_
  refine v_iload_n hG 1 rfl rfl dL_state_3 ?_
  obtain ⟨r4, hr4, hf⟩ := bd_some hf
  rcases r4 with x4 | r4
  · rcases x4 with ⟨e4, y4⟩
    simp only [Sum.elim_inl] at hf
    by_cases hE : e4 = "java/lang/IllegalStateException"
    · subst hE
      rw [if_pos rfl] at hf
      refine l_callC (wc := ccells g ad w.1) (wc' := ccells g ad y4) (ext := oCell g ad w.2) (st := [.int 0, .ref (ad 73)]) hG hX 0 8 [] ⟨0, 9, 12, 13⟩ [⟨0, 9, 15, 25⟩] rfl (fun z hz => by cases hz) rfl (by decide) wk_420 (by decide +kernel) (ct_X8_state l hl g ad w.1 a0 (.inl ("java/lang/IllegalStateException", y4)) hr4) iw_X8_state wk_792 rfl rfl ⟨rfl, rfl, Nat.le_of_ble_eq_true rfl, Nat.le_of_ble_eq_true rfl⟩ ⟨Nat.le_of_ble_eq_true rfl, Nat.le_of_ble_eq_true rfl⟩ rfl rfl (Nat.le_of_ble_eq_true rfl) rfl dL_state_4 (fun q4 => ?_)
      refine (show V p l e (x_rm 8 2 132) s m args below meth c (inW (lcells g ad w)) (EL below args s g (lcells g ad w) (lcells g ad rr.2) (some (.int rr.1)) 2 12) g 4 (lcells g ad (y4, w.2)) 2 12 12 [(0, .ref (ad 0)), (1, .int a0), (2, .ref (ad 73))] [.ref q4] from ?_)
      refine v_astore_n hG [(3, _), (0, _), (1, _), (2, _)] dL_state_12 rfl (by decide) rfl ?_
      refine v_iconst hG (v := 1) (by decide) dL_state_13 ?_
      cases hf
      exact l_iret hG hr ⟨Nat.le_of_ble_eq_true rfl, Nat.le_of_ble_eq_true rfl⟩ dL_state_14
    · rw [if_neg hE] at hf
      by_cases hE : e4 = "java/lang/IndexOutOfBoundsException"
      · subst hE
        rw [if_pos rfl] at hf
        refine l_callC (wc := ccells g ad w.1) (wc' := ccells g ad y4) (ext := oCell g ad w.2) (st := [.int 0, .ref (ad 73)]) hG hX 0 8 [⟨0, 9, 12, 13⟩] ⟨0, 9, 15, 25⟩ [] rfl (List.forall_mem_cons.mpr ⟨⟨by decide, _, wk_420, by decide +kernel⟩, (fun _ h => absurd h List.not_mem_nil)⟩) rfl (by decide) wk_528 (by decide +kernel) (ct_X8_state l hl g ad w.1 a0 (.inl ("java/lang/IndexOutOfBoundsException", y4)) hr4) iw_X8_state wk_792 rfl rfl ⟨rfl, rfl, Nat.le_of_ble_eq_true rfl, Nat.le_of_ble_eq_true rfl⟩ ⟨Nat.le_of_ble_eq_true rfl, Nat.le_of_ble_eq_true rfl⟩ rfl rfl (Nat.le_of_ble_eq_true rfl) rfl dL_state_4 (fun q4 => ?_)
        refine (show V p l e (x_rm 8 2 132) s m args below meth c (inW (lcells g ad w)) (EL below args s g (lcells g ad w) (lcells g ad rr.2) (some (.int rr.1)) 2 12) g 4 (lcells g ad (y4, w.2)) 2 12 15 [(0, .ref (ad 0)), (1, .int a0), (2, .ref (ad 73))] [.ref q4] from ?_)
        refine v_astore_n hG [(3, _), (0, _), (1, _), (2, _)] dL_state_15 rfl (by decide) rfl ?_
        refine v_iconst hG (v := 2) (by decide) dL_state_16 ?_
        cases hf
        exact l_iret hG hr ⟨Nat.le_of_ble_eq_true rfl, Nat.le_of_ble_eq_true rfl⟩ dL_state_17
      · rw [if_neg hE] at hf
        cases hf
  · simp only [Sum.elim_inr] at hf
    refine l_callR (wc := ccells g ad w.1) (ext := oCell g ad w.2) (st := [.int 0, .ref (ad 73)]) hG hX 0 8 (ct_X8_state l hl g ad w.1 a0 (.inr r4) hr4) iw_X8_state wk_792 rfl rfl ⟨rfl, rfl, Nat.le_of_ble_eq_true rfl, Nat.le_of_ble_eq_true rfl⟩ ⟨Nat.le_of_ble_eq_true rfl, Nat.le_of_ble_eq_true rfl⟩ rfl rfl (Nat.le_of_ble_eq_true rfl) rfl dL_state_4 ?_
    refine (show V p l e (x_rm 8 2 132) s m args below meth c (inW (lcells g ad w)) (EL below args s g (lcells g ad w) (lcells g ad rr.2) (some (.int rr.1)) 2 12) g 4 (lcells g ad (w.1, w.2)) 2 12 7 [(0, .ref (ad 0)), (1, .int a0), (2, .ref (ad 73))] [.int r4, .int 0, .ref (ad 73)] from ?_)
    refine v_i2l hG dL_state_7 ?_
    refine l_s_out hG dL_state_8 hf (fun w8 hf => ?_)
    refine v_goto hG 18 dL_state_9 rfl ?_
    refine v_iconst hG (v := 0) (by decide) dL_state_18 ?_
    cases hf
    exact l_iret hG hr ⟨Nat.le_of_ble_eq_true rfl, Nat.le_of_ble_eq_true rfl⟩ dL_state_19
set_option maxRecDepth 100000 in
set_option maxHeartbeats 4000000 in
theorem ct_L_bound (l : Launch) (hl : l.stackTraces = false) (g : wG) (ad : Nat → Nat) (w : LW) (a0 : Int32) (a1 : Int32) (rr : Int32 × LW) (hf : L_bound w a0 a1 = some rr) : MetL l g yL_bound cL_bound 5 (some .int) [(0, 10, 13, 13), (0, 10, 17, 25)] (x_rm 8 2 133) [.ref (ad 0), .int a0, .int a1, .ref (ad 73)] (lcells g ad w) (lcells g ad rr.2) (some (.int rr.1)) 2 12 := by
  refine MetL.of2 [(0, .ref (ad 0)), (1, .int a0), (2, .int a1), (3, .ref (ad 73))] rfl (by decide +kernel) (Nat.le_of_ble_eq_true rfl) ?_
  intro p e s m args below meth c hG hr hX
  unfold L_bound at hf
  refine v_aload_n hG 3 rfl rfl dL_bound_0 ?_
  refine v_iconst hG (v := 0) (by decide) dL_bound_1 ?_
  refine v_aload_n hG 0 rfl rfl dL_bound_2 ?_
  refine v_iload_n hG 1 rfl rfl dL_bound_3 ?_
  refine v_iload_n hG 2 rfl rfl dL_bound_4 ?_
  obtain ⟨r5, hr5, hf⟩ := bd_some hf
  rcases r5 with x5 | r5
  · rcases x5 with ⟨e5, y5⟩
    simp only [Sum.elim_inl] at hf
    by_cases hE : e5 = "java/lang/IllegalStateException"
    · subst hE
      rw [if_pos rfl] at hf
      refine l_callC (wc := ccells g ad w.1) (wc' := ccells g ad y5) (ext := oCell g ad w.2) (st := [.int 0, .ref (ad 73)]) hG hX 0 8 [] ⟨0, 10, 13, 13⟩ [⟨0, 10, 17, 25⟩] rfl (fun z hz => by cases hz) rfl (by decide) wk_420 (by decide +kernel) (ct_X8_bound l hl g ad w.1 a0 a1 (.inl ("java/lang/IllegalStateException", y5)) hr5) iw_X8_bound wk_804 rfl rfl ⟨rfl, rfl, Nat.le_of_ble_eq_true rfl, Nat.le_of_ble_eq_true rfl⟩ ⟨Nat.le_of_ble_eq_true rfl, Nat.le_of_ble_eq_true rfl⟩ rfl rfl (Nat.le_of_ble_eq_true rfl) rfl dL_bound_5 (fun q5 => ?_)
      refine (show V p l e (x_rm 8 2 133) s m args below meth c (inW (lcells g ad w)) (EL below args s g (lcells g ad w) (lcells g ad rr.2) (some (.int rr.1)) 2 12) g 5 (lcells g ad (y5, w.2)) 2 12 13 [(0, .ref (ad 0)), (1, .int a0), (2, .int a1), (3, .ref (ad 73))] [.ref q5] from ?_)
      refine v_astore hG [(4, _), (0, _), (1, _), (2, _), (3, _)] dL_bound_13 (by decide) rfl ?_
      refine v_iconst hG (v := 1) (by decide) dL_bound_15 ?_
      cases hf
      exact l_iret hG hr ⟨Nat.le_of_ble_eq_true rfl, Nat.le_of_ble_eq_true rfl⟩ dL_bound_16
    · rw [if_neg hE] at hf
      by_cases hE : e5 = "java/lang/IndexOutOfBoundsException"
      · subst hE
        rw [if_pos rfl] at hf
        refine l_callC (wc := ccells g ad w.1) (wc' := ccells g ad y5) (ext := oCell g ad w.2) (st := [.int 0, .ref (ad 73)]) hG hX 0 8 [⟨0, 10, 13, 13⟩] ⟨0, 10, 17, 25⟩ [] rfl (List.forall_mem_cons.mpr ⟨⟨by decide, _, wk_420, by decide +kernel⟩, (fun _ h => absurd h List.not_mem_nil)⟩) rfl (by decide) wk_528 (by decide +kernel) (ct_X8_bound l hl g ad w.1 a0 a1 (.inl ("java/lang/IndexOutOfBoundsException", y5)) hr5) iw_X8_bound wk_804 rfl rfl ⟨rfl, rfl, Nat.le_of_ble_eq_true rfl, Nat.le_of_ble_eq_true rfl⟩ ⟨Nat.le_of_ble_eq_true rfl, Nat.le_of_ble_eq_true rfl⟩ rfl rfl (Nat.le_of_ble_eq_true rfl) rfl dL_bound_5 (fun q5 => ?_)
        refine (show V p l e (x_rm 8 2 133) s m args below meth c (inW (lcells g ad w)) (EL below args s g (lcells g ad w) (lcells g ad rr.2) (some (.int rr.1)) 2 12) g 5 (lcells g ad (y5, w.2)) 2 12 17 [(0, .ref (ad 0)), (1, .int a0), (2, .int a1), (3, .ref (ad 73))] [.ref q5] from ?_)
        refine v_astore hG [(4, _), (0, _), (1, _), (2, _), (3, _)] dL_bound_17 (by decide) rfl ?_
        refine v_iconst hG (v := 2) (by decide) dL_bound_19 ?_
        cases hf
        exact l_iret hG hr ⟨Nat.le_of_ble_eq_true rfl, Nat.le_of_ble_eq_true rfl⟩ dL_bound_20
      · rw [if_neg hE] at hf
        cases hf
  · simp only [Sum.elim_inr] at hf
    refine l_callR (wc := ccells g ad w.1) (ext := oCell g ad w.2) (st := [.int 0, .ref (ad 73)]) hG hX 0 8 (ct_X8_bound l hl g ad w.1 a0 a1 (.inr r5) hr5) iw_X8_bound wk_804 rfl rfl ⟨rfl, rfl, Nat.le_of_ble_eq_true rfl, Nat.le_of_ble_eq_true rfl⟩ ⟨Nat.le_of_ble_eq_true rfl, Nat.le_of_ble_eq_true rfl⟩ rfl rfl (Nat.le_of_ble_eq_true rfl) rfl dL_bound_5 ?_
    refine (show V p l e (x_rm 8 2 133) s m args below meth c (inW (lcells g ad w)) (EL below args s g (lcells g ad w) (lcells g ad rr.2) (some (.int rr.1)) 2 12) g 5 (lcells g ad (w.1, w.2)) 2 12 8 [(0, .ref (ad 0)), (1, .int a0), (2, .int a1), (3, .ref (ad 73))] [.int r5, .int 0, .ref (ad 73)] from ?_)
    refine v_i2l hG dL_bound_8 ?_
    refine l_s_out hG dL_bound_9 hf (fun w9 hf => ?_)
    refine v_goto hG 21 dL_bound_10 rfl ?_
    refine v_iconst hG (v := 0) (by decide) dL_bound_21 ?_
    cases hf
    exact l_iret hG hr ⟨Nat.le_of_ble_eq_true rfl, Nat.le_of_ble_eq_true rfl⟩ dL_bound_22
set_option maxRecDepth 100000 in
set_option maxHeartbeats 4000000 in
theorem ct_L_cost (l : Launch) (hl : l.stackTraces = false) (g : wG) (ad : Nat → Nat) (w : LW) (a0 : Int32) (rr : Int32 × LW) (hf : L_cost w a0 = some rr) : MetL l g yL_cost cL_cost 4 (some .int) [(0, 9, 12, 13), (0, 9, 15, 25)] (x_rm 8 2 132) [.ref (ad 0), .int a0, .ref (ad 73)] (lcells g ad w) (lcells g ad rr.2) (some (.int rr.1)) 2 12 := by
  refine MetL.of2 [(0, .ref (ad 0)), (1, .int a0), (2, .ref (ad 73))] rfl (by decide +kernel) (Nat.le_of_ble_eq_true rfl) ?_
  intro p e s m args below meth c hG hr hX
  unfold L_cost at hf
  refine v_aload_n hG 2 rfl rfl dL_cost_0 ?_
  refine v_iconst hG (v := 0) (by decide) dL_cost_1 ?_
  refine v_aload_n hG 0 rfl rfl dL_cost_2 ?_
  refine v_iload_n hG 1 rfl rfl dL_cost_3 ?_
  obtain ⟨r4, hr4, hf⟩ := bd_some hf
  rcases r4 with x4 | r4
  · rcases x4 with ⟨e4, y4⟩
    simp only [Sum.elim_inl] at hf
    by_cases hE : e4 = "java/lang/IllegalStateException"
    · subst hE
      rw [if_pos rfl] at hf
      refine l_callC (wc := ccells g ad w.1) (wc' := ccells g ad y4) (ext := oCell g ad w.2) (st := [.int 0, .ref (ad 73)]) hG hX 0 8 [] ⟨0, 9, 12, 13⟩ [⟨0, 9, 15, 25⟩] rfl (fun z hz => by cases hz) rfl (by decide) wk_420 (by decide +kernel) (ct_X8_cost l hl g ad w.1 a0 (.inl ("java/lang/IllegalStateException", y4)) hr4) iw_X8_cost wk_811 rfl rfl ⟨rfl, rfl, Nat.le_of_ble_eq_true rfl, Nat.le_of_ble_eq_true rfl⟩ ⟨Nat.le_of_ble_eq_true rfl, Nat.le_of_ble_eq_true rfl⟩ rfl rfl (Nat.le_of_ble_eq_true rfl) rfl dL_cost_4 (fun q4 => ?_)
      refine (show V p l e (x_rm 8 2 132) s m args below meth c (inW (lcells g ad w)) (EL below args s g (lcells g ad w) (lcells g ad rr.2) (some (.int rr.1)) 2 12) g 4 (lcells g ad (y4, w.2)) 2 12 12 [(0, .ref (ad 0)), (1, .int a0), (2, .ref (ad 73))] [.ref q4] from ?_)
      refine v_astore_n hG [(3, _), (0, _), (1, _), (2, _)] dL_cost_12 rfl (by decide) rfl ?_
      refine v_iconst hG (v := 1) (by decide) dL_cost_13 ?_
      cases hf
      exact l_iret hG hr ⟨Nat.le_of_ble_eq_true rfl, Nat.le_of_ble_eq_true rfl⟩ dL_cost_14
    · rw [if_neg hE] at hf
      by_cases hE : e4 = "java/lang/IndexOutOfBoundsException"
      · subst hE
        rw [if_pos rfl] at hf
        refine l_callC (wc := ccells g ad w.1) (wc' := ccells g ad y4) (ext := oCell g ad w.2) (st := [.int 0, .ref (ad 73)]) hG hX 0 8 [⟨0, 9, 12, 13⟩] ⟨0, 9, 15, 25⟩ [] rfl (List.forall_mem_cons.mpr ⟨⟨by decide, _, wk_420, by decide +kernel⟩, (fun _ h => absurd h List.not_mem_nil)⟩) rfl (by decide) wk_528 (by decide +kernel) (ct_X8_cost l hl g ad w.1 a0 (.inl ("java/lang/IndexOutOfBoundsException", y4)) hr4) iw_X8_cost wk_811 rfl rfl ⟨rfl, rfl, Nat.le_of_ble_eq_true rfl, Nat.le_of_ble_eq_true rfl⟩ ⟨Nat.le_of_ble_eq_true rfl, Nat.le_of_ble_eq_true rfl⟩ rfl rfl (Nat.le_of_ble_eq_true rfl) rfl dL_cost_4 (fun q4 => ?_)
        refine (show V p l e (x_rm 8 2 132) s m args below meth c (inW (lcells g ad w)) (EL below args s g (lcells g ad w) (lcells g ad rr.2) (some (.int rr.1)) 2 12) g 4 (lcells g ad (y4, w.2)) 2 12 15 [(0, .ref (ad 0)), (1, .int a0), (2, .ref (ad 73))] [.ref q4] from ?_)
        refine v_astore_n hG [(3, _), (0, _), (1, _), (2, _)] dL_cost_15 rfl (by decide) rfl ?_
        refine v_iconst hG (v := 2) (by decide) dL_cost_16 ?_
        cases hf
        exact l_iret hG hr ⟨Nat.le_of_ble_eq_true rfl, Nat.le_of_ble_eq_true rfl⟩ dL_cost_17
      · rw [if_neg hE] at hf
        cases hf
  · simp only [Sum.elim_inr] at hf
    refine l_callR (wc := ccells g ad w.1) (ext := oCell g ad w.2) (st := [.int 0, .ref (ad 73)]) hG hX 0 8 (ct_X8_cost l hl g ad w.1 a0 (.inr r4) hr4) iw_X8_cost wk_811 rfl rfl ⟨rfl, rfl, Nat.le_of_ble_eq_true rfl, Nat.le_of_ble_eq_true rfl⟩ ⟨Nat.le_of_ble_eq_true rfl, Nat.le_of_ble_eq_true rfl⟩ rfl rfl (Nat.le_of_ble_eq_true rfl) rfl dL_cost_4 ?_
    refine (show V p l e (x_rm 8 2 132) s m args below meth c (inW (lcells g ad w)) (EL below args s g (lcells g ad w) (lcells g ad rr.2) (some (.int rr.1)) 2 12) g 4 (lcells g ad (w.1, w.2)) 2 12 7 [(0, .ref (ad 0)), (1, .int a0), (2, .ref (ad 73))] [.int r4, .int 0, .ref (ad 73)] from ?_)
    refine v_i2l hG dL_cost_7 ?_
    refine l_s_out hG dL_cost_8 hf (fun w8 hf => ?_)
    refine v_goto hG 18 dL_cost_9 rfl ?_
    refine v_iconst hG (v := 0) (by decide) dL_cost_18 ?_
    cases hf
    exact l_iret hG hr ⟨Nat.le_of_ble_eq_true rfl, Nat.le_of_ble_eq_true rfl⟩ dL_cost_19
set_option maxRecDepth 100000 in
set_option maxHeartbeats 4000000 in
theorem ct_L_kind (l : Launch) (hl : l.stackTraces = false) (g : wG) (ad : Nat → Nat) (w : LW) (a0 : Int32) (rr : Int32 × LW) (hf : L_kind w a0 = some rr) : MetL l g yL_kind cL_kind 4 (some .int) [(0, 9, 12, 13), (0, 9, 15, 25)] (x_rm 8 2 132) [.ref (ad 0), .int a0, .ref (ad 73)] (lcells g ad w) (lcells g ad rr.2) (some (.int rr.1)) 2 12 := by
  refine MetL.of2 [(0, .ref (ad 0)), (1, .int a0), (2, .ref (ad 73))] rfl (by decide +kernel) (Nat.le_of_ble_eq_true rfl) ?_
  intro p e s m args below meth c hG hr hX
  unfold L_kind at hf
  refine v_aload_n hG 2 rfl rfl dL_kind_0 ?_
  refine v_iconst hG (v := 0) (by decide) dL_kind_1 ?_
  refine v_aload_n hG 0 rfl rfl dL_kind_2 ?_
  refine v_iload_n hG 1 rfl rfl dL_kind_3 ?_
  obtain ⟨r4, hr4, hf⟩ := bd_some hf
  rcases r4 with x4 | r4
  · rcases x4 with ⟨e4, y4⟩
    simp only [Sum.elim_inl] at hf
    by_cases hE : e4 = "java/lang/IllegalStateException"
    · subst hE
      rw [if_pos rfl] at hf
      refine l_callC (wc := ccells g ad w.1) (wc' := ccells g ad y4) (ext := oCell g ad w.2) (st := [.int 0, .ref (ad 73)]) hG hX 0 8 [] ⟨0, 9, 12, 13⟩ [⟨0, 9, 15, 25⟩] rfl (fun z hz => by cases hz) rfl (by decide) wk_420 (by decide +kernel) (ct_X8_kind l hl g ad w.1 a0 (.inl ("java/lang/IllegalStateException", y4)) hr4) iw_X8_kind wk_819 rfl rfl ⟨rfl, rfl, Nat.le_of_ble_eq_true rfl, Nat.le_of_ble_eq_true rfl⟩ ⟨Nat.le_of_ble_eq_true rfl, Nat.le_of_ble_eq_true rfl⟩ rfl rfl (Nat.le_of_ble_eq_true rfl) rfl dL_kind_4 (fun q4 => ?_)
      refine (show V p l e (x_rm 8 2 132) s m args below meth c (inW (lcells g ad w)) (EL below args s g (lcells g ad w) (lcells g ad rr.2) (some (.int rr.1)) 2 12) g 4 (lcells g ad (y4, w.2)) 2 12 12 [(0, .ref (ad 0)), (1, .int a0), (2, .ref (ad 73))] [.ref q4] from ?_)
      refine v_astore_n hG [(3, _), (0, _), (1, _), (2, _)] dL_kind_12 rfl (by decide) rfl ?_
      refine v_iconst hG (v := 1) (by decide) dL_kind_13 ?_
      cases hf
      exact l_iret hG hr ⟨Nat.le_of_ble_eq_true rfl, Nat.le_of_ble_eq_true rfl⟩ dL_kind_14
    · rw [if_neg hE] at hf
      by_cases hE : e4 = "java/lang/IndexOutOfBoundsException"
      · subst hE
        rw [if_pos rfl] at hf
        refine l_callC (wc := ccells g ad w.1) (wc' := ccells g ad y4) (ext := oCell g ad w.2) (st := [.int 0, .ref (ad 73)]) hG hX 0 8 [⟨0, 9, 12, 13⟩] ⟨0, 9, 15, 25⟩ [] rfl (List.forall_mem_cons.mpr ⟨⟨by decide, _, wk_420, by decide +kernel⟩, (fun _ h => absurd h List.not_mem_nil)⟩) rfl (by decide) wk_528 (by decide +kernel) (ct_X8_kind l hl g ad w.1 a0 (.inl ("java/lang/IndexOutOfBoundsException", y4)) hr4) iw_X8_kind wk_819 rfl rfl ⟨rfl, rfl, Nat.le_of_ble_eq_true rfl, Nat.le_of_ble_eq_true rfl⟩ ⟨Nat.le_of_ble_eq_true rfl, Nat.le_of_ble_eq_true rfl⟩ rfl rfl (Nat.le_of_ble_eq_true rfl) rfl dL_kind_4 (fun q4 => ?_)
        refine (show V p l e (x_rm 8 2 132) s m args below meth c (inW (lcells g ad w)) (EL below args s g (lcells g ad w) (lcells g ad rr.2) (some (.int rr.1)) 2 12) g 4 (lcells g ad (y4, w.2)) 2 12 15 [(0, .ref (ad 0)), (1, .int a0), (2, .ref (ad 73))] [.ref q4] from ?_)
        refine v_astore_n hG [(3, _), (0, _), (1, _), (2, _)] dL_kind_15 rfl (by decide) rfl ?_
        refine v_iconst hG (v := 2) (by decide) dL_kind_16 ?_
        cases hf
        exact l_iret hG hr ⟨Nat.le_of_ble_eq_true rfl, Nat.le_of_ble_eq_true rfl⟩ dL_kind_17
      · rw [if_neg hE] at hf
        cases hf
  · simp only [Sum.elim_inr] at hf
    refine l_callR (wc := ccells g ad w.1) (ext := oCell g ad w.2) (st := [.int 0, .ref (ad 73)]) hG hX 0 8 (ct_X8_kind l hl g ad w.1 a0 (.inr r4) hr4) iw_X8_kind wk_819 rfl rfl ⟨rfl, rfl, Nat.le_of_ble_eq_true rfl, Nat.le_of_ble_eq_true rfl⟩ ⟨Nat.le_of_ble_eq_true rfl, Nat.le_of_ble_eq_true rfl⟩ rfl rfl (Nat.le_of_ble_eq_true rfl) rfl dL_kind_4 ?_
    refine (show V p l e (x_rm 8 2 132) s m args below meth c (inW (lcells g ad w)) (EL below args s g (lcells g ad w) (lcells g ad rr.2) (some (.int rr.1)) 2 12) g 4 (lcells g ad (w.1, w.2)) 2 12 7 [(0, .ref (ad 0)), (1, .int a0), (2, .ref (ad 73))] [.int r4, .int 0, .ref (ad 73)] from ?_)
    refine v_i2l hG dL_kind_7 ?_
    refine l_s_out hG dL_kind_8 hf (fun w8 hf => ?_)
    refine v_goto hG 18 dL_kind_9 rfl ?_
    refine v_iconst hG (v := 0) (by decide) dL_kind_18 ?_
    cases hf
    exact l_iret hG hr ⟨Nat.le_of_ble_eq_true rfl, Nat.le_of_ble_eq_true rfl⟩ dL_kind_19
set_option maxRecDepth 100000 in
set_option maxHeartbeats 4000000 in
theorem ct_L_right (l : Launch) (hl : l.stackTraces = false) (g : wG) (ad : Nat → Nat) (w : LW) (a0 : Int32) (rr : Int32 × LW) (hf : L_right w a0 = some rr) : MetL l g yL_right cL_right 4 (some .int) [(0, 8, 11, 13), (0, 8, 14, 25)] (x_rm 8 2 132) [.ref (ad 0), .int a0, .ref (ad 73)] (lcells g ad w) (lcells g ad rr.2) (some (.int rr.1)) 2 12 := by
  refine MetL.of2 [(0, .ref (ad 0)), (1, .int a0), (2, .ref (ad 73))] rfl (by decide +kernel) (Nat.le_of_ble_eq_true rfl) ?_
  intro p e s m args below meth c hG hr hX
  unfold L_right at hf
  refine v_aload_n hG 2 rfl rfl dL_right_0 ?_
  refine v_iconst hG (v := 0) (by decide) dL_right_1 ?_
  refine v_aload_n hG 0 rfl rfl dL_right_2 ?_
  refine v_iload_n hG 1 rfl rfl dL_right_3 ?_
  obtain ⟨r4, hr4, hf⟩ := bd_some hf
  rcases r4 with x4 | r4
  · rcases x4 with ⟨e4, y4⟩
    simp only [Sum.elim_inl] at hf
    by_cases hE : e4 = "java/lang/IllegalStateException"
    · subst hE
      rw [if_pos rfl] at hf
      refine l_callC (wc := ccells g ad w.1) (wc' := ccells g ad y4) (ext := oCell g ad w.2) (st := [.int 0, .ref (ad 73)]) hG hX 0 8 [] ⟨0, 8, 11, 13⟩ [⟨0, 8, 14, 25⟩] rfl (fun z hz => by cases hz) rfl (by decide) wk_420 (by decide +kernel) (ct_X8_right l hl g ad w.1 a0 (.inl ("java/lang/IllegalStateException", y4)) hr4) iw_X8_right wk_826 rfl rfl ⟨rfl, rfl, Nat.le_of_ble_eq_true rfl, Nat.le_of_ble_eq_true rfl⟩ ⟨Nat.le_of_ble_eq_true rfl, Nat.le_of_ble_eq_true rfl⟩ rfl rfl (Nat.le_of_ble_eq_true rfl) rfl dL_right_4 (fun q4 => ?_)
      refine (show V p l e (x_rm 8 2 132) s m args below meth c (inW (lcells g ad w)) (EL below args s g (lcells g ad w) (lcells g ad rr.2) (some (.int rr.1)) 2 12) g 4 (lcells g ad (y4, w.2)) 2 12 11 [(0, .ref (ad 0)), (1, .int a0), (2, .ref (ad 73))] [.ref q4] from ?_)
      refine v_astore_n hG [(3, _), (0, _), (1, _), (2, _)] dL_right_11 rfl (by decide) rfl ?_
      refine v_iconst hG (v := 1) (by decide) dL_right_12 ?_
      cases hf
      exact l_iret hG hr ⟨Nat.le_of_ble_eq_true rfl, Nat.le_of_ble_eq_true rfl⟩ dL_right_13
    · rw [if_neg hE] at hf
      by_cases hE : e4 = "java/lang/IndexOutOfBoundsException"
      · subst hE
        rw [if_pos rfl] at hf
        refine l_callC (wc := ccells g ad w.1) (wc' := ccells g ad y4) (ext := oCell g ad w.2) (st := [.int 0, .ref (ad 73)]) hG hX 0 8 [⟨0, 8, 11, 13⟩] ⟨0, 8, 14, 25⟩ [] rfl (List.forall_mem_cons.mpr ⟨⟨by decide, _, wk_420, by decide +kernel⟩, (fun _ h => absurd h List.not_mem_nil)⟩) rfl (by decide) wk_528 (by decide +kernel) (ct_X8_right l hl g ad w.1 a0 (.inl ("java/lang/IndexOutOfBoundsException", y4)) hr4) iw_X8_right wk_826 rfl rfl ⟨rfl, rfl, Nat.le_of_ble_eq_true rfl, Nat.le_of_ble_eq_true rfl⟩ ⟨Nat.le_of_ble_eq_true rfl, Nat.le_of_ble_eq_true rfl⟩ rfl rfl (Nat.le_of_ble_eq_true rfl) rfl dL_right_4 (fun q4 => ?_)
        refine (show V p l e (x_rm 8 2 132) s m args below meth c (inW (lcells g ad w)) (EL below args s g (lcells g ad w) (lcells g ad rr.2) (some (.int rr.1)) 2 12) g 4 (lcells g ad (y4, w.2)) 2 12 14 [(0, .ref (ad 0)), (1, .int a0), (2, .ref (ad 73))] [.ref q4] from ?_)
        refine v_astore_n hG [(3, _), (0, _), (1, _), (2, _)] dL_right_14 rfl (by decide) rfl ?_
        refine v_iconst hG (v := 2) (by decide) dL_right_15 ?_
        cases hf
        exact l_iret hG hr ⟨Nat.le_of_ble_eq_true rfl, Nat.le_of_ble_eq_true rfl⟩ dL_right_16
      · rw [if_neg hE] at hf
        cases hf
  · simp only [Sum.elim_inr] at hf
    refine l_callR (wc := ccells g ad w.1) (ext := oCell g ad w.2) (st := [.int 0, .ref (ad 73)]) hG hX 0 8 (ct_X8_right l hl g ad w.1 a0 (.inr r4) hr4) iw_X8_right wk_826 rfl rfl ⟨rfl, rfl, Nat.le_of_ble_eq_true rfl, Nat.le_of_ble_eq_true rfl⟩ ⟨Nat.le_of_ble_eq_true rfl, Nat.le_of_ble_eq_true rfl⟩ rfl rfl (Nat.le_of_ble_eq_true rfl) rfl dL_right_4 ?_
    refine (show V p l e (x_rm 8 2 132) s m args below meth c (inW (lcells g ad w)) (EL below args s g (lcells g ad w) (lcells g ad rr.2) (some (.int rr.1)) 2 12) g 4 (lcells g ad (w.1, w.2)) 2 12 7 [(0, .ref (ad 0)), (1, .int a0), (2, .ref (ad 73))] [.long r4, .int 0, .ref (ad 73)] from ?_)
    refine l_s_out hG dL_right_7 hf (fun w7 hf => ?_)
    refine v_goto hG 17 dL_right_8 rfl ?_
    refine v_iconst hG (v := 0) (by decide) dL_right_17 ?_
    cases hf
    exact l_iret hG hr ⟨Nat.le_of_ble_eq_true rfl, Nat.le_of_ble_eq_true rfl⟩ dL_right_18
set_option maxRecDepth 100000 in
set_option maxHeartbeats 4000000 in
theorem ct_L_coefficient (l : Launch) (hl : l.stackTraces = false) (g : wG) (ad : Nat → Nat) (w : LW) (a0 : Int32) (a1 : Int32) (rr : Int32 × LW) (hf : L_coefficient w a0 a1 = some rr) : MetL l g yL_coefficient cL_coefficient 5 (some .int) [(0, 10, 13, 13), (0, 10, 17, 25)] (x_rm 8 3 133) [.ref (ad 0), .int a0, .int a1, .ref (ad 73)] (lcells g ad w) (lcells g ad rr.2) (some (.int rr.1)) 3 18 := by
  refine MetL.of2 [(0, .ref (ad 0)), (1, .int a0), (2, .int a1), (3, .ref (ad 73))] rfl (by decide +kernel) (Nat.le_of_ble_eq_true rfl) ?_
  intro p e s m args below meth c hG hr hX
  unfold L_coefficient at hf
  refine v_aload_n hG 3 rfl rfl dL_coefficient_0 ?_
  refine v_iconst hG (v := 0) (by decide) dL_coefficient_1 ?_
  refine v_aload_n hG 0 rfl rfl dL_coefficient_2 ?_
  refine v_iload_n hG 1 rfl rfl dL_coefficient_3 ?_
  refine v_iload_n hG 2 rfl rfl dL_coefficient_4 ?_
  obtain ⟨r5, hr5, hf⟩ := bd_some hf
  rcases r5 with x5 | r5
  · rcases x5 with ⟨e5, y5⟩
    simp only [Sum.elim_inl] at hf
    by_cases hE : e5 = "java/lang/IllegalStateException"
    · subst hE
      rw [if_pos rfl] at hf
      refine l_callC (wc := ccells g ad w.1) (wc' := ccells g ad y5) (ext := oCell g ad w.2) (st := [.int 0, .ref (ad 73)]) hG hX 0 8 [] ⟨0, 10, 13, 13⟩ [⟨0, 10, 17, 25⟩] rfl (fun z hz => by cases hz) rfl (by decide) wk_420 (by decide +kernel) (ct_X8_coefficient l hl g ad w.1 a0 a1 (.inl ("java/lang/IllegalStateException", y5)) hr5) iw_X8_coefficient wk_833 rfl rfl ⟨rfl, rfl, Nat.le_of_ble_eq_true rfl, Nat.le_of_ble_eq_true rfl⟩ ⟨Nat.le_of_ble_eq_true rfl, Nat.le_of_ble_eq_true rfl⟩ rfl rfl (Nat.le_of_ble_eq_true rfl) rfl dL_coefficient_5 (fun q5 => ?_)
      refine (show V p l e (x_rm 8 3 133) s m args below meth c (inW (lcells g ad w)) (EL below args s g (lcells g ad w) (lcells g ad rr.2) (some (.int rr.1)) 3 18) g 5 (lcells g ad (y5, w.2)) 3 18 13 [(0, .ref (ad 0)), (1, .int a0), (2, .int a1), (3, .ref (ad 73))] [.ref q5] from ?_)
      refine v_astore hG [(4, _), (0, _), (1, _), (2, _), (3, _)] dL_coefficient_13 (by decide) rfl ?_
      refine v_iconst hG (v := 1) (by decide) dL_coefficient_15 ?_
      cases hf
      exact l_iret hG hr ⟨Nat.le_of_ble_eq_true rfl, Nat.le_of_ble_eq_true rfl⟩ dL_coefficient_16
    · rw [if_neg hE] at hf
      by_cases hE : e5 = "java/lang/IndexOutOfBoundsException"
      · subst hE
        rw [if_pos rfl] at hf
        refine l_callC (wc := ccells g ad w.1) (wc' := ccells g ad y5) (ext := oCell g ad w.2) (st := [.int 0, .ref (ad 73)]) hG hX 0 8 [⟨0, 10, 13, 13⟩] ⟨0, 10, 17, 25⟩ [] rfl (List.forall_mem_cons.mpr ⟨⟨by decide, _, wk_420, by decide +kernel⟩, (fun _ h => absurd h List.not_mem_nil)⟩) rfl (by decide) wk_528 (by decide +kernel) (ct_X8_coefficient l hl g ad w.1 a0 a1 (.inl ("java/lang/IndexOutOfBoundsException", y5)) hr5) iw_X8_coefficient wk_833 rfl rfl ⟨rfl, rfl, Nat.le_of_ble_eq_true rfl, Nat.le_of_ble_eq_true rfl⟩ ⟨Nat.le_of_ble_eq_true rfl, Nat.le_of_ble_eq_true rfl⟩ rfl rfl (Nat.le_of_ble_eq_true rfl) rfl dL_coefficient_5 (fun q5 => ?_)
        refine (show V p l e (x_rm 8 3 133) s m args below meth c (inW (lcells g ad w)) (EL below args s g (lcells g ad w) (lcells g ad rr.2) (some (.int rr.1)) 3 18) g 5 (lcells g ad (y5, w.2)) 3 18 17 [(0, .ref (ad 0)), (1, .int a0), (2, .int a1), (3, .ref (ad 73))] [.ref q5] from ?_)
        refine v_astore hG [(4, _), (0, _), (1, _), (2, _), (3, _)] dL_coefficient_17 (by decide) rfl ?_
        refine v_iconst hG (v := 2) (by decide) dL_coefficient_19 ?_
        cases hf
        exact l_iret hG hr ⟨Nat.le_of_ble_eq_true rfl, Nat.le_of_ble_eq_true rfl⟩ dL_coefficient_20
      · rw [if_neg hE] at hf
        cases hf
  · simp only [Sum.elim_inr] at hf
    refine l_callR (wc := ccells g ad w.1) (ext := oCell g ad w.2) (st := [.int 0, .ref (ad 73)]) hG hX 0 8 (ct_X8_coefficient l hl g ad w.1 a0 a1 (.inr r5) hr5) iw_X8_coefficient wk_833 rfl rfl ⟨rfl, rfl, Nat.le_of_ble_eq_true rfl, Nat.le_of_ble_eq_true rfl⟩ ⟨Nat.le_of_ble_eq_true rfl, Nat.le_of_ble_eq_true rfl⟩ rfl rfl (Nat.le_of_ble_eq_true rfl) rfl dL_coefficient_5 ?_
    refine (show V p l e (x_rm 8 3 133) s m args below meth c (inW (lcells g ad w)) (EL below args s g (lcells g ad w) (lcells g ad rr.2) (some (.int rr.1)) 3 18) g 5 (lcells g ad (w.1, w.2)) 3 18 8 [(0, .ref (ad 0)), (1, .int a0), (2, .int a1), (3, .ref (ad 73))] [.int r5, .int 0, .ref (ad 73)] from ?_)
    refine v_i2l hG dL_coefficient_8 ?_
    refine l_s_out hG dL_coefficient_9 hf (fun w9 hf => ?_)
    refine v_goto hG 21 dL_coefficient_10 rfl ?_
    refine v_iconst hG (v := 0) (by decide) dL_coefficient_21 ?_
    cases hf
    exact l_iret hG hr ⟨Nat.le_of_ble_eq_true rfl, Nat.le_of_ble_eq_true rfl⟩ dL_coefficient_22
set_option maxRecDepth 100000 in
set_option maxHeartbeats 4000000 in
theorem ct_L_offset (l : Launch) (hl : l.stackTraces = false) (g : wG) (ad : Nat → Nat) (w : LW) (rr : Int32 × LW) (hf : L_offset w = some rr) : MetL l g yL_offset cL_offset 3 (some .int) [(0, 7, 10, 13)] (x_rm 8 1 130) [.ref (ad 0), .ref (ad 73)] (lcells g ad w) (lcells g ad rr.2) (some (.int rr.1)) 1 6 := by
  refine MetL.of2 [(0, .ref (ad 0)), (1, .ref (ad 73))] rfl (by decide +kernel) (Nat.le_of_ble_eq_true rfl) ?_
  intro p e s m args below meth c hG hr hX
  unfold L_offset at hf
  refine v_aload_n hG 1 rfl rfl dL_offset_0 ?_
  refine v_iconst hG (v := 0) (by decide) dL_offset_1 ?_
  refine v_aload_n hG 0 rfl rfl dL_offset_2 ?_
  obtain ⟨r3, hr3, hf⟩ := bd_some hf
  rcases r3 with x3 | r3
  · rcases x3 with ⟨e3, y3⟩
    simp only [Sum.elim_inl] at hf
    by_cases hE : e3 = "java/lang/IllegalStateException"
    · subst hE
      rw [if_pos rfl] at hf
      refine l_callC (wc := ccells g ad w.1) (wc' := ccells g ad y3) (ext := oCell g ad w.2) (st := [.int 0, .ref (ad 73)]) hG hX 0 8 [] ⟨0, 7, 10, 13⟩ [] rfl (fun z hz => by cases hz) rfl (by decide) wk_420 (by decide +kernel) (ct_X8_offset l hl g ad w.1  (.inl ("java/lang/IllegalStateException", y3)) hr3) iw_X8_offset wk_841 rfl rfl ⟨rfl, rfl, Nat.le_of_ble_eq_true rfl, Nat.le_of_ble_eq_true rfl⟩ ⟨Nat.le_of_ble_eq_true rfl, Nat.le_of_ble_eq_true rfl⟩ rfl rfl (Nat.le_of_ble_eq_true rfl) rfl dL_offset_3 (fun q3 => ?_)
      refine (show V p l e (x_rm 8 1 130) s m args below meth c (inW (lcells g ad w)) (EL below args s g (lcells g ad w) (lcells g ad rr.2) (some (.int rr.1)) 1 6) g 3 (lcells g ad (y3, w.2)) 1 6 10 [(0, .ref (ad 0)), (1, .ref (ad 73))] [.ref q3] from ?_)
      refine v_astore_n hG [(2, _), (0, _), (1, _)] dL_offset_10 rfl (by decide) rfl ?_
      refine v_iconst hG (v := 1) (by decide) dL_offset_11 ?_
      cases hf
      exact l_iret hG hr ⟨Nat.le_of_ble_eq_true rfl, Nat.le_of_ble_eq_true rfl⟩ dL_offset_12
    · rw [if_neg hE] at hf
      cases hf
  · simp only [Sum.elim_inr] at hf
    refine l_callR (wc := ccells g ad w.1) (ext := oCell g ad w.2) (st := [.int 0, .ref (ad 73)]) hG hX 0 8 (ct_X8_offset l hl g ad w.1  (.inr r3) hr3) iw_X8_offset wk_841 rfl rfl ⟨rfl, rfl, Nat.le_of_ble_eq_true rfl, Nat.le_of_ble_eq_true rfl⟩ ⟨Nat.le_of_ble_eq_true rfl, Nat.le_of_ble_eq_true rfl⟩ rfl rfl (Nat.le_of_ble_eq_true rfl) rfl dL_offset_3 ?_
    refine (show V p l e (x_rm 8 1 130) s m args below meth c (inW (lcells g ad w)) (EL below args s g (lcells g ad w) (lcells g ad rr.2) (some (.int rr.1)) 1 6) g 3 (lcells g ad (w.1, w.2)) 1 6 6 [(0, .ref (ad 0)), (1, .ref (ad 73))] [.long r3, .int 0, .ref (ad 73)] from ?_)
    refine l_s_out hG dL_offset_6 hf (fun w6 hf => ?_)
    refine v_goto hG 13 dL_offset_7 rfl ?_
    refine v_iconst hG (v := 0) (by decide) dL_offset_13 ?_
    cases hf
    exact l_iret hG hr ⟨Nat.le_of_ble_eq_true rfl, Nat.le_of_ble_eq_true rfl⟩ dL_offset_14
set_option maxRecDepth 100000 in
set_option maxHeartbeats 4000000 in
theorem ct_L_rest (l : Launch) (hl : l.stackTraces = false) (g : wG) (ad : Nat → Nat) (w : LW) (a0 : Int32) (a1 : Int32) (rr : Int32 × LW) (hf : L_rest w a0 a1 = some rr) : MetL l g yL_rest cL_rest 5 (some .int) [(0, 10, 13, 13), (0, 10, 17, 15), (0, 10, 21, 25)] (x_rm 8 2 133) [.ref (ad 0), .int a0, .int a1, .ref (ad 73)] (lcells g ad w) (lcells g ad rr.2) (some (.int rr.1)) 2 12 := by
  refine MetL.of2 [(0, .ref (ad 0)), (1, .int a0), (2, .int a1), (3, .ref (ad 73))] rfl (by decide +kernel) (Nat.le_of_ble_eq_true rfl) ?_
  intro p e s m args below meth c hG hr hX
  unfold L_rest at hf
  refine v_aload_n hG 3 rfl rfl dL_rest_0 ?_
  refine v_iconst hG (v := 0) (by decide) dL_rest_1 ?_
  refine v_aload_n hG 0 rfl rfl dL_rest_2 ?_
  refine v_iload_n hG 1 rfl rfl dL_rest_3 ?_
  refine v_iload_n hG 2 rfl rfl dL_rest_4 ?_
  obtain ⟨r5, hr5, hf⟩ := bd_some hf
  rcases r5 with x5 | r5
  · rcases x5 with ⟨e5, y5⟩
    simp only [Sum.elim_inl] at hf
    by_cases hE : e5 = "java/lang/IllegalStateException"
    · subst hE
      rw [if_pos rfl] at hf
      refine l_callC (wc := ccells g ad w.1) (wc' := ccells g ad y5) (ext := oCell g ad w.2) (st := [.int 0, .ref (ad 73)]) hG hX 0 8 [] ⟨0, 10, 13, 13⟩ [⟨0, 10, 17, 15⟩, ⟨0, 10, 21, 25⟩] rfl (fun z hz => by cases hz) rfl (by decide) wk_420 (by decide +kernel) (ct_X8_rest l hl g ad w.1 a0 a1 (.inl ("java/lang/IllegalStateException", y5)) hr5) iw_X8_rest wk_848 rfl rfl ⟨rfl, rfl, Nat.le_of_ble_eq_true rfl, Nat.le_of_ble_eq_true rfl⟩ ⟨Nat.le_of_ble_eq_true rfl, Nat.le_of_ble_eq_true rfl⟩ rfl rfl (Nat.le_of_ble_eq_true rfl) rfl dL_rest_5 (fun q5 => ?_)
      refine (show V p l e (x_rm 8 2 133) s m args below meth c (inW (lcells g ad w)) (EL below args s g (lcells g ad w) (lcells g ad rr.2) (some (.int rr.1)) 2 12) g 5 (lcells g ad (y5, w.2)) 2 12 13 [(0, .ref (ad 0)), (1, .int a0), (2, .int a1), (3, .ref (ad 73))] [.ref q5] from ?_)
      refine v_astore hG [(4, _), (0, _), (1, _), (2, _), (3, _)] dL_rest_13 (by decide) rfl ?_
      refine v_iconst hG (v := 1) (by decide) dL_rest_15 ?_
      cases hf
      exact l_iret hG hr ⟨Nat.le_of_ble_eq_true rfl, Nat.le_of_ble_eq_true rfl⟩ dL_rest_16
    · rw [if_neg hE] at hf
      by_cases hE : e5 = "java/lang/IllegalArgumentException"
      · subst hE
        rw [if_pos rfl] at hf
        refine l_callC (wc := ccells g ad w.1) (wc' := ccells g ad y5) (ext := oCell g ad w.2) (st := [.int 0, .ref (ad 73)]) hG hX 0 8 [⟨0, 10, 13, 13⟩] ⟨0, 10, 17, 15⟩ [⟨0, 10, 21, 25⟩] rfl (List.forall_mem_cons.mpr ⟨⟨by decide, _, wk_420, by decide +kernel⟩, (fun _ h => absurd h List.not_mem_nil)⟩) rfl (by decide) wk_421 (by decide +kernel) (ct_X8_rest l hl g ad w.1 a0 a1 (.inl ("java/lang/IllegalArgumentException", y5)) hr5) iw_X8_rest wk_848 rfl rfl ⟨rfl, rfl, Nat.le_of_ble_eq_true rfl, Nat.le_of_ble_eq_true rfl⟩ ⟨Nat.le_of_ble_eq_true rfl, Nat.le_of_ble_eq_true rfl⟩ rfl rfl (Nat.le_of_ble_eq_true rfl) rfl dL_rest_5 (fun q5 => ?_)
        refine (show V p l e (x_rm 8 2 133) s m args below meth c (inW (lcells g ad w)) (EL below args s g (lcells g ad w) (lcells g ad rr.2) (some (.int rr.1)) 2 12) g 5 (lcells g ad (y5, w.2)) 2 12 17 [(0, .ref (ad 0)), (1, .int a0), (2, .int a1), (3, .ref (ad 73))] [.ref q5] from ?_)
        refine v_astore hG [(4, _), (0, _), (1, _), (2, _), (3, _)] dL_rest_17 (by decide) rfl ?_
        refine v_iconst hG (v := 2) (by decide) dL_rest_19 ?_
        cases hf
        exact l_iret hG hr ⟨Nat.le_of_ble_eq_true rfl, Nat.le_of_ble_eq_true rfl⟩ dL_rest_20
      · rw [if_neg hE] at hf
        by_cases hE : e5 = "java/lang/IndexOutOfBoundsException"
        · subst hE
          rw [if_pos rfl] at hf
          refine l_callC (wc := ccells g ad w.1) (wc' := ccells g ad y5) (ext := oCell g ad w.2) (st := [.int 0, .ref (ad 73)]) hG hX 0 8 [⟨0, 10, 13, 13⟩, ⟨0, 10, 17, 15⟩] ⟨0, 10, 21, 25⟩ [] rfl (List.forall_mem_cons.mpr ⟨⟨by decide, _, wk_420, by decide +kernel⟩, (List.forall_mem_cons.mpr ⟨⟨by decide, _, wk_421, by decide +kernel⟩, (fun _ h => absurd h List.not_mem_nil)⟩)⟩) rfl (by decide) wk_528 (by decide +kernel) (ct_X8_rest l hl g ad w.1 a0 a1 (.inl ("java/lang/IndexOutOfBoundsException", y5)) hr5) iw_X8_rest wk_848 rfl rfl ⟨rfl, rfl, Nat.le_of_ble_eq_true rfl, Nat.le_of_ble_eq_true rfl⟩ ⟨Nat.le_of_ble_eq_true rfl, Nat.le_of_ble_eq_true rfl⟩ rfl rfl (Nat.le_of_ble_eq_true rfl) rfl dL_rest_5 (fun q5 => ?_)
          refine (show V p l e (x_rm 8 2 133) s m args below meth c (inW (lcells g ad w)) (EL below args s g (lcells g ad w) (lcells g ad rr.2) (some (.int rr.1)) 2 12) g 5 (lcells g ad (y5, w.2)) 2 12 21 [(0, .ref (ad 0)), (1, .int a0), (2, .int a1), (3, .ref (ad 73))] [.ref q5] from ?_)
          refine v_astore hG [(4, _), (0, _), (1, _), (2, _), (3, _)] dL_rest_21 (by decide) rfl ?_
          refine v_iconst hG (v := 3) (by decide) dL_rest_23 ?_
          cases hf
          exact l_iret hG hr ⟨Nat.le_of_ble_eq_true rfl, Nat.le_of_ble_eq_true rfl⟩ dL_rest_24
        · rw [if_neg hE] at hf
          cases hf
  · simp only [Sum.elim_inr] at hf
    refine l_callR (wc := ccells g ad w.1) (ext := oCell g ad w.2) (st := [.int 0, .ref (ad 73)]) hG hX 0 8 (ct_X8_rest l hl g ad w.1 a0 a1 (.inr r5) hr5) iw_X8_rest wk_848 rfl rfl ⟨rfl, rfl, Nat.le_of_ble_eq_true rfl, Nat.le_of_ble_eq_true rfl⟩ ⟨Nat.le_of_ble_eq_true rfl, Nat.le_of_ble_eq_true rfl⟩ rfl rfl (Nat.le_of_ble_eq_true rfl) rfl dL_rest_5 ?_
    refine (show V p l e (x_rm 8 2 133) s m args below meth c (inW (lcells g ad w)) (EL below args s g (lcells g ad w) (lcells g ad rr.2) (some (.int rr.1)) 2 12) g 5 (lcells g ad (w.1, w.2)) 2 12 8 [(0, .ref (ad 0)), (1, .int a0), (2, .int a1), (3, .ref (ad 73))] [.int r5, .int 0, .ref (ad 73)] from ?_)
    refine v_i2l hG dL_rest_8 ?_
    refine l_s_out hG dL_rest_9 hf (fun w9 hf => ?_)
    refine v_goto hG 25 dL_rest_10 rfl ?_
    refine v_iconst hG (v := 0) (by decide) dL_rest_25 ?_
    cases hf
    exact l_iret hG hr ⟨Nat.le_of_ble_eq_true rfl, Nat.le_of_ble_eq_true rfl⟩ dL_rest_26
set_option maxRecDepth 100000 in
set_option maxHeartbeats 4000000 in
theorem ct_L_certificate (l : Launch) (hl : l.stackTraces = false) (g : wG) (ad : Nat → Nat) (w : LW) (rr : Int32 × LW) (hf : L_certificate w = some rr) : MetL l g yL_certificate cL_certificate 3 (some .int) [(0, 8, 11, 13)] (x_rm 8 1 130) [.ref (ad 0), .ref (ad 73)] (lcells g ad w) (lcells g ad rr.2) (some (.int rr.1)) 1 6 := by
  refine MetL.of2 [(0, .ref (ad 0)), (1, .ref (ad 73))] rfl (by decide +kernel) (Nat.le_of_ble_eq_true rfl) ?_
  intro p e s m args below meth c hG hr hX
  unfold L_certificate at hf
  refine v_aload_n hG 1 rfl rfl dL_certificate_0 ?_
  refine v_iconst hG (v := 0) (by decide) dL_certificate_1 ?_
  refine v_aload_n hG 0 rfl rfl dL_certificate_2 ?_
  obtain ⟨r3, hr3, hf⟩ := bd_some hf
  rcases r3 with x3 | r3
  · rcases x3 with ⟨e3, y3⟩
    simp only [Sum.elim_inl] at hf
    by_cases hE : e3 = "java/lang/IllegalStateException"
    · subst hE
      rw [if_pos rfl] at hf
      refine l_callC (wc := ccells g ad w.1) (wc' := ccells g ad y3) (ext := oCell g ad w.2) (st := [.int 0, .ref (ad 73)]) hG hX 0 8 [] ⟨0, 8, 11, 13⟩ [] rfl (fun z hz => by cases hz) rfl (by decide) wk_420 (by decide +kernel) (ct_X8_certificate l hl g ad w.1  (.inl ("java/lang/IllegalStateException", y3)) hr3) iw_X8_certificate wk_856 rfl rfl ⟨rfl, rfl, Nat.le_of_ble_eq_true rfl, Nat.le_of_ble_eq_true rfl⟩ ⟨Nat.le_of_ble_eq_true rfl, Nat.le_of_ble_eq_true rfl⟩ rfl rfl (Nat.le_of_ble_eq_true rfl) rfl dL_certificate_3 (fun q3 => ?_)
      refine (show V p l e (x_rm 8 1 130) s m args below meth c (inW (lcells g ad w)) (EL below args s g (lcells g ad w) (lcells g ad rr.2) (some (.int rr.1)) 1 6) g 3 (lcells g ad (y3, w.2)) 1 6 11 [(0, .ref (ad 0)), (1, .ref (ad 73))] [.ref q3] from ?_)
      refine v_astore_n hG [(2, _), (0, _), (1, _)] dL_certificate_11 rfl (by decide) rfl ?_
      refine v_iconst hG (v := 1) (by decide) dL_certificate_12 ?_
      cases hf
      exact l_iret hG hr ⟨Nat.le_of_ble_eq_true rfl, Nat.le_of_ble_eq_true rfl⟩ dL_certificate_13
    · rw [if_neg hE] at hf
      cases hf
  · simp only [Sum.elim_inr] at hf
    refine l_callR (wc := ccells g ad w.1) (ext := oCell g ad w.2) (st := [.int 0, .ref (ad 73)]) hG hX 0 8 (ct_X8_certificate l hl g ad w.1  (.inr r3) hr3) iw_X8_certificate wk_856 rfl rfl ⟨rfl, rfl, Nat.le_of_ble_eq_true rfl, Nat.le_of_ble_eq_true rfl⟩ ⟨Nat.le_of_ble_eq_true rfl, Nat.le_of_ble_eq_true rfl⟩ rfl rfl (Nat.le_of_ble_eq_true rfl) rfl dL_certificate_3 ?_
    refine (show V p l e (x_rm 8 1 130) s m args below meth c (inW (lcells g ad w)) (EL below args s g (lcells g ad w) (lcells g ad rr.2) (some (.int rr.1)) 1 6) g 3 (lcells g ad (w.1, w.2)) 1 6 6 [(0, .ref (ad 0)), (1, .ref (ad 73))] [.int r3, .int 0, .ref (ad 73)] from ?_)
    refine v_i2l hG dL_certificate_6 ?_
    refine l_s_out hG dL_certificate_7 hf (fun w7 hf => ?_)
    refine v_goto hG 14 dL_certificate_8 rfl ?_
    refine v_iconst hG (v := 0) (by decide) dL_certificate_14 ?_
    cases hf
    exact l_iret hG hr ⟨Nat.le_of_ble_eq_true rfl, Nat.le_of_ble_eq_true rfl⟩ dL_certificate_15
set_option maxRecDepth 100000 in
set_option maxHeartbeats 4000000 in
theorem ct_L_certified (l : Launch) (hl : l.stackTraces = false) (g : wG) (ad : Nat → Nat) (w : LW) (rr : Int32 × LW) (hf : L_certified w = some rr) : MetL l g yL_certified cL_certified 3 (some .int) [(0, 8, 11, 13)] (x_rm 8 2 132) [.ref (ad 0), .ref (ad 73)] (lcells g ad w) (lcells g ad rr.2) (some (.int rr.1)) 2 12 := by
  refine MetL.of2 [(0, .ref (ad 0)), (1, .ref (ad 73))] rfl (by decide +kernel) (Nat.le_of_ble_eq_true rfl) ?_
  intro p e s m args below meth c hG hr hX
  unfold L_certified at hf
  refine v_aload_n hG 1 rfl rfl dL_certified_0 ?_
  refine v_iconst hG (v := 0) (by decide) dL_certified_1 ?_
  refine v_aload_n hG 0 rfl rfl dL_certified_2 ?_
  obtain ⟨r3, hr3, hf⟩ := bd_some hf
  rcases r3 with x3 | r3
  · rcases x3 with ⟨e3, y3⟩
    simp only [Sum.elim_inl] at hf
    by_cases hE : e3 = "java/lang/IllegalStateException"
    · subst hE
      rw [if_pos rfl] at hf
      refine l_callC (wc := ccells g ad w.1) (wc' := ccells g ad y3) (ext := oCell g ad w.2) (st := [.int 0, .ref (ad 73)]) hG hX 0 8 [] ⟨0, 8, 11, 13⟩ [] rfl (fun z hz => by cases hz) rfl (by decide) wk_420 (by decide +kernel) (ct_X8_certified l hl g ad w.1  (.inl ("java/lang/IllegalStateException", y3)) hr3) iw_X8_certified wk_863 rfl rfl ⟨rfl, rfl, Nat.le_of_ble_eq_true rfl, Nat.le_of_ble_eq_true rfl⟩ ⟨Nat.le_of_ble_eq_true rfl, Nat.le_of_ble_eq_true rfl⟩ rfl rfl (Nat.le_of_ble_eq_true rfl) rfl dL_certified_3 (fun q3 => ?_)
      refine (show V p l e (x_rm 8 2 132) s m args below meth c (inW (lcells g ad w)) (EL below args s g (lcells g ad w) (lcells g ad rr.2) (some (.int rr.1)) 2 12) g 3 (lcells g ad (y3, w.2)) 2 12 11 [(0, .ref (ad 0)), (1, .ref (ad 73))] [.ref q3] from ?_)
      refine v_astore_n hG [(2, _), (0, _), (1, _)] dL_certified_11 rfl (by decide) rfl ?_
      refine v_iconst hG (v := 1) (by decide) dL_certified_12 ?_
      cases hf
      exact l_iret hG hr ⟨Nat.le_of_ble_eq_true rfl, Nat.le_of_ble_eq_true rfl⟩ dL_certified_13
    · rw [if_neg hE] at hf
      cases hf
  · simp only [Sum.elim_inr] at hf
    refine l_callR (wc := ccells g ad w.1) (ext := oCell g ad w.2) (st := [.int 0, .ref (ad 73)]) hG hX 0 8 (ct_X8_certified l hl g ad w.1  (.inr r3) hr3) iw_X8_certified wk_863 rfl rfl ⟨rfl, rfl, Nat.le_of_ble_eq_true rfl, Nat.le_of_ble_eq_true rfl⟩ ⟨Nat.le_of_ble_eq_true rfl, Nat.le_of_ble_eq_true rfl⟩ rfl rfl (Nat.le_of_ble_eq_true rfl) rfl dL_certified_3 ?_
    refine (show V p l e (x_rm 8 2 132) s m args below meth c (inW (lcells g ad w)) (EL below args s g (lcells g ad w) (lcells g ad rr.2) (some (.int rr.1)) 2 12) g 3 (lcells g ad (r3.2, w.2)) 2 12 6 [(0, .ref (ad 0)), (1, .ref (ad 73))] [.int r3.1, .int 0, .ref (ad 73)] from ?_)
    refine v_i2l hG dL_certified_6 ?_
    refine l_s_out hG dL_certified_7 hf (fun w7 hf => ?_)
    refine v_goto hG 14 dL_certified_8 rfl ?_
    refine v_iconst hG (v := 0) (by decide) dL_certified_14 ?_
    cases hf
    exact l_iret hG hr ⟨Nat.le_of_ble_eq_true rfl, Nat.le_of_ble_eq_true rfl⟩ dL_certified_15
set_option maxRecDepth 100000 in
set_option maxHeartbeats 4000000 in
theorem ct_L_acts (l : Launch) (hl : l.stackTraces = false) (g : wG) (ad : Nat → Nat) (w : LW) (rr : Int32 × LW) (hf : L_acts w = some rr) : MetL l g yL_acts cL_acts 3 (some .int) [(0, 8, 11, 13)] (x_rm 8 1 130) [.ref (ad 0), .ref (ad 73)] (lcells g ad w) (lcells g ad rr.2) (some (.int rr.1)) 1 6 := by
  refine MetL.of2 [(0, .ref (ad 0)), (1, .ref (ad 73))] rfl (by decide +kernel) (Nat.le_of_ble_eq_true rfl) ?_
  intro p e s m args below meth c hG hr hX
  unfold L_acts at hf
  refine v_aload_n hG 1 rfl rfl dL_acts_0 ?_
  refine v_iconst hG (v := 0) (by decide) dL_acts_1 ?_
  refine v_aload_n hG 0 rfl rfl dL_acts_2 ?_
  obtain ⟨r3, hr3, hf⟩ := bd_some hf
  rcases r3 with x3 | r3
  · rcases x3 with ⟨e3, y3⟩
    simp only [Sum.elim_inl] at hf
    by_cases hE : e3 = "java/lang/IllegalStateException"
    · subst hE
      rw [if_pos rfl] at hf
      refine l_callC (wc := ccells g ad w.1) (wc' := ccells g ad y3) (ext := oCell g ad w.2) (st := [.int 0, .ref (ad 73)]) hG hX 0 8 [] ⟨0, 8, 11, 13⟩ [] rfl (fun z hz => by cases hz) rfl (by decide) wk_420 (by decide +kernel) (ct_X8_acts l hl g ad w.1  (.inl ("java/lang/IllegalStateException", y3)) hr3) iw_X8_acts wk_899 rfl rfl ⟨rfl, rfl, Nat.le_of_ble_eq_true rfl, Nat.le_of_ble_eq_true rfl⟩ ⟨Nat.le_of_ble_eq_true rfl, Nat.le_of_ble_eq_true rfl⟩ rfl rfl (Nat.le_of_ble_eq_true rfl) rfl dL_acts_3 (fun q3 => ?_)
      refine (show V p l e (x_rm 8 1 130) s m args below meth c (inW (lcells g ad w)) (EL below args s g (lcells g ad w) (lcells g ad rr.2) (some (.int rr.1)) 1 6) g 3 (lcells g ad (y3, w.2)) 1 6 11 [(0, .ref (ad 0)), (1, .ref (ad 73))] [.ref q3] from ?_)
      refine v_astore_n hG [(2, _), (0, _), (1, _)] dL_acts_11 rfl (by decide) rfl ?_
      refine v_iconst hG (v := 1) (by decide) dL_acts_12 ?_
      cases hf
      exact l_iret hG hr ⟨Nat.le_of_ble_eq_true rfl, Nat.le_of_ble_eq_true rfl⟩ dL_acts_13
    · rw [if_neg hE] at hf
      cases hf
  · simp only [Sum.elim_inr] at hf
    refine l_callR (wc := ccells g ad w.1) (ext := oCell g ad w.2) (st := [.int 0, .ref (ad 73)]) hG hX 0 8 (ct_X8_acts l hl g ad w.1  (.inr r3) hr3) iw_X8_acts wk_899 rfl rfl ⟨rfl, rfl, Nat.le_of_ble_eq_true rfl, Nat.le_of_ble_eq_true rfl⟩ ⟨Nat.le_of_ble_eq_true rfl, Nat.le_of_ble_eq_true rfl⟩ rfl rfl (Nat.le_of_ble_eq_true rfl) rfl dL_acts_3 ?_
    refine (show V p l e (x_rm 8 1 130) s m args below meth c (inW (lcells g ad w)) (EL below args s g (lcells g ad w) (lcells g ad rr.2) (some (.int rr.1)) 1 6) g 3 (lcells g ad (w.1, w.2)) 1 6 6 [(0, .ref (ad 0)), (1, .ref (ad 73))] [.int r3, .int 0, .ref (ad 73)] from ?_)
    refine v_i2l hG dL_acts_6 ?_
    refine l_s_out hG dL_acts_7 hf (fun w7 hf => ?_)
    refine v_goto hG 14 dL_acts_8 rfl ?_
    refine v_iconst hG (v := 0) (by decide) dL_acts_14 ?_
    cases hf
    exact l_iret hG hr ⟨Nat.le_of_ble_eq_true rfl, Nat.le_of_ble_eq_true rfl⟩ dL_acts_15
set_option maxRecDepth 100000 in
set_option maxHeartbeats 4000000 in
theorem ct_L_act (l : Launch) (hl : l.stackTraces = false) (g : wG) (ad : Nat → Nat) (w : LW) (a0 : Int32) (a1 : Int32) (rr : Int32 × LW) (hf : L_act w a0 a1 = some rr) : MetL l g yL_act cL_act 5 (some .int) [(0, 9, 12, 13), (0, 9, 16, 25), (0, 9, 20, 15)] (x_rm 8 2 132) [.ref (ad 0), .int a0, .int a1, .ref (ad 73)] (lcells g ad w) (lcells g ad rr.2) (some (.int rr.1)) 2 12 := by
  refine MetL.of2 [(0, .ref (ad 0)), (1, .int a0), (2, .int a1), (3, .ref (ad 73))] rfl (by decide +kernel) (Nat.le_of_ble_eq_true rfl) ?_
  intro p e s m args below meth c hG hr hX
  unfold L_act at hf
  refine v_aload_n hG 3 rfl rfl dL_act_0 ?_
  refine v_iconst hG (v := 0) (by decide) dL_act_1 ?_
  refine v_aload_n hG 0 rfl rfl dL_act_2 ?_
  refine v_iload_n hG 1 rfl rfl dL_act_3 ?_
  refine v_iload_n hG 2 rfl rfl dL_act_4 ?_
  obtain ⟨r5, hr5, hf⟩ := bd_some hf
  rcases r5 with x5 | r5
  · rcases x5 with ⟨e5, y5⟩
    simp only [Sum.elim_inl] at hf
    by_cases hE : e5 = "java/lang/IllegalStateException"
    · subst hE
      rw [if_pos rfl] at hf
      refine l_callC (wc := ccells g ad w.1) (wc' := ccells g ad y5) (ext := oCell g ad w.2) (st := [.int 0, .ref (ad 73)]) hG hX 0 8 [] ⟨0, 9, 12, 13⟩ [⟨0, 9, 16, 25⟩, ⟨0, 9, 20, 15⟩] rfl (fun z hz => by cases hz) rfl (by decide) wk_420 (by decide +kernel) (ct_X8_act l hl g ad w.1 a0 a1 (.inl ("java/lang/IllegalStateException", y5)) hr5) iw_X8_act wk_906 rfl rfl ⟨rfl, rfl, Nat.le_of_ble_eq_true rfl, Nat.le_of_ble_eq_true rfl⟩ ⟨Nat.le_of_ble_eq_true rfl, Nat.le_of_ble_eq_true rfl⟩ rfl rfl (Nat.le_of_ble_eq_true rfl) rfl dL_act_5 (fun q5 => ?_)
      refine (show V p l e (x_rm 8 2 132) s m args below meth c (inW (lcells g ad w)) (EL below args s g (lcells g ad w) (lcells g ad rr.2) (some (.int rr.1)) 2 12) g 5 (lcells g ad (y5, w.2)) 2 12 12 [(0, .ref (ad 0)), (1, .int a0), (2, .int a1), (3, .ref (ad 73))] [.ref q5] from ?_)
      refine v_astore hG [(4, _), (0, _), (1, _), (2, _), (3, _)] dL_act_12 (by decide) rfl ?_
      refine v_iconst hG (v := 1) (by decide) dL_act_14 ?_
      cases hf
      exact l_iret hG hr ⟨Nat.le_of_ble_eq_true rfl, Nat.le_of_ble_eq_true rfl⟩ dL_act_15
    · rw [if_neg hE] at hf
      by_cases hE : e5 = "java/lang/IndexOutOfBoundsException"
      · subst hE
        rw [if_pos rfl] at hf
        refine l_callC (wc := ccells g ad w.1) (wc' := ccells g ad y5) (ext := oCell g ad w.2) (st := [.int 0, .ref (ad 73)]) hG hX 0 8 [⟨0, 9, 12, 13⟩] ⟨0, 9, 16, 25⟩ [⟨0, 9, 20, 15⟩] rfl (List.forall_mem_cons.mpr ⟨⟨by decide, _, wk_420, by decide +kernel⟩, (fun _ h => absurd h List.not_mem_nil)⟩) rfl (by decide) wk_528 (by decide +kernel) (ct_X8_act l hl g ad w.1 a0 a1 (.inl ("java/lang/IndexOutOfBoundsException", y5)) hr5) iw_X8_act wk_906 rfl rfl ⟨rfl, rfl, Nat.le_of_ble_eq_true rfl, Nat.le_of_ble_eq_true rfl⟩ ⟨Nat.le_of_ble_eq_true rfl, Nat.le_of_ble_eq_true rfl⟩ rfl rfl (Nat.le_of_ble_eq_true rfl) rfl dL_act_5 (fun q5 => ?_)
        refine (show V p l e (x_rm 8 2 132) s m args below meth c (inW (lcells g ad w)) (EL below args s g (lcells g ad w) (lcells g ad rr.2) (some (.int rr.1)) 2 12) g 5 (lcells g ad (y5, w.2)) 2 12 16 [(0, .ref (ad 0)), (1, .int a0), (2, .int a1), (3, .ref (ad 73))] [.ref q5] from ?_)
        refine v_astore hG [(4, _), (0, _), (1, _), (2, _), (3, _)] dL_act_16 (by decide) rfl ?_
        refine v_iconst hG (v := 2) (by decide) dL_act_18 ?_
        cases hf
        exact l_iret hG hr ⟨Nat.le_of_ble_eq_true rfl, Nat.le_of_ble_eq_true rfl⟩ dL_act_19
      · rw [if_neg hE] at hf
        by_cases hE : e5 = "java/lang/IllegalArgumentException"
        · subst hE
          rw [if_pos rfl] at hf
          refine l_callC (wc := ccells g ad w.1) (wc' := ccells g ad y5) (ext := oCell g ad w.2) (st := [.int 0, .ref (ad 73)]) hG hX 0 8 [⟨0, 9, 12, 13⟩, ⟨0, 9, 16, 25⟩] ⟨0, 9, 20, 15⟩ [] rfl (List.forall_mem_cons.mpr ⟨⟨by decide, _, wk_420, by decide +kernel⟩, (List.forall_mem_cons.mpr ⟨⟨by decide, _, wk_528, by decide +kernel⟩, (fun _ h => absurd h List.not_mem_nil)⟩)⟩) rfl (by decide) wk_421 (by decide +kernel) (ct_X8_act l hl g ad w.1 a0 a1 (.inl ("java/lang/IllegalArgumentException", y5)) hr5) iw_X8_act wk_906 rfl rfl ⟨rfl, rfl, Nat.le_of_ble_eq_true rfl, Nat.le_of_ble_eq_true rfl⟩ ⟨Nat.le_of_ble_eq_true rfl, Nat.le_of_ble_eq_true rfl⟩ rfl rfl (Nat.le_of_ble_eq_true rfl) rfl dL_act_5 (fun q5 => ?_)
          refine (show V p l e (x_rm 8 2 132) s m args below meth c (inW (lcells g ad w)) (EL below args s g (lcells g ad w) (lcells g ad rr.2) (some (.int rr.1)) 2 12) g 5 (lcells g ad (y5, w.2)) 2 12 20 [(0, .ref (ad 0)), (1, .int a0), (2, .int a1), (3, .ref (ad 73))] [.ref q5] from ?_)
          refine v_astore hG [(4, _), (0, _), (1, _), (2, _), (3, _)] dL_act_20 (by decide) rfl ?_
          refine v_iconst hG (v := 3) (by decide) dL_act_22 ?_
          cases hf
          exact l_iret hG hr ⟨Nat.le_of_ble_eq_true rfl, Nat.le_of_ble_eq_true rfl⟩ dL_act_23
        · rw [if_neg hE] at hf
          cases hf
  · simp only [Sum.elim_inr] at hf
    refine l_callR (wc := ccells g ad w.1) (ext := oCell g ad w.2) (st := [.int 0, .ref (ad 73)]) hG hX 0 8 (ct_X8_act l hl g ad w.1 a0 a1 (.inr r5) hr5) iw_X8_act wk_906 rfl rfl ⟨rfl, rfl, Nat.le_of_ble_eq_true rfl, Nat.le_of_ble_eq_true rfl⟩ ⟨Nat.le_of_ble_eq_true rfl, Nat.le_of_ble_eq_true rfl⟩ rfl rfl (Nat.le_of_ble_eq_true rfl) rfl dL_act_5 ?_
    refine (show V p l e (x_rm 8 2 132) s m args below meth c (inW (lcells g ad w)) (EL below args s g (lcells g ad w) (lcells g ad rr.2) (some (.int rr.1)) 2 12) g 5 (lcells g ad (w.1, w.2)) 2 12 8 [(0, .ref (ad 0)), (1, .int a0), (2, .int a1), (3, .ref (ad 73))] [.long r5, .int 0, .ref (ad 73)] from ?_)
    refine l_s_out hG dL_act_8 hf (fun w8 hf => ?_)
    refine v_goto hG 24 dL_act_9 rfl ?_
    refine v_iconst hG (v := 0) (by decide) dL_act_24 ?_
    cases hf
    exact l_iret hG hr ⟨Nat.le_of_ble_eq_true rfl, Nat.le_of_ble_eq_true rfl⟩ dL_act_25
set_option maxRecDepth 100000 in
set_option maxHeartbeats 4000000 in
theorem ct_L_parts (l : Launch) (hl : l.stackTraces = false) (g : wG) (ad : Nat → Nat) (w : LW) (rr : Int32 × LW) (hf : L_parts w = some rr) : MetL l g yL_parts cL_parts 3 (some .int) [(0, 8, 11, 13)] (x_rm 8 1 130) [.ref (ad 0), .ref (ad 73)] (lcells g ad w) (lcells g ad rr.2) (some (.int rr.1)) 1 6 := by
  refine MetL.of2 [(0, .ref (ad 0)), (1, .ref (ad 73))] rfl (by decide +kernel) (Nat.le_of_ble_eq_true rfl) ?_
  intro p e s m args below meth c hG hr hX
  unfold L_parts at hf
  refine v_aload_n hG 1 rfl rfl dL_parts_0 ?_
  refine v_iconst hG (v := 0) (by decide) dL_parts_1 ?_
  refine v_aload_n hG 0 rfl rfl dL_parts_2 ?_
  obtain ⟨r3, hr3, hf⟩ := bd_some hf
  rcases r3 with x3 | r3
  · rcases x3 with ⟨e3, y3⟩
    simp only [Sum.elim_inl] at hf
    by_cases hE : e3 = "java/lang/IllegalStateException"
    · subst hE
      rw [if_pos rfl] at hf
      refine l_callC (wc := ccells g ad w.1) (wc' := ccells g ad y3) (ext := oCell g ad w.2) (st := [.int 0, .ref (ad 73)]) hG hX 0 8 [] ⟨0, 8, 11, 13⟩ [] rfl (fun z hz => by cases hz) rfl (by decide) wk_420 (by decide +kernel) (ct_X8_parts l hl g ad w.1  (.inl ("java/lang/IllegalStateException", y3)) hr3) iw_X8_parts wk_919 rfl rfl ⟨rfl, rfl, Nat.le_of_ble_eq_true rfl, Nat.le_of_ble_eq_true rfl⟩ ⟨Nat.le_of_ble_eq_true rfl, Nat.le_of_ble_eq_true rfl⟩ rfl rfl (Nat.le_of_ble_eq_true rfl) rfl dL_parts_3 (fun q3 => ?_)
      refine (show V p l e (x_rm 8 1 130) s m args below meth c (inW (lcells g ad w)) (EL below args s g (lcells g ad w) (lcells g ad rr.2) (some (.int rr.1)) 1 6) g 3 (lcells g ad (y3, w.2)) 1 6 11 [(0, .ref (ad 0)), (1, .ref (ad 73))] [.ref q3] from ?_)
      refine v_astore_n hG [(2, _), (0, _), (1, _)] dL_parts_11 rfl (by decide) rfl ?_
      refine v_iconst hG (v := 1) (by decide) dL_parts_12 ?_
      cases hf
      exact l_iret hG hr ⟨Nat.le_of_ble_eq_true rfl, Nat.le_of_ble_eq_true rfl⟩ dL_parts_13
    · rw [if_neg hE] at hf
      cases hf
  · simp only [Sum.elim_inr] at hf
    refine l_callR (wc := ccells g ad w.1) (ext := oCell g ad w.2) (st := [.int 0, .ref (ad 73)]) hG hX 0 8 (ct_X8_parts l hl g ad w.1  (.inr r3) hr3) iw_X8_parts wk_919 rfl rfl ⟨rfl, rfl, Nat.le_of_ble_eq_true rfl, Nat.le_of_ble_eq_true rfl⟩ ⟨Nat.le_of_ble_eq_true rfl, Nat.le_of_ble_eq_true rfl⟩ rfl rfl (Nat.le_of_ble_eq_true rfl) rfl dL_parts_3 ?_
    refine (show V p l e (x_rm 8 1 130) s m args below meth c (inW (lcells g ad w)) (EL below args s g (lcells g ad w) (lcells g ad rr.2) (some (.int rr.1)) 1 6) g 3 (lcells g ad (w.1, w.2)) 1 6 6 [(0, .ref (ad 0)), (1, .ref (ad 73))] [.int r3, .int 0, .ref (ad 73)] from ?_)
    refine v_i2l hG dL_parts_6 ?_
    refine l_s_out hG dL_parts_7 hf (fun w7 hf => ?_)
    refine v_goto hG 14 dL_parts_8 rfl ?_
    refine v_iconst hG (v := 0) (by decide) dL_parts_14 ?_
    cases hf
    exact l_iret hG hr ⟨Nat.le_of_ble_eq_true rfl, Nat.le_of_ble_eq_true rfl⟩ dL_parts_15
set_option maxRecDepth 100000 in
set_option maxHeartbeats 4000000 in
theorem ct_L_clique (l : Launch) (hl : l.stackTraces = false) (g : wG) (ad : Nat → Nat) (w : LW) (a0 : Int32) (rr : Int32 × LW) (hf : L_clique w a0 = some rr) : MetL l g yL_clique cL_clique 4 (some .int) [(0, 9, 12, 13), (0, 9, 15, 25)] (x_rm 8 2 132) [.ref (ad 0), .int a0, .ref (ad 73)] (lcells g ad w) (lcells g ad rr.2) (some (.int rr.1)) 2 12 := by
  refine MetL.of2 [(0, .ref (ad 0)), (1, .int a0), (2, .ref (ad 73))] rfl (by decide +kernel) (Nat.le_of_ble_eq_true rfl) ?_
  intro p e s m args below meth c hG hr hX
  unfold L_clique at hf
  refine v_aload_n hG 2 rfl rfl dL_clique_0 ?_
  refine v_iconst hG (v := 0) (by decide) dL_clique_1 ?_
  refine v_aload_n hG 0 rfl rfl dL_clique_2 ?_
  refine v_iload_n hG 1 rfl rfl dL_clique_3 ?_
  obtain ⟨r4, hr4, hf⟩ := bd_some hf
  rcases r4 with x4 | r4
  · rcases x4 with ⟨e4, y4⟩
    simp only [Sum.elim_inl] at hf
    by_cases hE : e4 = "java/lang/IllegalStateException"
    · subst hE
      rw [if_pos rfl] at hf
      refine l_callC (wc := ccells g ad w.1) (wc' := ccells g ad y4) (ext := oCell g ad w.2) (st := [.int 0, .ref (ad 73)]) hG hX 0 8 [] ⟨0, 9, 12, 13⟩ [⟨0, 9, 15, 25⟩] rfl (fun z hz => by cases hz) rfl (by decide) wk_420 (by decide +kernel) (ct_X8_clique l hl g ad w.1 a0 (.inl ("java/lang/IllegalStateException", y4)) hr4) iw_X8_clique wk_940 rfl rfl ⟨rfl, rfl, Nat.le_of_ble_eq_true rfl, Nat.le_of_ble_eq_true rfl⟩ ⟨Nat.le_of_ble_eq_true rfl, Nat.le_of_ble_eq_true rfl⟩ rfl rfl (Nat.le_of_ble_eq_true rfl) rfl dL_clique_4 (fun q4 => ?_)
      refine (show V p l e (x_rm 8 2 132) s m args below meth c (inW (lcells g ad w)) (EL below args s g (lcells g ad w) (lcells g ad rr.2) (some (.int rr.1)) 2 12) g 4 (lcells g ad (y4, w.2)) 2 12 12 [(0, .ref (ad 0)), (1, .int a0), (2, .ref (ad 73))] [.ref q4] from ?_)
      refine v_astore_n hG [(3, _), (0, _), (1, _), (2, _)] dL_clique_12 rfl (by decide) rfl ?_
      refine v_iconst hG (v := 1) (by decide) dL_clique_13 ?_
      cases hf
      exact l_iret hG hr ⟨Nat.le_of_ble_eq_true rfl, Nat.le_of_ble_eq_true rfl⟩ dL_clique_14
    · rw [if_neg hE] at hf
      by_cases hE : e4 = "java/lang/IndexOutOfBoundsException"
      · subst hE
        rw [if_pos rfl] at hf
        refine l_callC (wc := ccells g ad w.1) (wc' := ccells g ad y4) (ext := oCell g ad w.2) (st := [.int 0, .ref (ad 73)]) hG hX 0 8 [⟨0, 9, 12, 13⟩] ⟨0, 9, 15, 25⟩ [] rfl (List.forall_mem_cons.mpr ⟨⟨by decide, _, wk_420, by decide +kernel⟩, (fun _ h => absurd h List.not_mem_nil)⟩) rfl (by decide) wk_528 (by decide +kernel) (ct_X8_clique l hl g ad w.1 a0 (.inl ("java/lang/IndexOutOfBoundsException", y4)) hr4) iw_X8_clique wk_940 rfl rfl ⟨rfl, rfl, Nat.le_of_ble_eq_true rfl, Nat.le_of_ble_eq_true rfl⟩ ⟨Nat.le_of_ble_eq_true rfl, Nat.le_of_ble_eq_true rfl⟩ rfl rfl (Nat.le_of_ble_eq_true rfl) rfl dL_clique_4 (fun q4 => ?_)
        refine (show V p l e (x_rm 8 2 132) s m args below meth c (inW (lcells g ad w)) (EL below args s g (lcells g ad w) (lcells g ad rr.2) (some (.int rr.1)) 2 12) g 4 (lcells g ad (y4, w.2)) 2 12 15 [(0, .ref (ad 0)), (1, .int a0), (2, .ref (ad 73))] [.ref q4] from ?_)
        refine v_astore_n hG [(3, _), (0, _), (1, _), (2, _)] dL_clique_15 rfl (by decide) rfl ?_
        refine v_iconst hG (v := 2) (by decide) dL_clique_16 ?_
        cases hf
        exact l_iret hG hr ⟨Nat.le_of_ble_eq_true rfl, Nat.le_of_ble_eq_true rfl⟩ dL_clique_17
      · rw [if_neg hE] at hf
        cases hf
  · simp only [Sum.elim_inr] at hf
    refine l_callR (wc := ccells g ad w.1) (ext := oCell g ad w.2) (st := [.int 0, .ref (ad 73)]) hG hX 0 8 (ct_X8_clique l hl g ad w.1 a0 (.inr r4) hr4) iw_X8_clique wk_940 rfl rfl ⟨rfl, rfl, Nat.le_of_ble_eq_true rfl, Nat.le_of_ble_eq_true rfl⟩ ⟨Nat.le_of_ble_eq_true rfl, Nat.le_of_ble_eq_true rfl⟩ rfl rfl (Nat.le_of_ble_eq_true rfl) rfl dL_clique_4 ?_
    refine (show V p l e (x_rm 8 2 132) s m args below meth c (inW (lcells g ad w)) (EL below args s g (lcells g ad w) (lcells g ad rr.2) (some (.int rr.1)) 2 12) g 4 (lcells g ad (r4.2, w.2)) 2 12 7 [(0, .ref (ad 0)), (1, .int a0), (2, .ref (ad 73))] [.int r4.1, .int 0, .ref (ad 73)] from ?_)
    refine v_i2l hG dL_clique_7 ?_
    refine l_s_out hG dL_clique_8 hf (fun w8 hf => ?_)
    refine v_goto hG 18 dL_clique_9 rfl ?_
    refine v_iconst hG (v := 0) (by decide) dL_clique_18 ?_
    cases hf
    exact l_iret hG hr ⟨Nat.le_of_ble_eq_true rfl, Nat.le_of_ble_eq_true rfl⟩ dL_clique_19
set_option maxRecDepth 100000 in
set_option maxHeartbeats 4000000 in
theorem ct_L_cliqueAt (l : Launch) (hl : l.stackTraces = false) (g : wG) (ad : Nat → Nat) (w : LW) (a0 : Int32) (a1 : Int32) (rr : Int32 × LW) (hf : L_cliqueAt w a0 a1 = some rr) : MetL l g yL_cliqueAt cL_cliqueAt 5 (some .int) [(0, 10, 13, 13), (0, 10, 17, 25)] (x_rm 8 3 134) [.ref (ad 0), .int a0, .int a1, .ref (ad 73)] (lcells g ad w) (lcells g ad rr.2) (some (.int rr.1)) 3 18 := by
  refine MetL.of2 [(0, .ref (ad 0)), (1, .int a0), (2, .int a1), (3, .ref (ad 73))] rfl (by decide +kernel) (Nat.le_of_ble_eq_true rfl) ?_
  intro p e s m args below meth c hG hr hX
  unfold L_cliqueAt at hf
  refine v_aload_n hG 3 rfl rfl dL_cliqueAt_0 ?_
  refine v_iconst hG (v := 0) (by decide) dL_cliqueAt_1 ?_
  refine v_aload_n hG 0 rfl rfl dL_cliqueAt_2 ?_
  refine v_iload_n hG 1 rfl rfl dL_cliqueAt_3 ?_
  refine v_iload_n hG 2 rfl rfl dL_cliqueAt_4 ?_
  obtain ⟨r5, hr5, hf⟩ := bd_some hf
  rcases r5 with x5 | r5
  · rcases x5 with ⟨e5, y5⟩
    simp only [Sum.elim_inl] at hf
    by_cases hE : e5 = "java/lang/IllegalStateException"
    · subst hE
      rw [if_pos rfl] at hf
      refine l_callC (wc := ccells g ad w.1) (wc' := ccells g ad y5) (ext := oCell g ad w.2) (st := [.int 0, .ref (ad 73)]) hG hX 0 8 [] ⟨0, 10, 13, 13⟩ [⟨0, 10, 17, 25⟩] rfl (fun z hz => by cases hz) rfl (by decide) wk_420 (by decide +kernel) (ct_X8_cliqueAt l hl g ad w.1 a0 a1 (.inl ("java/lang/IllegalStateException", y5)) hr5) iw_X8_cliqueAt wk_962 rfl rfl ⟨rfl, rfl, Nat.le_of_ble_eq_true rfl, Nat.le_of_ble_eq_true rfl⟩ ⟨Nat.le_of_ble_eq_true rfl, Nat.le_of_ble_eq_true rfl⟩ rfl rfl (Nat.le_of_ble_eq_true rfl) rfl dL_cliqueAt_5 (fun q5 => ?_)
      refine (show V p l e (x_rm 8 3 134) s m args below meth c (inW (lcells g ad w)) (EL below args s g (lcells g ad w) (lcells g ad rr.2) (some (.int rr.1)) 3 18) g 5 (lcells g ad (y5, w.2)) 3 18 13 [(0, .ref (ad 0)), (1, .int a0), (2, .int a1), (3, .ref (ad 73))] [.ref q5] from ?_)
      refine v_astore hG [(4, _), (0, _), (1, _), (2, _), (3, _)] dL_cliqueAt_13 (by decide) rfl ?_
      refine v_iconst hG (v := 1) (by decide) dL_cliqueAt_15 ?_
      cases hf
      exact l_iret hG hr ⟨Nat.le_of_ble_eq_true rfl, Nat.le_of_ble_eq_true rfl⟩ dL_cliqueAt_16
    · rw [if_neg hE] at hf
      by_cases hE : e5 = "java/lang/IndexOutOfBoundsException"
      · subst hE
        rw [if_pos rfl] at hf
        refine l_callC (wc := ccells g ad w.1) (wc' := ccells g ad y5) (ext := oCell g ad w.2) (st := [.int 0, .ref (ad 73)]) hG hX 0 8 [⟨0, 10, 13, 13⟩] ⟨0, 10, 17, 25⟩ [] rfl (List.forall_mem_cons.mpr ⟨⟨by decide, _, wk_420, by decide +kernel⟩, (fun _ h => absurd h List.not_mem_nil)⟩) rfl (by decide) wk_528 (by decide +kernel) (ct_X8_cliqueAt l hl g ad w.1 a0 a1 (.inl ("java/lang/IndexOutOfBoundsException", y5)) hr5) iw_X8_cliqueAt wk_962 rfl rfl ⟨rfl, rfl, Nat.le_of_ble_eq_true rfl, Nat.le_of_ble_eq_true rfl⟩ ⟨Nat.le_of_ble_eq_true rfl, Nat.le_of_ble_eq_true rfl⟩ rfl rfl (Nat.le_of_ble_eq_true rfl) rfl dL_cliqueAt_5 (fun q5 => ?_)
        refine (show V p l e (x_rm 8 3 134) s m args below meth c (inW (lcells g ad w)) (EL below args s g (lcells g ad w) (lcells g ad rr.2) (some (.int rr.1)) 3 18) g 5 (lcells g ad (y5, w.2)) 3 18 17 [(0, .ref (ad 0)), (1, .int a0), (2, .int a1), (3, .ref (ad 73))] [.ref q5] from ?_)
        refine v_astore hG [(4, _), (0, _), (1, _), (2, _), (3, _)] dL_cliqueAt_17 (by decide) rfl ?_
        refine v_iconst hG (v := 2) (by decide) dL_cliqueAt_19 ?_
        cases hf
        exact l_iret hG hr ⟨Nat.le_of_ble_eq_true rfl, Nat.le_of_ble_eq_true rfl⟩ dL_cliqueAt_20
      · rw [if_neg hE] at hf
        cases hf
  · simp only [Sum.elim_inr] at hf
    refine l_callR (wc := ccells g ad w.1) (ext := oCell g ad w.2) (st := [.int 0, .ref (ad 73)]) hG hX 0 8 (ct_X8_cliqueAt l hl g ad w.1 a0 a1 (.inr r5) hr5) iw_X8_cliqueAt wk_962 rfl rfl ⟨rfl, rfl, Nat.le_of_ble_eq_true rfl, Nat.le_of_ble_eq_true rfl⟩ ⟨Nat.le_of_ble_eq_true rfl, Nat.le_of_ble_eq_true rfl⟩ rfl rfl (Nat.le_of_ble_eq_true rfl) rfl dL_cliqueAt_5 ?_
    refine (show V p l e (x_rm 8 3 134) s m args below meth c (inW (lcells g ad w)) (EL below args s g (lcells g ad w) (lcells g ad rr.2) (some (.int rr.1)) 3 18) g 5 (lcells g ad (r5.2, w.2)) 3 18 8 [(0, .ref (ad 0)), (1, .int a0), (2, .int a1), (3, .ref (ad 73))] [.int r5.1, .int 0, .ref (ad 73)] from ?_)
    refine v_i2l hG dL_cliqueAt_8 ?_
    refine l_s_out hG dL_cliqueAt_9 hf (fun w9 hf => ?_)
    refine v_goto hG 21 dL_cliqueAt_10 rfl ?_
    refine v_iconst hG (v := 0) (by decide) dL_cliqueAt_21 ?_
    cases hf
    exact l_iret hG hr ⟨Nat.le_of_ble_eq_true rfl, Nat.le_of_ble_eq_true rfl⟩ dL_cliqueAt_22
set_option maxRecDepth 100000 in
set_option maxHeartbeats 4000000 in
theorem ct_L_same (l : Launch) (hl : l.stackTraces = false) (g : wG) (ad : Nat → Nat) (w : LW) (a0 : Int32) (a1 : Int32) (rr : Int32 × LW) (hf : L_same w a0 a1 = some rr) : MetL l g yL_same cL_same 5 (some .int) [(0, 17, 20, 13), (0, 17, 24, 25)] (x_rm 8 3 133) [.ref (ad 0), .int a0, .int a1, .ref (ad 73)] (lcells g ad w) (lcells g ad rr.2) (some (.int rr.1)) 3 18 := by
  refine MetL.of2 [(0, .ref (ad 0)), (1, .int a0), (2, .int a1), (3, .ref (ad 73))] rfl (by decide +kernel) (Nat.le_of_ble_eq_true rfl) ?_
  intro p e s m args below meth c hG hr hX
  unfold L_same at hf
  have j16 : ∀ (j16_0 : LW) (j16_1 : Int32) (j16_2 : Int64), L_same_J16 j16_0 j16_1 j16_2 = some rr → V p l e (x_rm 8 3 133) s m args below meth c (inW (lcells g ad w)) (EL below args s g (lcells g ad w) (lcells g ad rr.2) (some (.int rr.1)) 3 18) g 5 (lcells g ad j16_0) 3 18 16 [] [.long j16_2, .int j16_1, .ref (ad 73)] := by
    intro j16_0 j16_1 j16_2 hf
    unfold L_same_J16 at hf
    refine l_s_out hG dL_same_16 hf (fun w16 hf => ?_)
    refine v_goto hG 28 dL_same_17 rfl ?_
    refine v_iconst hG (v := 0) (by decide) dL_same_28 ?_
    cases hf
    exact l_iret hG hr ⟨Nat.le_of_ble_eq_true rfl, Nat.le_of_ble_eq_true rfl⟩ dL_same_29
  refine v_aload_n hG 3 rfl rfl dL_same_0 ?_
  refine v_iconst hG (v := 0) (by decide) dL_same_1 ?_
  refine v_aload_n hG 0 rfl rfl dL_same_2 ?_
  refine v_iload_n hG 1 rfl rfl dL_same_3 ?_
  refine v_iload_n hG 2 rfl rfl dL_same_4 ?_
  obtain ⟨r5, hr5, hf⟩ := bd_some hf
  rcases r5 with x5 | r5
  · rcases x5 with ⟨e5, y5⟩
    simp only [Sum.elim_inl] at hf
    by_cases hE : e5 = "java/lang/IllegalStateException"
    · subst hE
      rw [if_pos rfl] at hf
      refine l_callC (wc := ccells g ad w.1) (wc' := ccells g ad y5) (ext := oCell g ad w.2) (st := [.int 0, .ref (ad 73)]) hG hX 0 8 [] ⟨0, 17, 20, 13⟩ [⟨0, 17, 24, 25⟩] rfl (fun z hz => by cases hz) rfl (by decide) wk_420 (by decide +kernel) (ct_X8_same l hl g ad w.1 a0 a1 (.inl ("java/lang/IllegalStateException", y5)) hr5) iw_X8_same wk_970 rfl rfl ⟨rfl, rfl, Nat.le_of_ble_eq_true rfl, Nat.le_of_ble_eq_true rfl⟩ ⟨Nat.le_of_ble_eq_true rfl, Nat.le_of_ble_eq_true rfl⟩ rfl rfl (Nat.le_of_ble_eq_true rfl) rfl dL_same_5 (fun q5 => ?_)
      refine (show V p l e (x_rm 8 3 133) s m args below meth c (inW (lcells g ad w)) (EL below args s g (lcells g ad w) (lcells g ad rr.2) (some (.int rr.1)) 3 18) g 5 (lcells g ad (y5, w.2)) 3 18 20 [(0, .ref (ad 0)), (1, .int a0), (2, .int a1), (3, .ref (ad 73))] [.ref q5] from ?_)
      refine v_astore hG [(4, _), (0, _), (1, _), (2, _), (3, _)] dL_same_20 (by decide) rfl ?_
      refine v_iconst hG (v := 1) (by decide) dL_same_22 ?_
      cases hf
      exact l_iret hG hr ⟨Nat.le_of_ble_eq_true rfl, Nat.le_of_ble_eq_true rfl⟩ dL_same_23
    · rw [if_neg hE] at hf
      by_cases hE : e5 = "java/lang/IndexOutOfBoundsException"
      · subst hE
        rw [if_pos rfl] at hf
        refine l_callC (wc := ccells g ad w.1) (wc' := ccells g ad y5) (ext := oCell g ad w.2) (st := [.int 0, .ref (ad 73)]) hG hX 0 8 [⟨0, 17, 20, 13⟩] ⟨0, 17, 24, 25⟩ [] rfl (List.forall_mem_cons.mpr ⟨⟨by decide, _, wk_420, by decide +kernel⟩, (fun _ h => absurd h List.not_mem_nil)⟩) rfl (by decide) wk_528 (by decide +kernel) (ct_X8_same l hl g ad w.1 a0 a1 (.inl ("java/lang/IndexOutOfBoundsException", y5)) hr5) iw_X8_same wk_970 rfl rfl ⟨rfl, rfl, Nat.le_of_ble_eq_true rfl, Nat.le_of_ble_eq_true rfl⟩ ⟨Nat.le_of_ble_eq_true rfl, Nat.le_of_ble_eq_true rfl⟩ rfl rfl (Nat.le_of_ble_eq_true rfl) rfl dL_same_5 (fun q5 => ?_)
        refine (show V p l e (x_rm 8 3 133) s m args below meth c (inW (lcells g ad w)) (EL below args s g (lcells g ad w) (lcells g ad rr.2) (some (.int rr.1)) 3 18) g 5 (lcells g ad (y5, w.2)) 3 18 24 [(0, .ref (ad 0)), (1, .int a0), (2, .int a1), (3, .ref (ad 73))] [.ref q5] from ?_)
        refine v_astore hG [(4, _), (0, _), (1, _), (2, _), (3, _)] dL_same_24 (by decide) rfl ?_
        refine v_iconst hG (v := 2) (by decide) dL_same_26 ?_
        cases hf
        exact l_iret hG hr ⟨Nat.le_of_ble_eq_true rfl, Nat.le_of_ble_eq_true rfl⟩ dL_same_27
      · rw [if_neg hE] at hf
        cases hf
  · simp only [Sum.elim_inr] at hf
    refine l_callR (wc := ccells g ad w.1) (ext := oCell g ad w.2) (st := [.int 0, .ref (ad 73)]) hG hX 0 8 (ct_X8_same l hl g ad w.1 a0 a1 (.inr r5) hr5) iw_X8_same wk_970 rfl rfl ⟨rfl, rfl, Nat.le_of_ble_eq_true rfl, Nat.le_of_ble_eq_true rfl⟩ ⟨Nat.le_of_ble_eq_true rfl, Nat.le_of_ble_eq_true rfl⟩ rfl rfl (Nat.le_of_ble_eq_true rfl) rfl dL_same_5 ?_
    refine (show V p l e (x_rm 8 3 133) s m args below meth c (inW (lcells g ad w)) (EL below args s g (lcells g ad w) (lcells g ad rr.2) (some (.int rr.1)) 3 18) g 5 (lcells g ad (w.1, w.2)) 3 18 8 [(0, .ref (ad 0)), (1, .int a0), (2, .int a1), (3, .ref (ad 73))] [.int r5, .int 0, .ref (ad 73)] from ?_)
    refine v_if_eq hG 15 dL_same_8 rfl hf (fun hf => ?_) (fun hf => ?_)
    · refine v_lconst hG (v := 0) (by decide) dL_same_15 ?_
      refine v_sub [] [] rfl ?_
      exact j16 (w.1, w.2) 0 0 hf
    · refine v_lconst hG (v := 1) (by decide) dL_same_11 ?_
      refine v_goto hG 16 dL_same_12 rfl ?_
      refine v_sub [] [] rfl ?_
      exact j16 (w.1, w.2) 0 1 hf
set_option maxRecDepth 100000 in
set_option maxHeartbeats 4000000 in
theorem ct_L_put (l : Launch) (hl : l.stackTraces = false) (g : wG) (ad : Nat → Nat) (w : LW) (a0 : Int32) (a1 : Int32) (rr : Int32 × LW) (hf : L_put w a0 a1 = some rr) : MetL l g yL_put cL_put 4 (some .int) [(0, 6, 9, 13), (0, 6, 12, 25), (0, 6, 15, 15)] (x_rm 8 3 134) [.ref (ad 0), .int a0, .int a1] (lcells g ad w) (lcells g ad rr.2) (some (.int rr.1)) 3 18 := by
  refine MetL.of2 [(0, .ref (ad 0)), (1, .int a0), (2, .int a1)] rfl (by decide +kernel) (Nat.le_of_ble_eq_true rfl) ?_
  intro p e s m args below meth c hG hr hX
  unfold L_put at hf
  refine v_aload_n hG 0 rfl rfl dL_put_0 ?_
  refine v_iload_n hG 1 rfl rfl dL_put_1 ?_
  refine v_iload_n hG 2 rfl rfl dL_put_2 ?_
  obtain ⟨r3, hr3, hf⟩ := bd_some hf
  rcases r3 with x3 | r3
  · rcases x3 with ⟨e3, y3⟩
    simp only [Sum.elim_inl] at hf
    by_cases hE : e3 = "java/lang/IllegalStateException"
    · subst hE
      rw [if_pos rfl] at hf
      refine l_callC (wc := ccells g ad w.1) (wc' := ccells g ad y3) (ext := oCell g ad w.2) (st := []) hG hX 0 8 [] ⟨0, 6, 9, 13⟩ [⟨0, 6, 12, 25⟩, ⟨0, 6, 15, 15⟩] rfl (fun z hz => by cases hz) rfl (by decide) wk_420 (by decide +kernel) (ct_X8_put l hl g ad w.1 a0 a1 (.inl ("java/lang/IllegalStateException", y3)) hr3) iw_X8_put wk_981 rfl rfl ⟨rfl, rfl, Nat.le_of_ble_eq_true rfl, Nat.le_of_ble_eq_true rfl⟩ ⟨Nat.le_of_ble_eq_true rfl, Nat.le_of_ble_eq_true rfl⟩ rfl rfl (Nat.le_of_ble_eq_true rfl) rfl dL_put_3 (fun q3 => ?_)
      refine (show V p l e (x_rm 8 3 134) s m args below meth c (inW (lcells g ad w)) (EL below args s g (lcells g ad w) (lcells g ad rr.2) (some (.int rr.1)) 3 18) g 4 (lcells g ad (y3, w.2)) 3 18 9 [(0, .ref (ad 0)), (1, .int a0), (2, .int a1)] [.ref q3] from ?_)
      refine v_astore_n hG [(3, _), (0, _), (1, _), (2, _)] dL_put_9 rfl (by decide) rfl ?_
      refine v_iconst hG (v := 1) (by decide) dL_put_10 ?_
      cases hf
      exact l_iret hG hr ⟨Nat.le_of_ble_eq_true rfl, Nat.le_of_ble_eq_true rfl⟩ dL_put_11
    · rw [if_neg hE] at hf
      by_cases hE : e3 = "java/lang/IndexOutOfBoundsException"
      · subst hE
        rw [if_pos rfl] at hf
        refine l_callC (wc := ccells g ad w.1) (wc' := ccells g ad y3) (ext := oCell g ad w.2) (st := []) hG hX 0 8 [⟨0, 6, 9, 13⟩] ⟨0, 6, 12, 25⟩ [⟨0, 6, 15, 15⟩] rfl (List.forall_mem_cons.mpr ⟨⟨by decide, _, wk_420, by decide +kernel⟩, (fun _ h => absurd h List.not_mem_nil)⟩) rfl (by decide) wk_528 (by decide +kernel) (ct_X8_put l hl g ad w.1 a0 a1 (.inl ("java/lang/IndexOutOfBoundsException", y3)) hr3) iw_X8_put wk_981 rfl rfl ⟨rfl, rfl, Nat.le_of_ble_eq_true rfl, Nat.le_of_ble_eq_true rfl⟩ ⟨Nat.le_of_ble_eq_true rfl, Nat.le_of_ble_eq_true rfl⟩ rfl rfl (Nat.le_of_ble_eq_true rfl) rfl dL_put_3 (fun q3 => ?_)
        refine (show V p l e (x_rm 8 3 134) s m args below meth c (inW (lcells g ad w)) (EL below args s g (lcells g ad w) (lcells g ad rr.2) (some (.int rr.1)) 3 18) g 4 (lcells g ad (y3, w.2)) 3 18 12 [(0, .ref (ad 0)), (1, .int a0), (2, .int a1)] [.ref q3] from ?_)
        refine v_astore_n hG [(3, _), (0, _), (1, _), (2, _)] dL_put_12 rfl (by decide) rfl ?_
        refine v_iconst hG (v := 2) (by decide) dL_put_13 ?_
        cases hf
        exact l_iret hG hr ⟨Nat.le_of_ble_eq_true rfl, Nat.le_of_ble_eq_true rfl⟩ dL_put_14
      · rw [if_neg hE] at hf
        by_cases hE : e3 = "java/lang/IllegalArgumentException"
        · subst hE
          rw [if_pos rfl] at hf
          refine l_callC (wc := ccells g ad w.1) (wc' := ccells g ad y3) (ext := oCell g ad w.2) (st := []) hG hX 0 8 [⟨0, 6, 9, 13⟩, ⟨0, 6, 12, 25⟩] ⟨0, 6, 15, 15⟩ [] rfl (List.forall_mem_cons.mpr ⟨⟨by decide, _, wk_420, by decide +kernel⟩, (List.forall_mem_cons.mpr ⟨⟨by decide, _, wk_528, by decide +kernel⟩, (fun _ h => absurd h List.not_mem_nil)⟩)⟩) rfl (by decide) wk_421 (by decide +kernel) (ct_X8_put l hl g ad w.1 a0 a1 (.inl ("java/lang/IllegalArgumentException", y3)) hr3) iw_X8_put wk_981 rfl rfl ⟨rfl, rfl, Nat.le_of_ble_eq_true rfl, Nat.le_of_ble_eq_true rfl⟩ ⟨Nat.le_of_ble_eq_true rfl, Nat.le_of_ble_eq_true rfl⟩ rfl rfl (Nat.le_of_ble_eq_true rfl) rfl dL_put_3 (fun q3 => ?_)
          refine (show V p l e (x_rm 8 3 134) s m args below meth c (inW (lcells g ad w)) (EL below args s g (lcells g ad w) (lcells g ad rr.2) (some (.int rr.1)) 3 18) g 4 (lcells g ad (y3, w.2)) 3 18 15 [(0, .ref (ad 0)), (1, .int a0), (2, .int a1)] [.ref q3] from ?_)
          refine v_astore_n hG [(3, _), (0, _), (1, _), (2, _)] dL_put_15 rfl (by decide) rfl ?_
          refine v_iconst hG (v := 3) (by decide) dL_put_16 ?_
          cases hf
          exact l_iret hG hr ⟨Nat.le_of_ble_eq_true rfl, Nat.le_of_ble_eq_true rfl⟩ dL_put_17
        · rw [if_neg hE] at hf
          cases hf
  · simp only [Sum.elim_inr] at hf
    refine l_callR (wc := ccells g ad w.1) (ext := oCell g ad w.2) (st := []) hG hX 0 8 (ct_X8_put l hl g ad w.1 a0 a1 (.inr r3) hr3) iw_X8_put wk_981 rfl rfl ⟨rfl, rfl, Nat.le_of_ble_eq_true rfl, Nat.le_of_ble_eq_true rfl⟩ ⟨Nat.le_of_ble_eq_true rfl, Nat.le_of_ble_eq_true rfl⟩ rfl rfl (Nat.le_of_ble_eq_true rfl) rfl dL_put_3 ?_
    refine (show V p l e (x_rm 8 3 134) s m args below meth c (inW (lcells g ad w)) (EL below args s g (lcells g ad w) (lcells g ad rr.2) (some (.int rr.1)) 3 18) g 4 (lcells g ad (r3, w.2)) 3 18 6 [(0, .ref (ad 0)), (1, .int a0), (2, .int a1)] [] from ?_)
    refine v_goto hG 18 dL_put_6 rfl ?_
    refine v_iconst hG (v := 0) (by decide) dL_put_18 ?_
    cases hf
    exact l_iret hG hr ⟨Nat.le_of_ble_eq_true rfl, Nat.le_of_ble_eq_true rfl⟩ dL_put_19
set_option maxRecDepth 100000 in
set_option maxHeartbeats 4000000 in
theorem ct_L_back (l : Launch) (hl : l.stackTraces = false) (g : wG) (ad : Nat → Nat) (w : LW) (rr : Int32 × LW) (hf : L_back w = some rr) : MetL l g yL_back cL_back 3 (some .int) [(0, 8, 11, 13)] (x_rm 8 2 131) [.ref (ad 0), .ref (ad 73)] (lcells g ad w) (lcells g ad rr.2) (some (.int rr.1)) 2 12 := by
  refine MetL.of2 [(0, .ref (ad 0)), (1, .ref (ad 73))] rfl (by decide +kernel) (Nat.le_of_ble_eq_true rfl) ?_
  intro p e s m args below meth c hG hr hX
  unfold L_back at hf
  refine v_aload_n hG 1 rfl rfl dL_back_0 ?_
  refine v_iconst hG (v := 0) (by decide) dL_back_1 ?_
  refine v_aload_n hG 0 rfl rfl dL_back_2 ?_
  obtain ⟨r3, hr3, hf⟩ := bd_some hf
  rcases r3 with x3 | r3
  · rcases x3 with ⟨e3, y3⟩
    simp only [Sum.elim_inl] at hf
    by_cases hE : e3 = "java/lang/IllegalStateException"
    · subst hE
      rw [if_pos rfl] at hf
      refine l_callC (wc := ccells g ad w.1) (wc' := ccells g ad y3) (ext := oCell g ad w.2) (st := [.int 0, .ref (ad 73)]) hG hX 0 8 [] ⟨0, 8, 11, 13⟩ [] rfl (fun z hz => by cases hz) rfl (by decide) wk_420 (by decide +kernel) (ct_X8_back l hl g ad w.1  (.inl ("java/lang/IllegalStateException", y3)) hr3) iw_X8_back wk_994 rfl rfl ⟨rfl, rfl, Nat.le_of_ble_eq_true rfl, Nat.le_of_ble_eq_true rfl⟩ ⟨Nat.le_of_ble_eq_true rfl, Nat.le_of_ble_eq_true rfl⟩ rfl rfl (Nat.le_of_ble_eq_true rfl) rfl dL_back_3 (fun q3 => ?_)
      refine (show V p l e (x_rm 8 2 131) s m args below meth c (inW (lcells g ad w)) (EL below args s g (lcells g ad w) (lcells g ad rr.2) (some (.int rr.1)) 2 12) g 3 (lcells g ad (y3, w.2)) 2 12 11 [(0, .ref (ad 0)), (1, .ref (ad 73))] [.ref q3] from ?_)
      refine v_astore_n hG [(2, _), (0, _), (1, _)] dL_back_11 rfl (by decide) rfl ?_
      refine v_iconst hG (v := 1) (by decide) dL_back_12 ?_
      cases hf
      exact l_iret hG hr ⟨Nat.le_of_ble_eq_true rfl, Nat.le_of_ble_eq_true rfl⟩ dL_back_13
    · rw [if_neg hE] at hf
      cases hf
  · simp only [Sum.elim_inr] at hf
    refine l_callR (wc := ccells g ad w.1) (ext := oCell g ad w.2) (st := [.int 0, .ref (ad 73)]) hG hX 0 8 (ct_X8_back l hl g ad w.1  (.inr r3) hr3) iw_X8_back wk_994 rfl rfl ⟨rfl, rfl, Nat.le_of_ble_eq_true rfl, Nat.le_of_ble_eq_true rfl⟩ ⟨Nat.le_of_ble_eq_true rfl, Nat.le_of_ble_eq_true rfl⟩ rfl rfl (Nat.le_of_ble_eq_true rfl) rfl dL_back_3 ?_
    refine (show V p l e (x_rm 8 2 131) s m args below meth c (inW (lcells g ad w)) (EL below args s g (lcells g ad w) (lcells g ad rr.2) (some (.int rr.1)) 2 12) g 3 (lcells g ad (r3.2, w.2)) 2 12 6 [(0, .ref (ad 0)), (1, .ref (ad 73))] [.int r3.1, .int 0, .ref (ad 73)] from ?_)
    refine v_i2l hG dL_back_6 ?_
    refine l_s_out hG dL_back_7 hf (fun w7 hf => ?_)
    refine v_goto hG 14 dL_back_8 rfl ?_
    refine v_iconst hG (v := 0) (by decide) dL_back_14 ?_
    cases hf
    exact l_iret hG hr ⟨Nat.le_of_ble_eq_true rfl, Nat.le_of_ble_eq_true rfl⟩ dL_back_15
set_option maxRecDepth 100000 in
set_option maxHeartbeats 4000000 in
theorem ct_L_at (l : Launch) (hl : l.stackTraces = false) (g : wG) (ad : Nat → Nat) (w : LW) (a0 : Int32) (rr : Int32 × LW) (hf : L_at w a0 = some rr) : MetL l g yL_at cL_at 4 (some .int) [(0, 9, 12, 13), (0, 9, 15, 25)] (x_rm 8 2 132) [.ref (ad 0), .int a0, .ref (ad 73)] (lcells g ad w) (lcells g ad rr.2) (some (.int rr.1)) 2 12 := by
  refine MetL.of2 [(0, .ref (ad 0)), (1, .int a0), (2, .ref (ad 73))] rfl (by decide +kernel) (Nat.le_of_ble_eq_true rfl) ?_
  intro p e s m args below meth c hG hr hX
  unfold L_at at hf
  refine v_aload_n hG 2 rfl rfl dL_at_0 ?_
  refine v_iconst hG (v := 0) (by decide) dL_at_1 ?_
  refine v_aload_n hG 0 rfl rfl dL_at_2 ?_
  refine v_iload_n hG 1 rfl rfl dL_at_3 ?_
  obtain ⟨r4, hr4, hf⟩ := bd_some hf
  rcases r4 with x4 | r4
  · rcases x4 with ⟨e4, y4⟩
    simp only [Sum.elim_inl] at hf
    by_cases hE : e4 = "java/lang/IllegalStateException"
    · subst hE
      rw [if_pos rfl] at hf
      refine l_callC (wc := ccells g ad w.1) (wc' := ccells g ad y4) (ext := oCell g ad w.2) (st := [.int 0, .ref (ad 73)]) hG hX 0 8 [] ⟨0, 9, 12, 13⟩ [⟨0, 9, 15, 25⟩] rfl (fun z hz => by cases hz) rfl (by decide) wk_420 (by decide +kernel) (ct_X8_at l hl g ad w.1 a0 (.inl ("java/lang/IllegalStateException", y4)) hr4) iw_X8_at wk_1012 rfl rfl ⟨rfl, rfl, Nat.le_of_ble_eq_true rfl, Nat.le_of_ble_eq_true rfl⟩ ⟨Nat.le_of_ble_eq_true rfl, Nat.le_of_ble_eq_true rfl⟩ rfl rfl (Nat.le_of_ble_eq_true rfl) rfl dL_at_4 (fun q4 => ?_)
      refine (show V p l e (x_rm 8 2 132) s m args below meth c (inW (lcells g ad w)) (EL below args s g (lcells g ad w) (lcells g ad rr.2) (some (.int rr.1)) 2 12) g 4 (lcells g ad (y4, w.2)) 2 12 12 [(0, .ref (ad 0)), (1, .int a0), (2, .ref (ad 73))] [.ref q4] from ?_)
      refine v_astore_n hG [(3, _), (0, _), (1, _), (2, _)] dL_at_12 rfl (by decide) rfl ?_
      refine v_iconst hG (v := 1) (by decide) dL_at_13 ?_
      cases hf
      exact l_iret hG hr ⟨Nat.le_of_ble_eq_true rfl, Nat.le_of_ble_eq_true rfl⟩ dL_at_14
    · rw [if_neg hE] at hf
      by_cases hE : e4 = "java/lang/IndexOutOfBoundsException"
      · subst hE
        rw [if_pos rfl] at hf
        refine l_callC (wc := ccells g ad w.1) (wc' := ccells g ad y4) (ext := oCell g ad w.2) (st := [.int 0, .ref (ad 73)]) hG hX 0 8 [⟨0, 9, 12, 13⟩] ⟨0, 9, 15, 25⟩ [] rfl (List.forall_mem_cons.mpr ⟨⟨by decide, _, wk_420, by decide +kernel⟩, (fun _ h => absurd h List.not_mem_nil)⟩) rfl (by decide) wk_528 (by decide +kernel) (ct_X8_at l hl g ad w.1 a0 (.inl ("java/lang/IndexOutOfBoundsException", y4)) hr4) iw_X8_at wk_1012 rfl rfl ⟨rfl, rfl, Nat.le_of_ble_eq_true rfl, Nat.le_of_ble_eq_true rfl⟩ ⟨Nat.le_of_ble_eq_true rfl, Nat.le_of_ble_eq_true rfl⟩ rfl rfl (Nat.le_of_ble_eq_true rfl) rfl dL_at_4 (fun q4 => ?_)
        refine (show V p l e (x_rm 8 2 132) s m args below meth c (inW (lcells g ad w)) (EL below args s g (lcells g ad w) (lcells g ad rr.2) (some (.int rr.1)) 2 12) g 4 (lcells g ad (y4, w.2)) 2 12 15 [(0, .ref (ad 0)), (1, .int a0), (2, .ref (ad 73))] [.ref q4] from ?_)
        refine v_astore_n hG [(3, _), (0, _), (1, _), (2, _)] dL_at_15 rfl (by decide) rfl ?_
        refine v_iconst hG (v := 2) (by decide) dL_at_16 ?_
        cases hf
        exact l_iret hG hr ⟨Nat.le_of_ble_eq_true rfl, Nat.le_of_ble_eq_true rfl⟩ dL_at_17
      · rw [if_neg hE] at hf
        cases hf
  · simp only [Sum.elim_inr] at hf
    refine l_callR (wc := ccells g ad w.1) (ext := oCell g ad w.2) (st := [.int 0, .ref (ad 73)]) hG hX 0 8 (ct_X8_at l hl g ad w.1 a0 (.inr r4) hr4) iw_X8_at wk_1012 rfl rfl ⟨rfl, rfl, Nat.le_of_ble_eq_true rfl, Nat.le_of_ble_eq_true rfl⟩ ⟨Nat.le_of_ble_eq_true rfl, Nat.le_of_ble_eq_true rfl⟩ rfl rfl (Nat.le_of_ble_eq_true rfl) rfl dL_at_4 ?_
    refine (show V p l e (x_rm 8 2 132) s m args below meth c (inW (lcells g ad w)) (EL below args s g (lcells g ad w) (lcells g ad rr.2) (some (.int rr.1)) 2 12) g 4 (lcells g ad (w.1, w.2)) 2 12 7 [(0, .ref (ad 0)), (1, .int a0), (2, .ref (ad 73))] [.int r4, .int 0, .ref (ad 73)] from ?_)
    refine v_i2l hG dL_at_7 ?_
    refine l_s_out hG dL_at_8 hf (fun w8 hf => ?_)
    refine v_goto hG 18 dL_at_9 rfl ?_
    refine v_iconst hG (v := 0) (by decide) dL_at_18 ?_
    cases hf
    exact l_iret hG hr ⟨Nat.le_of_ble_eq_true rfl, Nat.le_of_ble_eq_true rfl⟩ dL_at_19
set_option maxRecDepth 100000 in
set_option maxHeartbeats 4000000 in
theorem ct_L_value (l : Launch) (hl : l.stackTraces = false) (g : wG) (ad : Nat → Nat) (w : LW) (rr : Int32 × LW) (hf : L_value w = some rr) : MetL l g yL_value cL_value 3 (some .int) [(0, 7, 10, 13)] (x_rm 8 1 133) [.ref (ad 0), .ref (ad 73)] (lcells g ad w) (lcells g ad rr.2) (some (.int rr.1)) 1 6 := by
  refine MetL.of2 [(0, .ref (ad 0)), (1, .ref (ad 73))] rfl (by decide +kernel) (Nat.le_of_ble_eq_true rfl) ?_
  intro p e s m args below meth c hG hr hX
  unfold L_value at hf
  refine v_aload_n hG 1 rfl rfl dL_value_0 ?_
  refine v_iconst hG (v := 0) (by decide) dL_value_1 ?_
  refine v_aload_n hG 0 rfl rfl dL_value_2 ?_
  obtain ⟨r3, hr3, hf⟩ := bd_some hf
  rcases r3 with x3 | r3
  · rcases x3 with ⟨e3, y3⟩
    simp only [Sum.elim_inl] at hf
    by_cases hE : e3 = "java/lang/IllegalStateException"
    · subst hE
      rw [if_pos rfl] at hf
      refine l_callC (wc := ccells g ad w.1) (wc' := ccells g ad y3) (ext := oCell g ad w.2) (st := [.int 0, .ref (ad 73)]) hG hX 0 8 [] ⟨0, 7, 10, 13⟩ [] rfl (fun z hz => by cases hz) rfl (by decide) wk_420 (by decide +kernel) (ct_X8_value l hl g ad w.1  (.inl ("java/lang/IllegalStateException", y3)) hr3) iw_X8_value wk_1024 rfl rfl ⟨rfl, rfl, Nat.le_of_ble_eq_true rfl, Nat.le_of_ble_eq_true rfl⟩ ⟨Nat.le_of_ble_eq_true rfl, Nat.le_of_ble_eq_true rfl⟩ rfl rfl (Nat.le_of_ble_eq_true rfl) rfl dL_value_3 (fun q3 => ?_)
      refine (show V p l e (x_rm 8 1 133) s m args below meth c (inW (lcells g ad w)) (EL below args s g (lcells g ad w) (lcells g ad rr.2) (some (.int rr.1)) 1 6) g 3 (lcells g ad (y3, w.2)) 1 6 10 [(0, .ref (ad 0)), (1, .ref (ad 73))] [.ref q3] from ?_)
      refine v_astore_n hG [(2, _), (0, _), (1, _)] dL_value_10 rfl (by decide) rfl ?_
      refine v_iconst hG (v := 1) (by decide) dL_value_11 ?_
      cases hf
      exact l_iret hG hr ⟨Nat.le_of_ble_eq_true rfl, Nat.le_of_ble_eq_true rfl⟩ dL_value_12
    · rw [if_neg hE] at hf
      cases hf
  · simp only [Sum.elim_inr] at hf
    refine l_callR (wc := ccells g ad w.1) (ext := oCell g ad w.2) (st := [.int 0, .ref (ad 73)]) hG hX 0 8 (ct_X8_value l hl g ad w.1  (.inr r3) hr3) iw_X8_value wk_1024 rfl rfl ⟨rfl, rfl, Nat.le_of_ble_eq_true rfl, Nat.le_of_ble_eq_true rfl⟩ ⟨Nat.le_of_ble_eq_true rfl, Nat.le_of_ble_eq_true rfl⟩ rfl rfl (Nat.le_of_ble_eq_true rfl) rfl dL_value_3 ?_
    refine (show V p l e (x_rm 8 1 133) s m args below meth c (inW (lcells g ad w)) (EL below args s g (lcells g ad w) (lcells g ad rr.2) (some (.int rr.1)) 1 6) g 3 (lcells g ad (w.1, w.2)) 1 6 6 [(0, .ref (ad 0)), (1, .ref (ad 73))] [.long r3, .int 0, .ref (ad 73)] from ?_)
    refine l_s_out hG dL_value_6 hf (fun w6 hf => ?_)
    refine v_goto hG 13 dL_value_7 rfl ?_
    refine v_iconst hG (v := 0) (by decide) dL_value_13 ?_
    cases hf
    exact l_iret hG hr ⟨Nat.le_of_ble_eq_true rfl, Nat.le_of_ble_eq_true rfl⟩ dL_value_14
set_option maxRecDepth 100000 in
set_option maxHeartbeats 4000000 in
theorem ct_L_best (l : Launch) (hl : l.stackTraces = false) (g : wG) (ad : Nat → Nat) (w : LW) (a0 : Int32) (rr : Int32 × LW) (hf : L_best w a0 = some rr) : MetL l g yL_best cL_best 4 (some .int) [(0, 9, 12, 13)] (x_rm 8 1 133) [.ref (ad 0), .int a0, .ref (ad 73)] (lcells g ad w) (lcells g ad rr.2) (some (.int rr.1)) 1 6 := by
  refine MetL.of2 [(0, .ref (ad 0)), (1, .int a0), (2, .ref (ad 73))] rfl (by decide +kernel) (Nat.le_of_ble_eq_true rfl) ?_
  intro p e s m args below meth c hG hr hX
  unfold L_best at hf
  refine v_aload_n hG 2 rfl rfl dL_best_0 ?_
  refine v_iconst hG (v := 0) (by decide) dL_best_1 ?_
  refine v_aload_n hG 0 rfl rfl dL_best_2 ?_
  refine v_iload_n hG 1 rfl rfl dL_best_3 ?_
  obtain ⟨r4, hr4, hf⟩ := bd_some hf
  rcases r4 with x4 | r4
  · rcases x4 with ⟨e4, y4⟩
    simp only [Sum.elim_inl] at hf
    by_cases hE : e4 = "java/lang/IllegalStateException"
    · subst hE
      rw [if_pos rfl] at hf
      refine l_callC (wc := ccells g ad w.1) (wc' := ccells g ad y4) (ext := oCell g ad w.2) (st := [.int 0, .ref (ad 73)]) hG hX 0 8 [] ⟨0, 9, 12, 13⟩ [] rfl (fun z hz => by cases hz) rfl (by decide) wk_420 (by decide +kernel) (ct_X8_best l hl g ad w.1 a0 (.inl ("java/lang/IllegalStateException", y4)) hr4) iw_X8_best wk_1031 rfl rfl ⟨rfl, rfl, Nat.le_of_ble_eq_true rfl, Nat.le_of_ble_eq_true rfl⟩ ⟨Nat.le_of_ble_eq_true rfl, Nat.le_of_ble_eq_true rfl⟩ rfl rfl (Nat.le_of_ble_eq_true rfl) rfl dL_best_4 (fun q4 => ?_)
      refine (show V p l e (x_rm 8 1 133) s m args below meth c (inW (lcells g ad w)) (EL below args s g (lcells g ad w) (lcells g ad rr.2) (some (.int rr.1)) 1 6) g 4 (lcells g ad (y4, w.2)) 1 6 12 [(0, .ref (ad 0)), (1, .int a0), (2, .ref (ad 73))] [.ref q4] from ?_)
      refine v_astore_n hG [(3, _), (0, _), (1, _), (2, _)] dL_best_12 rfl (by decide) rfl ?_
      refine v_iconst hG (v := 1) (by decide) dL_best_13 ?_
      cases hf
      exact l_iret hG hr ⟨Nat.le_of_ble_eq_true rfl, Nat.le_of_ble_eq_true rfl⟩ dL_best_14
    · rw [if_neg hE] at hf
      cases hf
  · simp only [Sum.elim_inr] at hf
    refine l_callR (wc := ccells g ad w.1) (ext := oCell g ad w.2) (st := [.int 0, .ref (ad 73)]) hG hX 0 8 (ct_X8_best l hl g ad w.1 a0 (.inr r4) hr4) iw_X8_best wk_1031 rfl rfl ⟨rfl, rfl, Nat.le_of_ble_eq_true rfl, Nat.le_of_ble_eq_true rfl⟩ ⟨Nat.le_of_ble_eq_true rfl, Nat.le_of_ble_eq_true rfl⟩ rfl rfl (Nat.le_of_ble_eq_true rfl) rfl dL_best_4 ?_
    refine (show V p l e (x_rm 8 1 133) s m args below meth c (inW (lcells g ad w)) (EL below args s g (lcells g ad w) (lcells g ad rr.2) (some (.int rr.1)) 1 6) g 4 (lcells g ad (r4.2, w.2)) 1 6 7 [(0, .ref (ad 0)), (1, .int a0), (2, .ref (ad 73))] [.int r4.1, .int 0, .ref (ad 73)] from ?_)
    refine v_i2l hG dL_best_7 ?_
    refine l_s_out hG dL_best_8 hf (fun w8 hf => ?_)
    refine v_goto hG 15 dL_best_9 rfl ?_
    refine v_iconst hG (v := 0) (by decide) dL_best_15 ?_
    cases hf
    exact l_iret hG hr ⟨Nat.le_of_ble_eq_true rfl, Nat.le_of_ble_eq_true rfl⟩ dL_best_16
set_option maxRecDepth 100000 in
set_option maxHeartbeats 4000000 in
theorem ct_L_bestValue (l : Launch) (hl : l.stackTraces = false) (g : wG) (ad : Nat → Nat) (w : LW) (rr : Int32 × LW) (hf : L_bestValue w = some rr) : MetL l g yL_bestValue cL_bestValue 3 (some .int) [(0, 7, 10, 13)] (x_rm 8 1 130) [.ref (ad 0), .ref (ad 73)] (lcells g ad w) (lcells g ad rr.2) (some (.int rr.1)) 1 6 := by
  refine MetL.of2 [(0, .ref (ad 0)), (1, .ref (ad 73))] rfl (by decide +kernel) (Nat.le_of_ble_eq_true rfl) ?_
  intro p e s m args below meth c hG hr hX
  unfold L_bestValue at hf
  refine v_aload_n hG 1 rfl rfl dL_bestValue_0 ?_
  refine v_iconst hG (v := 0) (by decide) dL_bestValue_1 ?_
  refine v_aload_n hG 0 rfl rfl dL_bestValue_2 ?_
  obtain ⟨r3, hr3, hf⟩ := bd_some hf
  rcases r3 with x3 | r3
  · rcases x3 with ⟨e3, y3⟩
    simp only [Sum.elim_inl] at hf
    by_cases hE : e3 = "java/lang/IllegalStateException"
    · subst hE
      rw [if_pos rfl] at hf
      refine l_callC (wc := ccells g ad w.1) (wc' := ccells g ad y3) (ext := oCell g ad w.2) (st := [.int 0, .ref (ad 73)]) hG hX 0 8 [] ⟨0, 7, 10, 13⟩ [] rfl (fun z hz => by cases hz) rfl (by decide) wk_420 (by decide +kernel) (ct_X8_bestValue l hl g ad w.1  (.inl ("java/lang/IllegalStateException", y3)) hr3) iw_X8_bestValue wk_1044 rfl rfl ⟨rfl, rfl, Nat.le_of_ble_eq_true rfl, Nat.le_of_ble_eq_true rfl⟩ ⟨Nat.le_of_ble_eq_true rfl, Nat.le_of_ble_eq_true rfl⟩ rfl rfl (Nat.le_of_ble_eq_true rfl) rfl dL_bestValue_3 (fun q3 => ?_)
      refine (show V p l e (x_rm 8 1 130) s m args below meth c (inW (lcells g ad w)) (EL below args s g (lcells g ad w) (lcells g ad rr.2) (some (.int rr.1)) 1 6) g 3 (lcells g ad (y3, w.2)) 1 6 10 [(0, .ref (ad 0)), (1, .ref (ad 73))] [.ref q3] from ?_)
      refine v_astore_n hG [(2, _), (0, _), (1, _)] dL_bestValue_10 rfl (by decide) rfl ?_
      refine v_iconst hG (v := 1) (by decide) dL_bestValue_11 ?_
      cases hf
      exact l_iret hG hr ⟨Nat.le_of_ble_eq_true rfl, Nat.le_of_ble_eq_true rfl⟩ dL_bestValue_12
    · rw [if_neg hE] at hf
      cases hf
  · simp only [Sum.elim_inr] at hf
    refine l_callR (wc := ccells g ad w.1) (ext := oCell g ad w.2) (st := [.int 0, .ref (ad 73)]) hG hX 0 8 (ct_X8_bestValue l hl g ad w.1  (.inr r3) hr3) iw_X8_bestValue wk_1044 rfl rfl ⟨rfl, rfl, Nat.le_of_ble_eq_true rfl, Nat.le_of_ble_eq_true rfl⟩ ⟨Nat.le_of_ble_eq_true rfl, Nat.le_of_ble_eq_true rfl⟩ rfl rfl (Nat.le_of_ble_eq_true rfl) rfl dL_bestValue_3 ?_
    refine (show V p l e (x_rm 8 1 130) s m args below meth c (inW (lcells g ad w)) (EL below args s g (lcells g ad w) (lcells g ad rr.2) (some (.int rr.1)) 1 6) g 3 (lcells g ad (w.1, w.2)) 1 6 6 [(0, .ref (ad 0)), (1, .ref (ad 73))] [.long r3, .int 0, .ref (ad 73)] from ?_)
    refine l_s_out hG dL_bestValue_6 hf (fun w6 hf => ?_)
    refine v_goto hG 13 dL_bestValue_7 rfl ?_
    refine v_iconst hG (v := 0) (by decide) dL_bestValue_13 ?_
    cases hf
    exact l_iret hG hr ⟨Nat.le_of_ble_eq_true rfl, Nat.le_of_ble_eq_true rfl⟩ dL_bestValue_14
set_option maxRecDepth 100000 in
set_option maxHeartbeats 4000000 in
theorem ct_L_bestAt (l : Launch) (hl : l.stackTraces = false) (g : wG) (ad : Nat → Nat) (w : LW) (a0 : Int32) (rr : Int32 × LW) (hf : L_bestAt w a0 = some rr) : MetL l g yL_bestAt cL_bestAt 4 (some .int) [(0, 9, 12, 13), (0, 9, 15, 25)] (x_rm 8 2 132) [.ref (ad 0), .int a0, .ref (ad 73)] (lcells g ad w) (lcells g ad rr.2) (some (.int rr.1)) 2 12 := by
  refine MetL.of2 [(0, .ref (ad 0)), (1, .int a0), (2, .ref (ad 73))] rfl (by decide +kernel) (Nat.le_of_ble_eq_true rfl) ?_
  intro p e s m args below meth c hG hr hX
  unfold L_bestAt at hf
  refine v_aload_n hG 2 rfl rfl dL_bestAt_0 ?_
  refine v_iconst hG (v := 0) (by decide) dL_bestAt_1 ?_
  refine v_aload_n hG 0 rfl rfl dL_bestAt_2 ?_
  refine v_iload_n hG 1 rfl rfl dL_bestAt_3 ?_
  obtain ⟨r4, hr4, hf⟩ := bd_some hf
  rcases r4 with x4 | r4
  · rcases x4 with ⟨e4, y4⟩
    simp only [Sum.elim_inl] at hf
    by_cases hE : e4 = "java/lang/IllegalStateException"
    · subst hE
      rw [if_pos rfl] at hf
      refine l_callC (wc := ccells g ad w.1) (wc' := ccells g ad y4) (ext := oCell g ad w.2) (st := [.int 0, .ref (ad 73)]) hG hX 0 8 [] ⟨0, 9, 12, 13⟩ [⟨0, 9, 15, 25⟩] rfl (fun z hz => by cases hz) rfl (by decide) wk_420 (by decide +kernel) (ct_X8_bestAt l hl g ad w.1 a0 (.inl ("java/lang/IllegalStateException", y4)) hr4) iw_X8_bestAt wk_1056 rfl rfl ⟨rfl, rfl, Nat.le_of_ble_eq_true rfl, Nat.le_of_ble_eq_true rfl⟩ ⟨Nat.le_of_ble_eq_true rfl, Nat.le_of_ble_eq_true rfl⟩ rfl rfl (Nat.le_of_ble_eq_true rfl) rfl dL_bestAt_4 (fun q4 => ?_)
      refine (show V p l e (x_rm 8 2 132) s m args below meth c (inW (lcells g ad w)) (EL below args s g (lcells g ad w) (lcells g ad rr.2) (some (.int rr.1)) 2 12) g 4 (lcells g ad (y4, w.2)) 2 12 12 [(0, .ref (ad 0)), (1, .int a0), (2, .ref (ad 73))] [.ref q4] from ?_)
      refine v_astore_n hG [(3, _), (0, _), (1, _), (2, _)] dL_bestAt_12 rfl (by decide) rfl ?_
      refine v_iconst hG (v := 1) (by decide) dL_bestAt_13 ?_
      cases hf
      exact l_iret hG hr ⟨Nat.le_of_ble_eq_true rfl, Nat.le_of_ble_eq_true rfl⟩ dL_bestAt_14
    · rw [if_neg hE] at hf
      by_cases hE : e4 = "java/lang/IndexOutOfBoundsException"
      · subst hE
        rw [if_pos rfl] at hf
        refine l_callC (wc := ccells g ad w.1) (wc' := ccells g ad y4) (ext := oCell g ad w.2) (st := [.int 0, .ref (ad 73)]) hG hX 0 8 [⟨0, 9, 12, 13⟩] ⟨0, 9, 15, 25⟩ [] rfl (List.forall_mem_cons.mpr ⟨⟨by decide, _, wk_420, by decide +kernel⟩, (fun _ h => absurd h List.not_mem_nil)⟩) rfl (by decide) wk_528 (by decide +kernel) (ct_X8_bestAt l hl g ad w.1 a0 (.inl ("java/lang/IndexOutOfBoundsException", y4)) hr4) iw_X8_bestAt wk_1056 rfl rfl ⟨rfl, rfl, Nat.le_of_ble_eq_true rfl, Nat.le_of_ble_eq_true rfl⟩ ⟨Nat.le_of_ble_eq_true rfl, Nat.le_of_ble_eq_true rfl⟩ rfl rfl (Nat.le_of_ble_eq_true rfl) rfl dL_bestAt_4 (fun q4 => ?_)
        refine (show V p l e (x_rm 8 2 132) s m args below meth c (inW (lcells g ad w)) (EL below args s g (lcells g ad w) (lcells g ad rr.2) (some (.int rr.1)) 2 12) g 4 (lcells g ad (y4, w.2)) 2 12 15 [(0, .ref (ad 0)), (1, .int a0), (2, .ref (ad 73))] [.ref q4] from ?_)
        refine v_astore_n hG [(3, _), (0, _), (1, _), (2, _)] dL_bestAt_15 rfl (by decide) rfl ?_
        refine v_iconst hG (v := 2) (by decide) dL_bestAt_16 ?_
        cases hf
        exact l_iret hG hr ⟨Nat.le_of_ble_eq_true rfl, Nat.le_of_ble_eq_true rfl⟩ dL_bestAt_17
      · rw [if_neg hE] at hf
        cases hf
  · simp only [Sum.elim_inr] at hf
    refine l_callR (wc := ccells g ad w.1) (ext := oCell g ad w.2) (st := [.int 0, .ref (ad 73)]) hG hX 0 8 (ct_X8_bestAt l hl g ad w.1 a0 (.inr r4) hr4) iw_X8_bestAt wk_1056 rfl rfl ⟨rfl, rfl, Nat.le_of_ble_eq_true rfl, Nat.le_of_ble_eq_true rfl⟩ ⟨Nat.le_of_ble_eq_true rfl, Nat.le_of_ble_eq_true rfl⟩ rfl rfl (Nat.le_of_ble_eq_true rfl) rfl dL_bestAt_4 ?_
    refine (show V p l e (x_rm 8 2 132) s m args below meth c (inW (lcells g ad w)) (EL below args s g (lcells g ad w) (lcells g ad rr.2) (some (.int rr.1)) 2 12) g 4 (lcells g ad (w.1, w.2)) 2 12 7 [(0, .ref (ad 0)), (1, .int a0), (2, .ref (ad 73))] [.int r4, .int 0, .ref (ad 73)] from ?_)
    refine v_i2l hG dL_bestAt_7 ?_
    refine l_s_out hG dL_bestAt_8 hf (fun w8 hf => ?_)
    refine v_goto hG 18 dL_bestAt_9 rfl ?_
    refine v_iconst hG (v := 0) (by decide) dL_bestAt_18 ?_
    cases hf
    exact l_iret hG hr ⟨Nat.le_of_ble_eq_true rfl, Nat.le_of_ble_eq_true rfl⟩ dL_bestAt_19
