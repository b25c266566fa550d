set_option maxRecDepth 20000 in
theorem wk_0 : (Jvm.Cond.selects "RowPresolve" ({ cls := "RowPresolve", name := "endSmall", desc := "()V" } : Jvm.MethodName) ({ cls := "RowPresolve", name := "endSmall", desc := "()V" } : Jvm.MethodName)) ∈ gtbl := gt0 0 rfl rfl
set_option maxRecDepth 20000 in
theorem wk_1 : (Jvm.Cond.selects "RowPresolve" ({ cls := "RowPresolve", name := "endPoints", desc := "()V" } : Jvm.MethodName) ({ cls := "RowPresolve", name := "endPoints", desc := "()V" } : Jvm.MethodName)) ∈ gtbl := gt0 1 rfl rfl
set_option maxRecDepth 20000 in
theorem wk_3 : (Jvm.Cond.selects "RowPresolve" ({ cls := "RowPresolve", name := "needRow", desc := "(I)V" } : Jvm.MethodName) ({ cls := "RowPresolve", name := "needRow", desc := "(I)V" } : Jvm.MethodName)) ∈ gtbl := gt0 3 rfl rfl
set_option maxRecDepth 20000 in
theorem wk_4 : (Jvm.Cond.selects "RowPresolve" ({ cls := "RowPresolve", name := "needColumn", desc := "(I)V" } : Jvm.MethodName) ({ cls := "RowPresolve", name := "needColumn", desc := "(I)V" } : Jvm.MethodName)) ∈ gtbl := gt0 4 rfl rfl
set_option maxRecDepth 20000 in
theorem wk_5 : (Jvm.Cond.selects "RowPresolve$Rounds" ({ cls := "RowPresolve$Rounds", name := "doRule", desc := "(II)Z" } : Jvm.MethodName) ({ cls := "RowPresolve$Rounds", name := "doRule", desc := "(II)Z" } : Jvm.MethodName)) ∈ gtbl := gt0 5 rfl rfl
set_option maxRecDepth 20000 in
theorem wk_6 : (Jvm.Cond.selects "RowPresolve$RowRules" ({ cls := "RowPresolve$RowRules", name := "sharedDivisor", desc := "(I)J" } : Jvm.MethodName) ({ cls := "RowPresolve$RowRules", name := "sharedDivisor", desc := "(I)J" } : Jvm.MethodName)) ∈ gtbl := gt0 6 rfl rfl
set_option maxRecDepth 20000 in
theorem wk_7 : (Jvm.Cond.selects "RowPresolve$RowRules" ({ cls := "RowPresolve$RowRules", name := "divide", desc := "(IJ)V" } : Jvm.MethodName) ({ cls := "RowPresolve$RowRules", name := "divide", desc := "(IJ)V" } : Jvm.MethodName)) ∈ gtbl := gt0 7 rfl rfl
set_option maxRecDepth 20000 in
theorem wk_8 : (Jvm.Cond.selects "RowPresolve$RowRules" ({ cls := "RowPresolve$RowRules", name := "turnSigns", desc := "(I)V" } : Jvm.MethodName) ({ cls := "RowPresolve$RowRules", name := "turnSigns", desc := "(I)V" } : Jvm.MethodName)) ∈ gtbl := gt0 8 rfl rfl
set_option maxRecDepth 20000 in
theorem wk_9 : (Jvm.Cond.selects "RowPresolve$RowRules" ({ cls := "RowPresolve$RowRules", name := "holdAtEnd", desc := "(IZ)Z" } : Jvm.MethodName) ({ cls := "RowPresolve$RowRules", name := "holdAtEnd", desc := "(IZ)Z" } : Jvm.MethodName)) ∈ gtbl := gt0 9 rfl rfl
set_option maxRecDepth 20000 in
theorem wk_10 : (Jvm.Cond.selects "RowPresolve$RowRules" ({ cls := "RowPresolve$RowRules", name := "tightenTerm", desc := "(IIZ)Z" } : Jvm.MethodName) ({ cls := "RowPresolve$RowRules", name := "tightenTerm", desc := "(IIZ)Z" } : Jvm.MethodName)) ∈ gtbl := gt0 10 rfl rfl
set_option maxRecDepth 20000 in
theorem wk_11 : (Jvm.Cond.selects "RowPresolve$RowRules" ({ cls := "RowPresolve$RowRules", name := "comparePair", desc := "(II)Z" } : Jvm.MethodName) ({ cls := "RowPresolve$RowRules", name := "comparePair", desc := "(II)Z" } : Jvm.MethodName)) ∈ gtbl := gt0 11 rfl rfl
set_option maxRecDepth 20000 in
theorem wk_12 : (Jvm.Cond.selects "RowPresolve$RowRules" ({ cls := "RowPresolve$RowRules", name := "areTimes", desc := "(III)Z" } : Jvm.MethodName) ({ cls := "RowPresolve$RowRules", name := "areTimes", desc := "(III)Z" } : Jvm.MethodName)) ∈ gtbl := gt0 12 rfl rfl
set_option maxRecDepth 20000 in
theorem wk_13 : (Jvm.Cond.selects "RowPresolve$RowRules" ({ cls := "RowPresolve$RowRules", name := "leaveAlike", desc := "(II)Z" } : Jvm.MethodName) ({ cls := "RowPresolve$RowRules", name := "leaveAlike", desc := "(II)Z" } : Jvm.MethodName)) ∈ gtbl := gt0 13 rfl rfl
set_option maxRecDepth 20000 in
theorem wk_14 : (Jvm.Cond.selects "RowPresolve$RowRules" ({ cls := "RowPresolve$RowRules", name := "joinTurned", desc := "(II)Z" } : Jvm.MethodName) ({ cls := "RowPresolve$RowRules", name := "joinTurned", desc := "(II)Z" } : Jvm.MethodName)) ∈ gtbl := gt0 14 rfl rfl
set_option maxRecDepth 20000 in
theorem wk_15 : (Jvm.Cond.selects "RowPresolve$ColumnRules" ({ cls := "RowPresolve$ColumnRules", name := "hasOnlyTerms", desc := "(II)Z" } : Jvm.MethodName) ({ cls := "RowPresolve$ColumnRules", name := "hasOnlyTerms", desc := "(II)Z" } : Jvm.MethodName)) ∈ gtbl := gt0 15 rfl rfl
set_option maxRecDepth 20000 in
theorem wk_16 : (Jvm.Cond.selects "RowPresolve$ColumnRules" ({ cls := "RowPresolve$ColumnRules", name := "staysWithin", desc := "(II)Z" } : Jvm.MethodName) ({ cls := "RowPresolve$ColumnRules", name := "staysWithin", desc := "(II)Z" } : Jvm.MethodName)) ∈ gtbl := gt0 16 rfl rfl
set_option maxRecDepth 20000 in
theorem wk_17 : (Jvm.Cond.selects "RowPresolve$ColumnRules" ({ cls := "RowPresolve$ColumnRules", name := "factorOf", desc := "(III)J" } : Jvm.MethodName) ({ cls := "RowPresolve$ColumnRules", name := "factorOf", desc := "(III)J" } : Jvm.MethodName)) ∈ gtbl := gt0 17 rfl rfl
set_option maxRecDepth 20000 in
theorem wk_18 : (Jvm.Cond.selects "RowPresolve$ColumnRules" ({ cls := "RowPresolve$ColumnRules", name := "rowStaysWithin", desc := "(III)Z" } : Jvm.MethodName) ({ cls := "RowPresolve$ColumnRules", name := "rowStaysWithin", desc := "(III)Z" } : Jvm.MethodName)) ∈ gtbl := gt0 18 rfl rfl
set_option maxRecDepth 20000 in
theorem wk_19 : (Jvm.Cond.selects "RowPresolve$ColumnRules" ({ cls := "RowPresolve$ColumnRules", name := "putInFor", desc := "(II)V" } : Jvm.MethodName) ({ cls := "RowPresolve$ColumnRules", name := "putInFor", desc := "(II)V" } : Jvm.MethodName)) ∈ gtbl := gt0 19 rfl rfl
set_option maxRecDepth 20000 in
theorem wk_20 : (Jvm.Cond.selects "RowPresolve$ColumnRules" ({ cls := "RowPresolve$ColumnRules", name := "recordPutIn", desc := "(IIJ)V" } : Jvm.MethodName) ({ cls := "RowPresolve$ColumnRules", name := "recordPutIn", desc := "(IIJ)V" } : Jvm.MethodName)) ∈ gtbl := gt0 20 rfl rfl
set_option maxRecDepth 20000 in
theorem wk_21 : (Jvm.Cond.selects "RowPresolve$ColumnRules" ({ cls := "RowPresolve$ColumnRules", name := "putInRow", desc := "(III)V" } : Jvm.MethodName) ({ cls := "RowPresolve$ColumnRules", name := "putInRow", desc := "(III)V" } : Jvm.MethodName)) ∈ gtbl := gt0 21 rfl rfl
set_option maxRecDepth 20000 in
theorem wk_22 : (Jvm.Cond.selects "RowPresolve$RowRules" ({ cls := "RowPresolve$RowRules", name := "makeTermLess", desc := "(II)V" } : Jvm.MethodName) ({ cls := "RowPresolve$RowRules", name := "makeTermLess", desc := "(II)V" } : Jvm.MethodName)) ∈ gtbl := gt0 22 rfl rfl
set_option maxRecDepth 20000 in
theorem wk_23 : (Jvm.Cond.selects "RowPresolve$ColumnRules" ({ cls := "RowPresolve$ColumnRules", name := "onlyRow", desc := "(I)I" } : Jvm.MethodName) ({ cls := "RowPresolve$ColumnRules", name := "onlyRow", desc := "(I)I" } : Jvm.MethodName)) ∈ gtbl := gt0 23 rfl rfl
set_option maxRecDepth 20000 in
theorem wk_24 : (Jvm.Cond.selects "RowPresolve" ({ cls := "RowPresolve", name := "needSmall", desc := "()V" } : Jvm.MethodName) ({ cls := "RowPresolve", name := "needSmall", desc := "()V" } : Jvm.MethodName)) ∈ gtbl := gt0 24 rfl rfl
set_option maxRecDepth 20000 in
theorem wk_25 : (Jvm.Cond.selects "RowPresolve$Walk" ({ cls := "RowPresolve$Walk", name := "step", desc := "(IJ)V" } : Jvm.MethodName) ({ cls := "RowPresolve$Walk", name := "step", desc := "(IJ)V" } : Jvm.MethodName)) ∈ gtbl := gt0 25 rfl rfl
set_option maxRecDepth 20000 in
theorem wk_26 : (Jvm.Cond.selects "RowPresolve$Looks" ({ cls := "RowPresolve$Looks", name := "partOf", desc := "(I)I" } : Jvm.MethodName) ({ cls := "RowPresolve$Looks", name := "partOf", desc := "(I)I" } : Jvm.MethodName)) ∈ gtbl := gt0 26 rfl rfl
set_option maxRecDepth 20000 in
theorem wk_27 : (Jvm.Cond.selects "RowPresolve$Looks" ({ cls := "RowPresolve$Looks", name := "termSet", desc := "(I)I" } : Jvm.MethodName) ({ cls := "RowPresolve$Looks", name := "termSet", desc := "(I)I" } : Jvm.MethodName)) ∈ gtbl := gt0 27 rfl rfl
set_option maxRecDepth 20000 in
theorem wk_28 : (Jvm.Cond.selects "RowPresolve$Looks" ({ cls := "RowPresolve$Looks", name := "sortBinaryTerms", desc := "(I)I" } : Jvm.MethodName) ({ cls := "RowPresolve$Looks", name := "sortBinaryTerms", desc := "(I)I" } : Jvm.MethodName)) ∈ gtbl := gt0 28 rfl rfl
set_option maxRecDepth 20000 in
theorem wk_29 : (Jvm.Cond.selects "RowPresolve$Looks" ({ cls := "RowPresolve$Looks", name := "amount", desc := "(II)J" } : Jvm.MethodName) ({ cls := "RowPresolve$Looks", name := "amount", desc := "(II)J" } : Jvm.MethodName)) ∈ gtbl := gt0 29 rfl rfl
set_option maxRecDepth 20000 in
theorem wk_30 : (Jvm.Cond.selects "RowPresolve" ({ cls := "RowPresolve", name := "needPossibleSmall", desc := "()V" } : Jvm.MethodName) ({ cls := "RowPresolve", name := "needPossibleSmall", desc := "()V" } : Jvm.MethodName)) ∈ gtbl := gt0 30 rfl rfl
set_option maxRecDepth 20000 in
theorem wk_31 : (Jvm.Cond.selects "RowPresolve" ({ cls := "RowPresolve", name := "needTurned", desc := "()V" } : Jvm.MethodName) ({ cls := "RowPresolve", name := "needTurned", desc := "()V" } : Jvm.MethodName)) ∈ gtbl := gt0 31 rfl rfl
set_option maxRecDepth 20000 in
theorem wk_32 : (Jvm.Cond.selects "RowPresolve" ({ cls := "RowPresolve", name := "findBest", desc := "(LRowPresolve$Table;IJ)V" } : Jvm.MethodName) ({ cls := "RowPresolve", name := "findBest", desc := "(LRowPresolve$Table;IJ)V" } : Jvm.MethodName)) ∈ gtbl := gt0 32 rfl rfl
set_option maxRecDepth 20000 in
theorem wk_33 : (Jvm.Cond.selects "RowPresolve" ({ cls := "RowPresolve", name := "needBest", desc := "()V" } : Jvm.MethodName) ({ cls := "RowPresolve", name := "needBest", desc := "()V" } : Jvm.MethodName)) ∈ gtbl := gt0 33 rfl rfl
set_option maxRecDepth 20000 in
theorem wk_34 : (Jvm.Cond.selects "RowPresolveModel" ({ cls := "RowPresolveModel", name := "passes", desc := "(ZZ)Z" } : Jvm.MethodName) ({ cls := "RowPresolveModel", name := "passes", desc := "(ZZ)Z" } : Jvm.MethodName)) ∈ gtbl := gt0 34 rfl rfl
set_option maxRecDepth 20000 in
theorem wk_35 : (Jvm.Cond.selects "RowPresolveModel" ({ cls := "RowPresolveModel", name := "endSmall", desc := "()V" } : Jvm.MethodName) ({ cls := "RowPresolveModel", name := "endSmall", desc := "()V" } : Jvm.MethodName)) ∈ gtbl := gt0 35 rfl rfl
set_option maxRecDepth 20000 in
theorem wk_36 : (Jvm.Cond.selects "RowPresolveModel" ({ cls := "RowPresolveModel", name := "endPoints", desc := "()V" } : Jvm.MethodName) ({ cls := "RowPresolveModel", name := "endPoints", desc := "()V" } : Jvm.MethodName)) ∈ gtbl := gt0 36 rfl rfl
set_option maxRecDepth 20000 in
theorem wk_37 : (Jvm.Cond.selects "RowPresolveModel" ({ cls := "RowPresolveModel", name := "isRow", desc := "(I)Z" } : Jvm.MethodName) ({ cls := "RowPresolveModel", name := "isRow", desc := "(I)Z" } : Jvm.MethodName)) ∈ gtbl := gt0 37 rfl rfl
set_option maxRecDepth 20000 in
theorem wk_38 : (Jvm.Cond.selects "RowPresolveModel" ({ cls := "RowPresolveModel", name := "isColumn", desc := "(I)Z" } : Jvm.MethodName) ({ cls := "RowPresolveModel", name := "isColumn", desc := "(I)Z" } : Jvm.MethodName)) ∈ gtbl := gt0 38 rfl rfl
set_option maxRecDepth 20000 in
theorem wk_39 : (Jvm.Cond.selects "RowPresolveModel" ({ cls := "RowPresolveModel", name := "makeSmall", desc := "()V" } : Jvm.MethodName) ({ cls := "RowPresolveModel", name := "makeSmall", desc := "()V" } : Jvm.MethodName)) ∈ gtbl := gt0 39 rfl rfl
set_option maxRecDepth 20000 in
theorem wk_40 : (Jvm.Cond.selects "RowPresolveModel" ({ cls := "RowPresolveModel", name := "goesOn", desc := "()Z" } : Jvm.MethodName) ({ cls := "RowPresolveModel", name := "goesOn", desc := "()Z" } : Jvm.MethodName)) ∈ gtbl := gt0 40 rfl rfl
set_option maxRecDepth 20000 in
theorem wk_41 : (Jvm.Cond.selects "RowPresolveModel" ({ cls := "RowPresolveModel", name := "rule", desc := "(I)V" } : Jvm.MethodName) ({ cls := "RowPresolveModel", name := "rule", desc := "(I)V" } : Jvm.MethodName)) ∈ gtbl := gt0 41 rfl rfl
set_option maxRecDepth 20000 in
theorem wk_42 : (Jvm.Cond.selects "RowPresolveModel" ({ cls := "RowPresolveModel", name := "byRow", desc := "(II)V" } : Jvm.MethodName) ({ cls := "RowPresolveModel", name := "byRow", desc := "(II)V" } : Jvm.MethodName)) ∈ gtbl := gt0 42 rfl rfl
set_option maxRecDepth 20000 in
theorem wk_43 : (Jvm.Cond.selects "RowPresolveModel" ({ cls := "RowPresolveModel", name := "empty", desc := "(I)V" } : Jvm.MethodName) ({ cls := "RowPresolveModel", name := "empty", desc := "(I)V" } : Jvm.MethodName)) ∈ gtbl := gt0 43 rfl rfl
set_option maxRecDepth 20000 in
theorem wk_44 : (Jvm.Cond.selects "RowPresolveModel" ({ cls := "RowPresolveModel", name := "terms", desc := "(I)I" } : Jvm.MethodName) ({ cls := "RowPresolveModel", name := "terms", desc := "(I)I" } : Jvm.MethodName)) ∈ gtbl := gt0 44 rfl rfl
set_option maxRecDepth 20000 in
theorem wk_45 : (Jvm.Cond.selects "RowPresolveModel" ({ cls := "RowPresolveModel", name := "isTerm", desc := "(II)Z" } : Jvm.MethodName) ({ cls := "RowPresolveModel", name := "isTerm", desc := "(II)Z" } : Jvm.MethodName)) ∈ gtbl := gt0 45 rfl rfl
set_option maxRecDepth 20000 in
theorem wk_46 : (Jvm.Cond.selects "RowPresolveModel" ({ cls := "RowPresolveModel", name := "leave", desc := "(II)V" } : Jvm.MethodName) ({ cls := "RowPresolveModel", name := "leave", desc := "(II)V" } : Jvm.MethodName)) ∈ gtbl := gt0 46 rfl rfl
set_option maxRecDepth 20000 in
theorem wk_47 : (Jvm.Cond.selects "RowPresolveModel" ({ cls := "RowPresolveModel", name := "act", desc := "(IIIIJ)V" } : Jvm.MethodName) ({ cls := "RowPresolveModel", name := "act", desc := "(IIIIJ)V" } : Jvm.MethodName)) ∈ gtbl := gt0 47 rfl rfl
set_option maxRecDepth 20000 in
theorem wk_48 : (Jvm.Cond.selects "RowPresolveModel" ({ cls := "RowPresolveModel", name := "impossible", desc := "(I)V" } : Jvm.MethodName) ({ cls := "RowPresolveModel", name := "impossible", desc := "(I)V" } : Jvm.MethodName)) ∈ gtbl := gt0 48 rfl rfl
set_option maxRecDepth 20000 in
theorem wk_49 : (Jvm.Cond.selects "RowPresolveModel" ({ cls := "RowPresolveModel", name := "shared", desc := "(I)V" } : Jvm.MethodName) ({ cls := "RowPresolveModel", name := "shared", desc := "(I)V" } : Jvm.MethodName)) ∈ gtbl := gt0 49 rfl rfl
set_option maxRecDepth 20000 in
theorem wk_50 : (Jvm.Cond.selects "RowPresolveModel" ({ cls := "RowPresolveModel", name := "single", desc := "(I)V" } : Jvm.MethodName) ({ cls := "RowPresolveModel", name := "single", desc := "(I)V" } : Jvm.MethodName)) ∈ gtbl := gt0 50 rfl rfl
set_option maxRecDepth 20000 in
theorem wk_51 : (Jvm.Cond.selects "RowPresolveModel" ({ cls := "RowPresolveModel", name := "narrowLow", desc := "(IIIJI)V" } : Jvm.MethodName) ({ cls := "RowPresolveModel", name := "narrowLow", desc := "(IIIJI)V" } : Jvm.MethodName)) ∈ gtbl := gt0 51 rfl rfl
set_option maxRecDepth 20000 in
theorem wk_52 : (Jvm.Cond.selects "RowPresolveModel" ({ cls := "RowPresolveModel", name := "narrowHigh", desc := "(IIIJI)V" } : Jvm.MethodName) ({ cls := "RowPresolveModel", name := "narrowHigh", desc := "(IIIJI)V" } : Jvm.MethodName)) ∈ gtbl := gt0 52 rfl rfl
set_option maxRecDepth 20000 in
theorem wk_53 : (Jvm.Cond.selects "RowPresolveModel" ({ cls := "RowPresolveModel", name := "span", desc := "(I)V" } : Jvm.MethodName) ({ cls := "RowPresolveModel", name := "span", desc := "(I)V" } : Jvm.MethodName)) ∈ gtbl := gt0 53 rfl rfl
set_option maxRecDepth 20000 in
theorem wk_54 : (Jvm.Cond.selects "RowPresolveModel" ({ cls := "RowPresolveModel", name := "end", desc := "(IIZ)J" } : Jvm.MethodName) ({ cls := "RowPresolveModel", name := "end", desc := "(IIZ)J" } : Jvm.MethodName)) ∈ gtbl := gt0 54 rfl rfl
set_option maxRecDepth 20000 in
theorem wk_55 : (Jvm.Cond.selects "RowPresolveModel" ({ cls := "RowPresolveModel", name := "from", desc := "(IIZ)I" } : Jvm.MethodName) ({ cls := "RowPresolveModel", name := "from", desc := "(IIZ)I" } : Jvm.MethodName)) ∈ gtbl := gt0 55 rfl rfl
set_option maxRecDepth 20000 in
theorem wk_56 : (Jvm.Cond.selects "RowPresolveModel" ({ cls := "RowPresolveModel", name := "toEnds", desc := "(IZ)V" } : Jvm.MethodName) ({ cls := "RowPresolveModel", name := "toEnds", desc := "(IZ)V" } : Jvm.MethodName)) ∈ gtbl := gt0 56 rfl rfl
set_option maxRecDepth 20000 in
theorem wk_57 : (Jvm.Cond.selects "RowPresolveModel" ({ cls := "RowPresolveModel", name := "tight", desc := "(I)V" } : Jvm.MethodName) ({ cls := "RowPresolveModel", name := "tight", desc := "(I)V" } : Jvm.MethodName)) ∈ gtbl := gt0 57 rfl rfl
set_option maxRecDepth 20000 in
theorem wk_58 : (Jvm.Cond.selects "RowPresolveModel" ({ cls := "RowPresolveModel", name := "twins", desc := "(I)V" } : Jvm.MethodName) ({ cls := "RowPresolveModel", name := "twins", desc := "(I)V" } : Jvm.MethodName)) ∈ gtbl := gt0 58 rfl rfl
set_option maxRecDepth 20000 in
theorem wk_59 : (Jvm.Cond.selects "RowPresolveModel" ({ cls := "RowPresolveModel", name := "twin", desc := "(II)V" } : Jvm.MethodName) ({ cls := "RowPresolveModel", name := "twin", desc := "(II)V" } : Jvm.MethodName)) ∈ gtbl := gt0 59 rfl rfl
set_option maxRecDepth 20000 in
theorem wk_60 : (Jvm.Cond.selects "RowPresolveModel" ({ cls := "RowPresolveModel", name := "alike", desc := "(IIJ)Z" } : Jvm.MethodName) ({ cls := "RowPresolveModel", name := "alike", desc := "(IIJ)Z" } : Jvm.MethodName)) ∈ gtbl := gt0 60 rfl rfl
set_option maxRecDepth 20000 in
theorem wk_61 : (Jvm.Cond.selects "RowPresolveModel" ({ cls := "RowPresolveModel", name := "puts", desc := "(I)V" } : Jvm.MethodName) ({ cls := "RowPresolveModel", name := "puts", desc := "(I)V" } : Jvm.MethodName)) ∈ gtbl := gt0 61 rfl rfl
set_option maxRecDepth 20000 in
theorem wk_62 : (Jvm.Cond.selects "RowPresolveModel" ({ cls := "RowPresolveModel", name := "mayPut", desc := "(IIIJJ)Z" } : Jvm.MethodName) ({ cls := "RowPresolveModel", name := "mayPut", desc := "(IIIJJ)Z" } : Jvm.MethodName)) ∈ gtbl := gt0 62 rfl rfl
set_option maxRecDepth 20000 in
theorem wk_63 : (Jvm.Cond.selects "RowPresolveModel" ({ cls := "RowPresolveModel", name := "byBounds", desc := "(IIIJJ)V" } : Jvm.MethodName) ({ cls := "RowPresolveModel", name := "byBounds", desc := "(IIIJJ)V" } : Jvm.MethodName)) ∈ gtbl := gt0 63 rfl rfl
set_option maxRecDepth 20000 in
theorem wk_64 : (Jvm.Cond.selects "RowPresolveModel" ({ cls := "RowPresolveModel", name := "goes", desc := "(IIIJ)V" } : Jvm.MethodName) ({ cls := "RowPresolveModel", name := "goes", desc := "(IIIJ)V" } : Jvm.MethodName)) ∈ gtbl := gt0 64 rfl rfl
set_option maxRecDepth 20000 in
theorem wk_65 : (Jvm.Cond.selects "RowPresolveModel" ({ cls := "RowPresolveModel", name := "less", desc := "(I)V" } : Jvm.MethodName) ({ cls := "RowPresolveModel", name := "less", desc := "(I)V" } : Jvm.MethodName)) ∈ gtbl := gt0 65 rfl rfl
set_option maxRecDepth 20000 in
theorem wk_66 : (Jvm.Cond.selects "RowPresolveModel" ({ cls := "RowPresolveModel", name := "byColumn", desc := "(II)V" } : Jvm.MethodName) ({ cls := "RowPresolveModel", name := "byColumn", desc := "(II)V" } : Jvm.MethodName)) ∈ gtbl := gt0 66 rfl rfl
set_option maxRecDepth 20000 in
theorem wk_67 : (Jvm.Cond.selects "RowPresolveModel" ({ cls := "RowPresolveModel", name := "fix", desc := "(I)V" } : Jvm.MethodName) ({ cls := "RowPresolveModel", name := "fix", desc := "(I)V" } : Jvm.MethodName)) ∈ gtbl := gt0 67 rfl rfl
set_option maxRecDepth 20000 in
theorem wk_68 : (Jvm.Cond.selects "RowPresolveModel" ({ cls := "RowPresolveModel", name := "side", desc := "(I)V" } : Jvm.MethodName) ({ cls := "RowPresolveModel", name := "side", desc := "(I)V" } : Jvm.MethodName)) ∈ gtbl := gt0 68 rfl rfl
set_option maxRecDepth 20000 in
theorem wk_69 : (Jvm.Cond.selects "RowPresolveModel" ({ cls := "RowPresolveModel", name := "free", desc := "(I)V" } : Jvm.MethodName) ({ cls := "RowPresolveModel", name := "free", desc := "(I)V" } : Jvm.MethodName)) ∈ gtbl := gt0 69 rfl rfl
set_option maxRecDepth 20000 in
theorem wk_70 : (Jvm.Cond.selects "RowPresolveModel" ({ cls := "RowPresolveModel", name := "passes3", desc := "(ZZZ)Z" } : Jvm.MethodName) ({ cls := "RowPresolveModel", name := "passes3", desc := "(ZZZ)Z" } : Jvm.MethodName)) ∈ gtbl := gt0 70 rfl rfl
set_option maxRecDepth 20000 in
theorem wk_71 : (Jvm.Cond.selects "RowPresolveModel" ({ cls := "RowPresolveModel", name := "points", desc := "(Z)I" } : Jvm.MethodName) ({ cls := "RowPresolveModel", name := "points", desc := "(Z)I" } : Jvm.MethodName)) ∈ gtbl := gt0 71 rfl rfl
set_option maxRecDepth 20000 in
theorem wk_72 : (Jvm.Cond.selects "RowPresolveModel" ({ cls := "RowPresolveModel", name := "firstPoint", desc := "(Z)V" } : Jvm.MethodName) ({ cls := "RowPresolveModel", name := "firstPoint", desc := "(Z)V" } : Jvm.MethodName)) ∈ gtbl := gt0 72 rfl rfl
set_option maxRecDepth 20000 in
theorem wk_73 : (Jvm.Cond.selects "RowPresolveModel" ({ cls := "RowPresolveModel", name := "holds", desc := "(I)Z" } : Jvm.MethodName) ({ cls := "RowPresolveModel", name := "holds", desc := "(I)Z" } : Jvm.MethodName)) ∈ gtbl := gt0 73 rfl rfl
set_option maxRecDepth 20000 in
theorem wk_74 : (Jvm.Cond.selects "RowPresolveModel" ({ cls := "RowPresolveModel", name := "nextPoint", desc := "(Z)V" } : Jvm.MethodName) ({ cls := "RowPresolveModel", name := "nextPoint", desc := "(Z)V" } : Jvm.MethodName)) ∈ gtbl := gt0 74 rfl rfl
set_option maxRecDepth 20000 in
theorem wk_75 : (Jvm.Cond.selects "RowPresolveModel" ({ cls := "RowPresolveModel", name := "joinParts", desc := "(I)V" } : Jvm.MethodName) ({ cls := "RowPresolveModel", name := "joinParts", desc := "(I)V" } : Jvm.MethodName)) ∈ gtbl := gt0 75 rfl rfl
set_option maxRecDepth 20000 in
theorem wk_76 : (Jvm.Cond.selects "RowPresolveModel" ({ cls := "RowPresolveModel", name := "cliqueOf", desc := "(I)I" } : Jvm.MethodName) ({ cls := "RowPresolveModel", name := "cliqueOf", desc := "(I)I" } : Jvm.MethodName)) ∈ gtbl := gt0 76 rfl rfl
set_option maxRecDepth 20000 in
theorem wk_77 : (Jvm.Cond.selects "RowPresolveModel" ({ cls := "RowPresolveModel", name := "amount", desc := "(II)J" } : Jvm.MethodName) ({ cls := "RowPresolveModel", name := "amount", desc := "(II)J" } : Jvm.MethodName)) ∈ gtbl := gt0 77 rfl rfl
set_option maxRecDepth 20000 in
theorem wk_78 : (Jvm.Cond.selects "RowPresolveModel" ({ cls := "RowPresolveModel", name := "holdsSmall", desc := "(I)Z" } : Jvm.MethodName) ({ cls := "RowPresolveModel", name := "holdsSmall", desc := "(I)Z" } : Jvm.MethodName)) ∈ gtbl := gt0 78 rfl rfl
set_option maxRecDepth 20000 in
theorem wk_79 : (Jvm.Cond.selects "RowPresolveModel" ({ cls := "RowPresolveModel", name := "price", desc := "(Z)J" } : Jvm.MethodName) ({ cls := "RowPresolveModel", name := "price", desc := "(Z)J" } : Jvm.MethodName)) ∈ gtbl := gt0 79 rfl rfl
set_option maxRecDepth 20000 in
theorem wk_81 : (Jvm.Cond.initialized "RowPresolve") ∈ gtbl := gt1 1 rfl rfl
set_option maxRecDepth 20000 in
theorem wk_82 : (Jvm.Cond.initialized "RowPresolve$Table") ∈ gtbl := gt1 2 rfl rfl
set_option maxRecDepth 20000 in
theorem wk_83 : (Jvm.Cond.initialized "RowPresolve$Small") ∈ gtbl := gt1 3 rfl rfl
set_option maxRecDepth 20000 in
theorem wk_84 : (Jvm.Cond.initialized "RowPresolve$Acts") ∈ gtbl := gt1 4 rfl rfl
set_option maxRecDepth 20000 in
theorem wk_85 : (Jvm.Cond.initialized "RowPresolve$Rounds") ∈ gtbl := gt1 5 rfl rfl
set_option maxRecDepth 20000 in
theorem wk_86 : (Jvm.Cond.initialized "RowPresolve$RowRules") ∈ gtbl := gt1 6 rfl rfl
set_option maxRecDepth 20000 in
theorem wk_87 : (Jvm.Cond.initialized "RowPresolve$ColumnRules") ∈ gtbl := gt1 7 rfl rfl
set_option maxRecDepth 20000 in
theorem wk_88 : (Jvm.Cond.initialized "RowPresolve$Looks") ∈ gtbl := gt1 8 rfl rfl
set_option maxRecDepth 20000 in
theorem wk_89 : (Jvm.Cond.initialized "RowPresolve$Walk") ∈ gtbl := gt1 9 rfl rfl
set_option maxRecDepth 20000 in
theorem wk_90 : (Jvm.Cond.initialized "RowPresolveModel") ∈ gtbl := gt1 10 rfl rfl
set_option maxRecDepth 20000 in
theorem wk_97 : (Jvm.Cond.initialized "java/lang/System") ∈ gtbl := gt1 17 rfl rfl
set_option maxRecDepth 20000 in
theorem wk_98 : (Jvm.Cond.initialized "java/lang/Math") ∈ gtbl := gt1 18 rfl rfl
set_option maxRecDepth 20000 in
theorem wk_115 : (Jvm.Cond.fieldLink "RowPresolve$Table" (9 : Nat) "RowPresolve$Table" "low" "[J") ∈ gtbl := gt1 35 rfl rfl
set_option maxRecDepth 20000 in
theorem wk_116 : (Jvm.Cond.fieldLink "RowPresolve$ColumnRules" (22 : Nat) "RowPresolve$Table" "low" "[J") ∈ gtbl := gt1 36 rfl rfl
set_option maxRecDepth 20000 in
theorem wk_117 : (Jvm.Cond.fieldLink "RowPresolve$Walk" (36 : Nat) "RowPresolve$Table" "low" "[J") ∈ gtbl := gt1 37 rfl rfl
set_option maxRecDepth 20000 in
theorem wk_118 : (Jvm.Cond.fieldLink "RowPresolve" (85 : Nat) "RowPresolve$Table" "low" "[J") ∈ gtbl := gt1 38 rfl rfl
set_option maxRecDepth 20000 in
theorem wk_119 : (Jvm.Cond.fieldLink "RowPresolve$Small" (87 : Nat) "RowPresolve$Table" "low" "[J") ∈ gtbl := gt1 39 rfl rfl
set_option maxRecDepth 20000 in
theorem wk_120 : (Jvm.Cond.fieldLink "RowPresolve$Looks" (77 : Nat) "RowPresolve$Table" "low" "[J") ∈ gtbl := gt1 40 rfl rfl
set_option maxRecDepth 20000 in
theorem wk_121 : (Jvm.Cond.fieldLink "RowPresolve$RowRules" (109 : Nat) "RowPresolve$Table" "low" "[J") ∈ gtbl := gt1 41 rfl rfl
set_option maxRecDepth 20000 in
theorem wk_122 : (Jvm.Cond.fieldLink "RowPresolve$Table" (15 : Nat) "RowPresolve$Table" "high" "[J") ∈ gtbl := gt1 42 rfl rfl
set_option maxRecDepth 20000 in
theorem wk_123 : (Jvm.Cond.fieldLink "RowPresolve$ColumnRules" (28 : Nat) "RowPresolve$Table" "high" "[J") ∈ gtbl := gt1 43 rfl rfl
set_option maxRecDepth 20000 in
theorem wk_124 : (Jvm.Cond.fieldLink "RowPresolve" (88 : Nat) "RowPresolve$Table" "high" "[J") ∈ gtbl := gt1 44 rfl rfl
set_option maxRecDepth 20000 in
theorem wk_125 : (Jvm.Cond.fieldLink "RowPresolve$Walk" (43 : Nat) "RowPresolve$Table" "high" "[J") ∈ gtbl := gt1 45 rfl rfl
set_option maxRecDepth 20000 in
theorem wk_126 : (Jvm.Cond.fieldLink "RowPresolve$Small" (84 : Nat) "RowPresolve$Table" "high" "[J") ∈ gtbl := gt1 46 rfl rfl
set_option maxRecDepth 20000 in
theorem wk_127 : (Jvm.Cond.fieldLink "RowPresolve$Looks" (80 : Nat) "RowPresolve$Table" "high" "[J") ∈ gtbl := gt1 47 rfl rfl
set_option maxRecDepth 20000 in
theorem wk_128 : (Jvm.Cond.fieldLink "RowPresolve$RowRules" (106 : Nat) "RowPresolve$Table" "high" "[J") ∈ gtbl := gt1 48 rfl rfl
set_option maxRecDepth 20000 in
theorem wk_129 : (Jvm.Cond.fieldLink "RowPresolve$Table" (18 : Nat) "RowPresolve$Table" "cost" "[J") ∈ gtbl := gt1 49 rfl rfl
set_option maxRecDepth 20000 in
theorem wk_130 : (Jvm.Cond.fieldLink "RowPresolve" (91 : Nat) "RowPresolve$Table" "cost" "[J") ∈ gtbl := gt1 50 rfl rfl
set_option maxRecDepth 20000 in
theorem wk_131 : (Jvm.Cond.fieldLink "RowPresolve$ColumnRules" (60 : Nat) "RowPresolve$Table" "cost" "[J") ∈ gtbl := gt1 51 rfl rfl
set_option maxRecDepth 20000 in
theorem wk_132 : (Jvm.Cond.fieldLink "RowPresolve$Walk" (53 : Nat) "RowPresolve$Table" "cost" "[J") ∈ gtbl := gt1 52 rfl rfl
set_option maxRecDepth 20000 in
theorem wk_133 : (Jvm.Cond.fieldLink "RowPresolve$Looks" (83 : Nat) "RowPresolve$Table" "cost" "[J") ∈ gtbl := gt1 53 rfl rfl
set_option maxRecDepth 20000 in
theorem wk_134 : (Jvm.Cond.fieldLink "RowPresolve$Table" (21 : Nat) "RowPresolve$Table" "state" "[I") ∈ gtbl := gt1 54 rfl rfl
set_option maxRecDepth 20000 in
theorem wk_135 : (Jvm.Cond.fieldLink "RowPresolve$ColumnRules" (63 : Nat) "RowPresolve$Table" "state" "[I") ∈ gtbl := gt1 55 rfl rfl
set_option maxRecDepth 20000 in
theorem wk_136 : (Jvm.Cond.fieldLink "RowPresolve" (157 : Nat) "RowPresolve$Table" "state" "[I") ∈ gtbl := gt1 56 rfl rfl
set_option maxRecDepth 20000 in
theorem wk_137 : (Jvm.Cond.fieldLink "RowPresolve$Table" (25 : Nat) "RowPresolve$Table" "kind" "[I") ∈ gtbl := gt1 57 rfl rfl
set_option maxRecDepth 20000 in
theorem wk_138 : (Jvm.Cond.fieldLink "RowPresolve$RowRules" (48 : Nat) "RowPresolve$Table" "kind" "[I") ∈ gtbl := gt1 58 rfl rfl
set_option maxRecDepth 20000 in
theorem wk_139 : (Jvm.Cond.fieldLink "RowPresolve" (103 : Nat) "RowPresolve$Table" "kind" "[I") ∈ gtbl := gt1 59 rfl rfl
set_option maxRecDepth 20000 in
theorem wk_140 : (Jvm.Cond.fieldLink "RowPresolve$ColumnRules" (91 : Nat) "RowPresolve$Table" "kind" "[I") ∈ gtbl := gt1 60 rfl rfl
set_option maxRecDepth 20000 in
theorem wk_141 : (Jvm.Cond.fieldLink "RowPresolve$Small" (65 : Nat) "RowPresolve$Table" "kind" "[I") ∈ gtbl := gt1 61 rfl rfl
set_option maxRecDepth 20000 in
theorem wk_142 : (Jvm.Cond.fieldLink "RowPresolve$Table" (28 : Nat) "RowPresolve$Table" "right" "[J") ∈ gtbl := gt1 62 rfl rfl
set_option maxRecDepth 20000 in
theorem wk_143 : (Jvm.Cond.fieldLink "RowPresolve$ColumnRules" (50 : Nat) "RowPresolve$Table" "right" "[J") ∈ gtbl := gt1 63 rfl rfl
set_option maxRecDepth 20000 in
theorem wk_144 : (Jvm.Cond.fieldLink "RowPresolve$RowRules" (51 : Nat) "RowPresolve$Table" "right" "[J") ∈ gtbl := gt1 64 rfl rfl
set_option maxRecDepth 20000 in
theorem wk_145 : (Jvm.Cond.fieldLink "RowPresolve" (107 : Nat) "RowPresolve$Table" "right" "[J") ∈ gtbl := gt1 65 rfl rfl
set_option maxRecDepth 20000 in
theorem wk_146 : (Jvm.Cond.fieldLink "RowPresolve$Looks" (56 : Nat) "RowPresolve$Table" "right" "[J") ∈ gtbl := gt1 66 rfl rfl
set_option maxRecDepth 20000 in
theorem wk_147 : (Jvm.Cond.fieldLink "RowPresolve$Small" (71 : Nat) "RowPresolve$Table" "right" "[J") ∈ gtbl := gt1 67 rfl rfl
set_option maxRecDepth 20000 in
theorem wk_148 : (Jvm.Cond.fieldLink "RowPresolve$Table" (33 : Nat) "RowPresolve$Table" "a" "[[J") ∈ gtbl := gt1 68 rfl rfl
set_option maxRecDepth 20000 in
theorem wk_149 : (Jvm.Cond.fieldLink "RowPresolve$ColumnRules" (46 : Nat) "RowPresolve$Table" "a" "[[J") ∈ gtbl := gt1 69 rfl rfl
set_option maxRecDepth 20000 in
theorem wk_150 : (Jvm.Cond.fieldLink "RowPresolve$RowRules" (55 : Nat) "RowPresolve$Table" "a" "[[J") ∈ gtbl := gt1 70 rfl rfl
set_option maxRecDepth 20000 in
theorem wk_151 : (Jvm.Cond.fieldLink "RowPresolve$Looks" (49 : Nat) "RowPresolve$Table" "a" "[[J") ∈ gtbl := gt1 71 rfl rfl
set_option maxRecDepth 20000 in
theorem wk_152 : (Jvm.Cond.fieldLink "RowPresolve" (119 : Nat) "RowPresolve$Table" "a" "[[J") ∈ gtbl := gt1 72 rfl rfl
set_option maxRecDepth 20000 in
theorem wk_153 : (Jvm.Cond.fieldLink "RowPresolve$Walk" (56 : Nat) "RowPresolve$Table" "a" "[[J") ∈ gtbl := gt1 73 rfl rfl
set_option maxRecDepth 20000 in
theorem wk_154 : (Jvm.Cond.fieldLink "RowPresolve$Small" (81 : Nat) "RowPresolve$Table" "a" "[[J") ∈ gtbl := gt1 74 rfl rfl
set_option maxRecDepth 20000 in
theorem wk_155 : (Jvm.Cond.fieldLink "RowPresolve" (58 : Nat) "RowPresolve$Table" "columns" "I") ∈ gtbl := gt1 75 rfl rfl
set_option maxRecDepth 20000 in
theorem wk_156 : (Jvm.Cond.fieldLink "RowPresolve$Looks" (26 : Nat) "RowPresolve$Table" "columns" "I") ∈ gtbl := gt1 76 rfl rfl
set_option maxRecDepth 20000 in
theorem wk_157 : (Jvm.Cond.fieldLink "RowPresolve$Rounds" (46 : Nat) "RowPresolve$Table" "columns" "I") ∈ gtbl := gt1 77 rfl rfl
set_option maxRecDepth 20000 in
theorem wk_158 : (Jvm.Cond.fieldLink "RowPresolve$Walk" (26 : Nat) "RowPresolve$Table" "columns" "I") ∈ gtbl := gt1 78 rfl rfl
set_option maxRecDepth 20000 in
theorem wk_159 : (Jvm.Cond.fieldLink "RowPresolve$RowRules" (69 : Nat) "RowPresolve$Table" "columns" "I") ∈ gtbl := gt1 79 rfl rfl
set_option maxRecDepth 20000 in
theorem wk_160 : (Jvm.Cond.fieldLink "RowPresolve$Table" (40 : Nat) "RowPresolve$Table" "columns" "I") ∈ gtbl := gt1 80 rfl rfl
set_option maxRecDepth 20000 in
theorem wk_161 : (Jvm.Cond.fieldLink "RowPresolve$Small" (78 : Nat) "RowPresolve$Table" "columns" "I") ∈ gtbl := gt1 81 rfl rfl
set_option maxRecDepth 20000 in
theorem wk_162 : (Jvm.Cond.fieldLink "RowPresolve$ColumnRules" (129 : Nat) "RowPresolve$Table" "columns" "I") ∈ gtbl := gt1 82 rfl rfl
set_option maxRecDepth 20000 in
theorem wk_163 : (Jvm.Cond.fieldLink "RowPresolve$Rounds" (51 : Nat) "RowPresolve$Table" "rows" "I") ∈ gtbl := gt1 83 rfl rfl
set_option maxRecDepth 20000 in
theorem wk_164 : (Jvm.Cond.fieldLink "RowPresolve$ColumnRules" (38 : Nat) "RowPresolve$Table" "rows" "I") ∈ gtbl := gt1 84 rfl rfl
set_option maxRecDepth 20000 in
theorem wk_165 : (Jvm.Cond.fieldLink "RowPresolve" (94 : Nat) "RowPresolve$Table" "rows" "I") ∈ gtbl := gt1 85 rfl rfl
set_option maxRecDepth 20000 in
theorem wk_166 : (Jvm.Cond.fieldLink "RowPresolve$Looks" (40 : Nat) "RowPresolve$Table" "rows" "I") ∈ gtbl := gt1 86 rfl rfl
set_option maxRecDepth 20000 in
theorem wk_167 : (Jvm.Cond.fieldLink "RowPresolve$Table" (36 : Nat) "RowPresolve$Table" "rows" "I") ∈ gtbl := gt1 87 rfl rfl
set_option maxRecDepth 20000 in
theorem wk_168 : (Jvm.Cond.fieldLink "RowPresolve$Walk" (46 : Nat) "RowPresolve$Table" "rows" "I") ∈ gtbl := gt1 88 rfl rfl
set_option maxRecDepth 20000 in
theorem wk_169 : (Jvm.Cond.fieldLink "RowPresolve$RowRules" (116 : Nat) "RowPresolve$Table" "rows" "I") ∈ gtbl := gt1 89 rfl rfl
set_option maxRecDepth 20000 in
theorem wk_205 : (Jvm.Cond.fieldLink "RowPresolve$Acts" (9 : Nat) "RowPresolve$Acts" "numbers" "[J") ∈ gtbl := gt1 125 rfl rfl
set_option maxRecDepth 20000 in
theorem wk_206 : (Jvm.Cond.fieldLink "RowPresolve" (213 : Nat) "RowPresolve$Acts" "numbers" "[J") ∈ gtbl := gt1 126 rfl rfl
set_option maxRecDepth 20000 in
theorem wk_207 : (Jvm.Cond.fieldLink "RowPresolve$Acts" (15 : Nat) "RowPresolve$Acts" "count" "I") ∈ gtbl := gt1 127 rfl rfl
set_option maxRecDepth 20000 in
theorem wk_208 : (Jvm.Cond.fieldLink "RowPresolve$Small" (55 : Nat) "RowPresolve$Acts" "count" "I") ∈ gtbl := gt1 128 rfl rfl
set_option maxRecDepth 20000 in
theorem wk_209 : (Jvm.Cond.fieldLink "RowPresolve" (142 : Nat) "RowPresolve$Acts" "count" "I") ∈ gtbl := gt1 129 rfl rfl
set_option maxRecDepth 20000 in
theorem wk_219 : (Jvm.Cond.fieldLink "RowPresolve$Small" (12 : Nat) "RowPresolve$Small" "table" "LRowPresolve$Table;") ∈ gtbl := gt1 139 rfl rfl
set_option maxRecDepth 20000 in
theorem wk_221 : (Jvm.Cond.fieldLink "RowPresolve" (154 : Nat) "RowPresolve$Small" "table" "LRowPresolve$Table;") ∈ gtbl := gt1 141 rfl rfl
set_option maxRecDepth 20000 in
theorem wk_222 : (Jvm.Cond.fieldLink "RowPresolve$Small" (18 : Nat) "RowPresolve$Small" "rowRest" "[I") ∈ gtbl := gt1 142 rfl rfl
set_option maxRecDepth 20000 in
theorem wk_223 : (Jvm.Cond.fieldLink "RowPresolve$RowRules" (32 : Nat) "RowPresolve$Small" "rowRest" "[I") ∈ gtbl := gt1 143 rfl rfl
set_option maxRecDepth 20000 in
theorem wk_224 : (Jvm.Cond.fieldLink "RowPresolve$ColumnRules" (53 : Nat) "RowPresolve$Small" "rowRest" "[I") ∈ gtbl := gt1 144 rfl rfl
set_option maxRecDepth 20000 in
theorem wk_225 : (Jvm.Cond.fieldLink "RowPresolve" (172 : Nat) "RowPresolve$Small" "rowRest" "[I") ∈ gtbl := gt1 145 rfl rfl
set_option maxRecDepth 20000 in
theorem wk_226 : (Jvm.Cond.fieldLink "RowPresolve$Small" (22 : Nat) "RowPresolve$Small" "lowRest" "[I") ∈ gtbl := gt1 146 rfl rfl
set_option maxRecDepth 20000 in
theorem wk_227 : (Jvm.Cond.fieldLink "RowPresolve$ColumnRules" (31 : Nat) "RowPresolve$Small" "lowRest" "[I") ∈ gtbl := gt1 147 rfl rfl
set_option maxRecDepth 20000 in
theorem wk_228 : (Jvm.Cond.fieldLink "RowPresolve" (175 : Nat) "RowPresolve$Small" "lowRest" "[I") ∈ gtbl := gt1 148 rfl rfl
set_option maxRecDepth 20000 in
theorem wk_229 : (Jvm.Cond.fieldLink "RowPresolve$RowRules" (143 : Nat) "RowPresolve$Small" "lowRest" "[I") ∈ gtbl := gt1 149 rfl rfl
set_option maxRecDepth 20000 in
theorem wk_230 : (Jvm.Cond.fieldLink "RowPresolve$Small" (25 : Nat) "RowPresolve$Small" "highRest" "[I") ∈ gtbl := gt1 150 rfl rfl
set_option maxRecDepth 20000 in
theorem wk_231 : (Jvm.Cond.fieldLink "RowPresolve$ColumnRules" (35 : Nat) "RowPresolve$Small" "highRest" "[I") ∈ gtbl := gt1 151 rfl rfl
set_option maxRecDepth 20000 in
theorem wk_232 : (Jvm.Cond.fieldLink "RowPresolve" (178 : Nat) "RowPresolve$Small" "highRest" "[I") ∈ gtbl := gt1 152 rfl rfl
set_option maxRecDepth 20000 in
theorem wk_233 : (Jvm.Cond.fieldLink "RowPresolve$RowRules" (146 : Nat) "RowPresolve$Small" "highRest" "[I") ∈ gtbl := gt1 153 rfl rfl
set_option maxRecDepth 20000 in
theorem wk_234 : (Jvm.Cond.fieldLink "RowPresolve$Small" (31 : Nat) "RowPresolve$Small" "acts" "LRowPresolve$Acts;") ∈ gtbl := gt1 154 rfl rfl
set_option maxRecDepth 20000 in
theorem wk_235 : (Jvm.Cond.fieldLink "RowPresolve$ColumnRules" (66 : Nat) "RowPresolve$Small" "acts" "LRowPresolve$Acts;") ∈ gtbl := gt1 155 rfl rfl
set_option maxRecDepth 20000 in
theorem wk_236 : (Jvm.Cond.fieldLink "RowPresolve" (138 : Nat) "RowPresolve$Small" "acts" "LRowPresolve$Acts;") ∈ gtbl := gt1 156 rfl rfl
set_option maxRecDepth 20000 in
theorem wk_237 : (Jvm.Cond.fieldLink "RowPresolve$Small" (58 : Nat) "RowPresolve$Small" "offset" "J") ∈ gtbl := gt1 157 rfl rfl
set_option maxRecDepth 20000 in
theorem wk_238 : (Jvm.Cond.fieldLink "RowPresolve$ColumnRules" (56 : Nat) "RowPresolve$Small" "offset" "J") ∈ gtbl := gt1 158 rfl rfl
set_option maxRecDepth 20000 in
theorem wk_239 : (Jvm.Cond.fieldLink "RowPresolve" (166 : Nat) "RowPresolve$Small" "offset" "J") ∈ gtbl := gt1 159 rfl rfl
set_option maxRecDepth 20000 in
theorem wk_240 : (Jvm.Cond.fieldLink "RowPresolve$Small" (35 : Nat) "RowPresolve$Small" "certificate" "I") ∈ gtbl := gt1 160 rfl rfl
set_option maxRecDepth 20000 in
theorem wk_241 : (Jvm.Cond.fieldLink "RowPresolve" (181 : Nat) "RowPresolve$Small" "certificate" "I") ∈ gtbl := gt1 161 rfl rfl
set_option maxRecDepth 20000 in
theorem wk_242 : (Jvm.Cond.fieldLink "RowPresolve$Rounds" (38 : Nat) "RowPresolve$Small" "rule" "I") ∈ gtbl := gt1 162 rfl rfl
set_option maxRecDepth 20000 in
theorem wk_243 : (Jvm.Cond.fieldLink "RowPresolve$ColumnRules" (70 : Nat) "RowPresolve$Small" "rule" "I") ∈ gtbl := gt1 163 rfl rfl
set_option maxRecDepth 20000 in
theorem wk_244 : (Jvm.Cond.fieldLink "RowPresolve$Small" (68 : Nat) "RowPresolve$Small" "rule" "I") ∈ gtbl := gt1 164 rfl rfl
set_option maxRecDepth 20000 in
theorem wk_245 : (Jvm.Cond.fieldLink "RowPresolve$Small" (39 : Nat) "RowPresolve$Small" "putInColumn" "[I") ∈ gtbl := gt1 165 rfl rfl
set_option maxRecDepth 20000 in
theorem wk_246 : (Jvm.Cond.fieldLink "RowPresolve$ColumnRules" (151 : Nat) "RowPresolve$Small" "putInColumn" "[I") ∈ gtbl := gt1 166 rfl rfl
set_option maxRecDepth 20000 in
theorem wk_247 : (Jvm.Cond.fieldLink "RowPresolve$Small" (42 : Nat) "RowPresolve$Small" "putInShift" "[J") ∈ gtbl := gt1 167 rfl rfl
set_option maxRecDepth 20000 in
theorem wk_248 : (Jvm.Cond.fieldLink "RowPresolve$ColumnRules" (154 : Nat) "RowPresolve$Small" "putInShift" "[J") ∈ gtbl := gt1 168 rfl rfl
set_option maxRecDepth 20000 in
theorem wk_249 : (Jvm.Cond.fieldLink "RowPresolve$Small" (48 : Nat) "RowPresolve$Small" "putInFactors" "[[J") ∈ gtbl := gt1 169 rfl rfl
set_option maxRecDepth 20000 in
theorem wk_250 : (Jvm.Cond.fieldLink "RowPresolve$ColumnRules" (157 : Nat) "RowPresolve$Small" "putInFactors" "[[J") ∈ gtbl := gt1 170 rfl rfl
set_option maxRecDepth 20000 in
theorem wk_251 : (Jvm.Cond.fieldLink "RowPresolve$Small" (62 : Nat) "RowPresolve$Small" "putIns" "I") ∈ gtbl := gt1 171 rfl rfl
set_option maxRecDepth 20000 in
theorem wk_252 : (Jvm.Cond.fieldLink "RowPresolve$ColumnRules" (148 : Nat) "RowPresolve$Small" "putIns" "I") ∈ gtbl := gt1 172 rfl rfl
set_option maxRecDepth 20000 in
theorem wk_290 : (Jvm.Cond.fieldLink "RowPresolve$RowRules" (9 : Nat) "RowPresolve$RowRules" "small" "LRowPresolve$Small;") ∈ gtbl := gt1 210 rfl rfl
set_option maxRecDepth 20000 in
theorem wk_291 : (Jvm.Cond.fieldLink "RowPresolve$RowRules" (21 : Nat) "RowPresolve$RowRules" "table" "LRowPresolve$Table;") ∈ gtbl := gt1 211 rfl rfl
set_option maxRecDepth 20000 in
theorem wk_303 : (Jvm.Cond.fieldLink "RowPresolve$ColumnRules" (9 : Nat) "RowPresolve$ColumnRules" "small" "LRowPresolve$Small;") ∈ gtbl := gt1 223 rfl rfl
set_option maxRecDepth 20000 in
theorem wk_304 : (Jvm.Cond.fieldLink "RowPresolve$ColumnRules" (21 : Nat) "RowPresolve$ColumnRules" "table" "LRowPresolve$Table;") ∈ gtbl := gt1 224 rfl rfl
set_option maxRecDepth 20000 in
theorem wk_310 : (Jvm.Cond.fieldLink "RowPresolve$Rounds" (9 : Nat) "RowPresolve$Rounds" "small" "LRowPresolve$Small;") ∈ gtbl := gt1 230 rfl rfl
set_option maxRecDepth 20000 in
theorem wk_311 : (Jvm.Cond.fieldLink "RowPresolve$Rounds" (21 : Nat) "RowPresolve$Rounds" "table" "LRowPresolve$Table;") ∈ gtbl := gt1 231 rfl rfl
set_option maxRecDepth 20000 in
theorem wk_312 : (Jvm.Cond.fieldLink "RowPresolve$Rounds" (27 : Nat) "RowPresolve$Rounds" "rowRules" "LRowPresolve$RowRules;") ∈ gtbl := gt1 232 rfl rfl
set_option maxRecDepth 20000 in
theorem wk_313 : (Jvm.Cond.fieldLink "RowPresolve$Rounds" (34 : Nat) "RowPresolve$Rounds" "columnRules" "LRowPresolve$ColumnRules;") ∈ gtbl := gt1 233 rfl rfl
set_option maxRecDepth 20000 in
theorem wk_329 : (Jvm.Cond.fieldLink "RowPresolve$Looks" (15 : Nat) "RowPresolve$Looks" "small" "LRowPresolve$Small;") ∈ gtbl := gt2 9 rfl rfl
set_option maxRecDepth 20000 in
theorem wk_330 : (Jvm.Cond.fieldLink "RowPresolve$Looks" (25 : Nat) "RowPresolve$Looks" "table" "LRowPresolve$Table;") ∈ gtbl := gt2 10 rfl rfl
set_option maxRecDepth 20000 in
theorem wk_331 : (Jvm.Cond.fieldLink "RowPresolve$Looks" (9 : Nat) "RowPresolve$Looks" "order" "[I") ∈ gtbl := gt2 11 rfl rfl
set_option maxRecDepth 20000 in
theorem wk_332 : (Jvm.Cond.fieldLink "RowPresolve" (225 : Nat) "RowPresolve$Looks" "order" "[I") ∈ gtbl := gt2 12 rfl rfl
set_option maxRecDepth 20000 in
theorem wk_346 : (Jvm.Cond.fieldLink "RowPresolve$Walk" (9 : Nat) "RowPresolve$Walk" "numbers" "[J") ∈ gtbl := gt2 26 rfl rfl
set_option maxRecDepth 20000 in
theorem wk_347 : (Jvm.Cond.fieldLink "RowPresolve" (287 : Nat) "RowPresolve$Walk" "numbers" "[J") ∈ gtbl := gt2 27 rfl rfl
set_option maxRecDepth 20000 in
theorem wk_348 : (Jvm.Cond.fieldLink "RowPresolve$Walk" (15 : Nat) "RowPresolve$Walk" "rowSums" "[J") ∈ gtbl := gt2 28 rfl rfl
set_option maxRecDepth 20000 in
theorem wk_349 : (Jvm.Cond.fieldLink "RowPresolve$Walk" (22 : Nat) "RowPresolve$Walk" "sum" "J") ∈ gtbl := gt2 29 rfl rfl
set_option maxRecDepth 20000 in
theorem wk_350 : (Jvm.Cond.fieldLink "RowPresolve" (281 : Nat) "RowPresolve$Walk" "sum" "J") ∈ gtbl := gt2 30 rfl rfl
set_option maxRecDepth 20000 in
theorem wk_351 : (Jvm.Cond.fieldLink "RowPresolve$Walk" (18 : Nat) "RowPresolve$Walk" "table" "LRowPresolve$Table;") ∈ gtbl := gt2 31 rfl rfl
set_option maxRecDepth 20000 in
theorem wk_361 : (Jvm.Cond.fieldLink "RowPresolve" (10 : Nat) "RowPresolve" "whole" "LRowPresolve$Table;") ∈ gtbl := gt2 41 rfl rfl
set_option maxRecDepth 20000 in
theorem wk_362 : (Jvm.Cond.fieldLink "RowPresolve" (19 : Nat) "RowPresolve" "small" "LRowPresolve$Small;") ∈ gtbl := gt2 42 rfl rfl
set_option maxRecDepth 20000 in
theorem wk_363 : (Jvm.Cond.fieldLink "RowPresolve" (28 : Nat) "RowPresolve" "rounder" "LRowPresolve$Rounds;") ∈ gtbl := gt2 43 rfl rfl
set_option maxRecDepth 20000 in
theorem wk_364 : (Jvm.Cond.fieldLink "RowPresolve" (35 : Nat) "RowPresolve" "looks" "LRowPresolve$Looks;") ∈ gtbl := gt2 44 rfl rfl
set_option maxRecDepth 20000 in
theorem wk_365 : (Jvm.Cond.fieldLink "RowPresolve" (44 : Nat) "RowPresolve" "walk" "LRowPresolve$Walk;") ∈ gtbl := gt2 45 rfl rfl
set_option maxRecDepth 20000 in
theorem wk_366 : (Jvm.Cond.fieldLink "RowPresolve" (131 : Nat) "RowPresolve" "hasSmall" "Z") ∈ gtbl := gt2 46 rfl rfl
set_option maxRecDepth 20000 in
theorem wk_367 : (Jvm.Cond.fieldLink "RowPresolve" (48 : Nat) "RowPresolve" "putNumbers" "[J") ∈ gtbl := gt2 47 rfl rfl
set_option maxRecDepth 20000 in
theorem wk_368 : (Jvm.Cond.fieldLink "RowPresolve" (237 : Nat) "RowPresolve" "putColumns" "I") ∈ gtbl := gt2 48 rfl rfl
set_option maxRecDepth 20000 in
theorem wk_369 : (Jvm.Cond.fieldLink "RowPresolve" (52 : Nat) "RowPresolve" "turned" "[J") ∈ gtbl := gt2 49 rfl rfl
set_option maxRecDepth 20000 in
theorem wk_370 : (Jvm.Cond.fieldLink "RowPresolve" (246 : Nat) "RowPresolve" "hasTurned" "Z") ∈ gtbl := gt2 50 rfl rfl
set_option maxRecDepth 20000 in
theorem wk_371 : (Jvm.Cond.fieldLink "RowPresolve" (55 : Nat) "RowPresolve" "bestNumbers" "[J") ∈ gtbl := gt2 51 rfl rfl
set_option maxRecDepth 20000 in
theorem wk_372 : (Jvm.Cond.fieldLink "RowPresolve" (266 : Nat) "RowPresolve" "leastValue" "J") ∈ gtbl := gt2 52 rfl rfl
set_option maxRecDepth 20000 in
theorem wk_373 : (Jvm.Cond.fieldLink "RowPresolve" (256 : Nat) "RowPresolve" "hasBest" "Z") ∈ gtbl := gt2 53 rfl rfl
set_option maxRecDepth 20000 in
theorem wk_402 : (Jvm.Cond.instanceMethod ({ cls := "RowPresolve", name := "clear", desc := "()I" } : Jvm.MethodName)) ∈ gtbl := gt2 82 rfl rfl
set_option maxRecDepth 20000 in
theorem wk_403 : (Jvm.Cond.selects "RowPresolve" ({ cls := "RowPresolve", name := "clear", desc := "()I" } : Jvm.MethodName) ({ cls := "RowPresolve", name := "clear", desc := "()I" } : Jvm.MethodName)) ∈ gtbl := gt2 83 rfl rfl
set_option maxRecDepth 20000 in
theorem wk_404 : (Jvm.Cond.code ({ cls := "RowPresolve", name := "clear", desc := "()I" } : Jvm.MethodName) prog_1_method_5_code (2 : Nat) (Option.some Jvm.ClassFile.FieldType.int)) ∈ gtbl := gt2 84 rfl rfl
set_option maxRecDepth 20000 in
theorem wk_405 : (Jvm.Cond.methodLink "RowPresolve" (82 : Nat) ({ cls := "RowPresolve", name := "endSmall", desc := "()V" } : Jvm.MethodName)) ∈ gtbl := gt2 85 rfl rfl
set_option maxRecDepth 20000 in
theorem wk_407 : (Jvm.Cond.instanceMethod ({ cls := "RowPresolve", name := "endSmall", desc := "()V" } : Jvm.MethodName)) ∈ gtbl := gt2 87 rfl rfl
set_option maxRecDepth 20000 in
theorem wk_408 : (Jvm.Cond.code ({ cls := "RowPresolve", name := "endSmall", desc := "()V" } : Jvm.MethodName) prog_1_method_37_code (1 : Nat) (Option.none : Option Jvm.ClassFile.FieldType)) ∈ gtbl := gt2 88 rfl rfl
set_option maxRecDepth 20000 in
theorem wk_409 : (Jvm.Cond.methodLink "RowPresolve" (128 : Nat) ({ cls := "RowPresolve", name := "endPoints", desc := "()V" } : Jvm.MethodName)) ∈ gtbl := gt2 89 rfl rfl
set_option maxRecDepth 20000 in
theorem wk_411 : (Jvm.Cond.instanceMethod ({ cls := "RowPresolve", name := "endPoints", desc := "()V" } : Jvm.MethodName)) ∈ gtbl := gt2 91 rfl rfl
set_option maxRecDepth 20000 in
theorem wk_412 : (Jvm.Cond.code ({ cls := "RowPresolve", name := "endPoints", desc := "()V" } : Jvm.MethodName) prog_1_method_38_code (1 : Nat) (Option.none : Option Jvm.ClassFile.FieldType)) ∈ gtbl := gt2 92 rfl rfl
set_option maxRecDepth 20000 in
theorem wk_413 : (Jvm.Cond.methodLink "RowPresolve" (123 : Nat) ({ cls := "RowPresolve$Table", name := "makeEmpty", desc := "()V" } : Jvm.MethodName)) ∈ gtbl := gt2 93 rfl rfl
set_option maxRecDepth 20000 in
theorem wk_414 : (Jvm.Cond.instanceMethod ({ cls := "RowPresolve$Table", name := "makeEmpty", desc := "()V" } : Jvm.MethodName)) ∈ gtbl := gt2 94 rfl rfl
set_option maxRecDepth 20000 in
theorem wk_415 : (Jvm.Cond.selects "RowPresolve$Table" ({ cls := "RowPresolve$Table", name := "makeEmpty", desc := "()V" } : Jvm.MethodName) ({ cls := "RowPresolve$Table", name := "makeEmpty", desc := "()V" } : Jvm.MethodName)) ∈ gtbl := gt2 95 rfl rfl
set_option maxRecDepth 20000 in
theorem wk_416 : (Jvm.Cond.code ({ cls := "RowPresolve$Table", name := "makeEmpty", desc := "()V" } : Jvm.MethodName) prog_8_method_5_code (3 : Nat) (Option.none : Option Jvm.ClassFile.FieldType)) ∈ gtbl := gt2 96 rfl rfl
set_option maxRecDepth 20000 in
theorem wk_423 : (Jvm.Cond.instanceMethod ({ cls := "RowPresolve", name := "column", desc := "(III)I" } : Jvm.MethodName)) ∈ gtbl := gt2 103 rfl rfl
set_option maxRecDepth 20000 in
theorem wk_424 : (Jvm.Cond.selects "RowPresolve" ({ cls := "RowPresolve", name := "column", desc := "(III)I" } : Jvm.MethodName) ({ cls := "RowPresolve", name := "column", desc := "(III)I" } : Jvm.MethodName)) ∈ gtbl := gt2 104 rfl rfl
set_option maxRecDepth 20000 in
theorem wk_425 : (Jvm.Cond.code ({ cls := "RowPresolve", name := "column", desc := "(III)I" } : Jvm.MethodName) prog_1_method_2_code (5 : Nat) (Option.some Jvm.ClassFile.FieldType.int)) ∈ gtbl := gt2 105 rfl rfl
set_option maxRecDepth 20000 in
theorem wk_494 : (Jvm.Cond.constantLong "RowPresolve" (69 : Nat) (10000 : Int64)) ∈ gtbl := gt2 174 rfl rfl
set_option maxRecDepth 20000 in
theorem wk_495 : (Jvm.Cond.methodLink "RowPresolve" (71 : Nat) ({ cls := "RowPresolve", name := "beyond", desc := "(JJ)Z" } : Jvm.MethodName)) ∈ gtbl := gt2 175 rfl rfl
set_option maxRecDepth 20000 in
theorem wk_496 : (Jvm.Cond.static ({ cls := "RowPresolve", name := "beyond", desc := "(JJ)Z" } : Jvm.MethodName)) ∈ gtbl := gt2 176 rfl rfl
set_option maxRecDepth 20000 in
theorem wk_497 : (Jvm.Cond.code ({ cls := "RowPresolve", name := "beyond", desc := "(JJ)Z" } : Jvm.MethodName) prog_1_method_30_code (4 : Nat) (Option.some Jvm.ClassFile.FieldType.boolean)) ∈ gtbl := gt2 177 rfl rfl
set_option maxRecDepth 20000 in
theorem wk_498 : (Jvm.Cond.constantLong "RowPresolve" (75 : Nat) (1000 : Int64)) ∈ gtbl := gt2 178 rfl rfl
set_option maxRecDepth 20000 in
theorem wk_519 : (Jvm.Cond.instanceMethod ({ cls := "RowPresolve", name := "row", desc := "(II)I" } : Jvm.MethodName)) ∈ gtbl := gt2 199 rfl rfl
set_option maxRecDepth 20000 in
theorem wk_520 : (Jvm.Cond.selects "RowPresolve" ({ cls := "RowPresolve", name := "row", desc := "(II)I" } : Jvm.MethodName) ({ cls := "RowPresolve", name := "row", desc := "(II)I" } : Jvm.MethodName)) ∈ gtbl := gt2 200 rfl rfl
set_option maxRecDepth 20000 in
theorem wk_521 : (Jvm.Cond.code ({ cls := "RowPresolve", name := "row", desc := "(II)I" } : Jvm.MethodName) prog_1_method_3_code (4 : Nat) (Option.some Jvm.ClassFile.FieldType.int)) ∈ gtbl := gt2 201 rfl rfl
set_option maxRecDepth 20000 in
theorem wk_523 : (Jvm.Cond.constantLong "RowPresolve" (99 : Nat) (1000000 : Int64)) ∈ gtbl := gt2 203 rfl rfl
set_option maxRecDepth 20000 in
theorem wk_530 : (Jvm.Cond.instanceMethod ({ cls := "RowPresolve", name := "term", desc := "(III)V" } : Jvm.MethodName)) ∈ gtbl := gt2 210 rfl rfl
set_option maxRecDepth 20000 in
theorem wk_531 : (Jvm.Cond.selects "RowPresolve" ({ cls := "RowPresolve", name := "term", desc := "(III)V" } : Jvm.MethodName) ({ cls := "RowPresolve", name := "term", desc := "(III)V" } : Jvm.MethodName)) ∈ gtbl := gt2 211 rfl rfl
set_option maxRecDepth 20000 in
theorem wk_532 : (Jvm.Cond.code ({ cls := "RowPresolve", name := "term", desc := "(III)V" } : Jvm.MethodName) prog_1_method_4_code (4 : Nat) (Option.none : Option Jvm.ClassFile.FieldType)) ∈ gtbl := gt2 212 rfl rfl
set_option maxRecDepth 20000 in
theorem wk_533 : (Jvm.Cond.methodLink "RowPresolve" (110 : Nat) ({ cls := "RowPresolve", name := "needRow", desc := "(I)V" } : Jvm.MethodName)) ∈ gtbl := gt2 213 rfl rfl
set_option maxRecDepth 20000 in
theorem wk_535 : (Jvm.Cond.instanceMethod ({ cls := "RowPresolve", name := "needRow", desc := "(I)V" } : Jvm.MethodName)) ∈ gtbl := gt2 215 rfl rfl
set_option maxRecDepth 20000 in
theorem wk_536 : (Jvm.Cond.code ({ cls := "RowPresolve", name := "needRow", desc := "(I)V" } : Jvm.MethodName) prog_1_method_32_code (2 : Nat) (Option.none : Option Jvm.ClassFile.FieldType)) ∈ gtbl := gt2 216 rfl rfl
set_option maxRecDepth 20000 in
theorem wk_553 : (Jvm.Cond.methodLink "RowPresolve" (114 : Nat) ({ cls := "RowPresolve", name := "needColumn", desc := "(I)V" } : Jvm.MethodName)) ∈ gtbl := gt2 233 rfl rfl
set_option maxRecDepth 20000 in
theorem wk_555 : (Jvm.Cond.instanceMethod ({ cls := "RowPresolve", name := "needColumn", desc := "(I)V" } : Jvm.MethodName)) ∈ gtbl := gt2 235 rfl rfl
set_option maxRecDepth 20000 in
theorem wk_556 : (Jvm.Cond.code ({ cls := "RowPresolve", name := "needColumn", desc := "(I)V" } : Jvm.MethodName) prog_1_method_31_code (2 : Nat) (Option.none : Option Jvm.ClassFile.FieldType)) ∈ gtbl := gt2 236 rfl rfl
set_option maxRecDepth 20000 in
theorem wk_563 : (Jvm.Cond.instanceMethod ({ cls := "RowPresolve", name := "shrink", desc := "(II)I" } : Jvm.MethodName)) ∈ gtbl := gt3 3 rfl rfl
set_option maxRecDepth 20000 in
theorem wk_564 : (Jvm.Cond.selects "RowPresolve" ({ cls := "RowPresolve", name := "shrink", desc := "(II)I" } : Jvm.MethodName) ({ cls := "RowPresolve", name := "shrink", desc := "(II)I" } : Jvm.MethodName)) ∈ gtbl := gt3 4 rfl rfl
set_option maxRecDepth 20000 in
theorem wk_565 : (Jvm.Cond.code ({ cls := "RowPresolve", name := "shrink", desc := "(II)I" } : Jvm.MethodName) prog_1_method_6_code (6 : Nat) (Option.some Jvm.ClassFile.FieldType.int)) ∈ gtbl := gt3 5 rfl rfl
set_option maxRecDepth 20000 in
theorem wk_567 : (Jvm.Cond.methodLink "RowPresolve" (135 : Nat) ({ cls := "RowPresolve$Small", name := "beginAs", desc := "(LRowPresolve$Table;)V" } : Jvm.MethodName)) ∈ gtbl := gt3 7 rfl rfl
set_option maxRecDepth 20000 in
theorem wk_568 : (Jvm.Cond.instanceMethod ({ cls := "RowPresolve$Small", name := "beginAs", desc := "(LRowPresolve$Table;)V" } : Jvm.MethodName)) ∈ gtbl := gt3 8 rfl rfl
set_option maxRecDepth 20000 in
theorem wk_569 : (Jvm.Cond.selects "RowPresolve$Small" ({ cls := "RowPresolve$Small", name := "beginAs", desc := "(LRowPresolve$Table;)V" } : Jvm.MethodName) ({ cls := "RowPresolve$Small", name := "beginAs", desc := "(LRowPresolve$Table;)V" } : Jvm.MethodName)) ∈ gtbl := gt3 9 rfl rfl
set_option maxRecDepth 20000 in
theorem wk_570 : (Jvm.Cond.code ({ cls := "RowPresolve$Small", name := "beginAs", desc := "(LRowPresolve$Table;)V" } : Jvm.MethodName) prog_7_method_2_code (3 : Nat) (Option.none : Option Jvm.ClassFile.FieldType)) ∈ gtbl := gt3 10 rfl rfl
set_option maxRecDepth 20000 in
theorem wk_571 : (Jvm.Cond.methodLink "RowPresolve$Small" (51 : Nat) ({ cls := "RowPresolve$Table", name := "copyFrom", desc := "(LRowPresolve$Table;)V" } : Jvm.MethodName)) ∈ gtbl := gt3 11 rfl rfl
set_option maxRecDepth 20000 in
theorem wk_572 : (Jvm.Cond.instanceMethod ({ cls := "RowPresolve$Table", name := "copyFrom", desc := "(LRowPresolve$Table;)V" } : Jvm.MethodName)) ∈ gtbl := gt3 12 rfl rfl
set_option maxRecDepth 20000 in
theorem wk_573 : (Jvm.Cond.selects "RowPresolve$Table" ({ cls := "RowPresolve$Table", name := "copyFrom", desc := "(LRowPresolve$Table;)V" } : Jvm.MethodName) ({ cls := "RowPresolve$Table", name := "copyFrom", desc := "(LRowPresolve$Table;)V" } : Jvm.MethodName)) ∈ gtbl := gt3 13 rfl rfl
set_option maxRecDepth 20000 in
theorem wk_574 : (Jvm.Cond.code ({ cls := "RowPresolve$Table", name := "copyFrom", desc := "(LRowPresolve$Table;)V" } : Jvm.MethodName) prog_8_method_6_code (3 : Nat) (Option.none : Option Jvm.ClassFile.FieldType)) ∈ gtbl := gt3 14 rfl rfl
set_option maxRecDepth 20000 in
theorem wk_575 : (Jvm.Cond.methodLink "RowPresolve$Table" (43 : Nat) ({ cls := "java/lang/System", name := "arraycopy", desc := "(Ljava/lang/Object;ILjava/lang/Object;II)V" } : Jvm.MethodName)) ∈ gtbl := gt3 15 rfl rfl
set_option maxRecDepth 20000 in
theorem wk_576 : (Jvm.Cond.static ({ cls := "java/lang/System", name := "arraycopy", desc := "(Ljava/lang/Object;ILjava/lang/Object;II)V" } : Jvm.MethodName)) ∈ gtbl := gt3 16 rfl rfl
set_option maxRecDepth 20000 in
theorem wk_577 : (Jvm.Cond.native ({ cls := "java/lang/System", name := "arraycopy", desc := "(Ljava/lang/Object;ILjava/lang/Object;II)V" } : Jvm.MethodName)) ∈ gtbl := gt3 17 rfl rfl
set_option maxRecDepth 20000 in
theorem wk_578 : (Jvm.Cond.methodLink "RowPresolve" (147 : Nat) ({ cls := "RowPresolve$Rounds", name := "doRound", desc := "(I)Z" } : Jvm.MethodName)) ∈ gtbl := gt3 18 rfl rfl
set_option maxRecDepth 20000 in
theorem wk_579 : (Jvm.Cond.instanceMethod ({ cls := "RowPresolve$Rounds", name := "doRound", desc := "(I)Z" } : Jvm.MethodName)) ∈ gtbl := gt3 19 rfl rfl
set_option maxRecDepth 20000 in
theorem wk_580 : (Jvm.Cond.selects "RowPresolve$Rounds" ({ cls := "RowPresolve$Rounds", name := "doRound", desc := "(I)Z" } : Jvm.MethodName) ({ cls := "RowPresolve$Rounds", name := "doRound", desc := "(I)Z" } : Jvm.MethodName)) ∈ gtbl := gt3 20 rfl rfl
set_option maxRecDepth 20000 in
theorem wk_581 : (Jvm.Cond.code ({ cls := "RowPresolve$Rounds", name := "doRound", desc := "(I)Z" } : Jvm.MethodName) prog_5_method_2_code (5 : Nat) (Option.some Jvm.ClassFile.FieldType.boolean)) ∈ gtbl := gt3 21 rfl rfl
set_option maxRecDepth 20000 in
theorem wk_582 : (Jvm.Cond.methodLink "RowPresolve$Rounds" (42 : Nat) ({ cls := "RowPresolve$Rounds", name := "isByColumns", desc := "(I)Z" } : Jvm.MethodName)) ∈ gtbl := gt3 22 rfl rfl
set_option maxRecDepth 20000 in
theorem wk_583 : (Jvm.Cond.static ({ cls := "RowPresolve$Rounds", name := "isByColumns", desc := "(I)Z" } : Jvm.MethodName)) ∈ gtbl := gt3 23 rfl rfl
set_option maxRecDepth 20000 in
theorem wk_584 : (Jvm.Cond.code ({ cls := "RowPresolve$Rounds", name := "isByColumns", desc := "(I)Z" } : Jvm.MethodName) prog_5_method_3_code (1 : Nat) (Option.some Jvm.ClassFile.FieldType.boolean)) ∈ gtbl := gt3 24 rfl rfl
set_option maxRecDepth 20000 in
theorem wk_585 : (Jvm.Cond.methodLink "RowPresolve$Rounds" (54 : Nat) ({ cls := "RowPresolve$Rounds", name := "doRule", desc := "(II)Z" } : Jvm.MethodName)) ∈ gtbl := gt3 25 rfl rfl
set_option maxRecDepth 20000 in
theorem wk_587 : (Jvm.Cond.instanceMethod ({ cls := "RowPresolve$Rounds", name := "doRule", desc := "(II)Z" } : Jvm.MethodName)) ∈ gtbl := gt3 27 rfl rfl
set_option maxRecDepth 20000 in
theorem wk_588 : (Jvm.Cond.code ({ cls := "RowPresolve$Rounds", name := "doRule", desc := "(II)Z" } : Jvm.MethodName) prog_5_method_4_code (3 : Nat) (Option.some Jvm.ClassFile.FieldType.boolean)) ∈ gtbl := gt3 28 rfl rfl
set_option maxRecDepth 20000 in
theorem wk_589 : (Jvm.Cond.methodLink "RowPresolve$Rounds" (58 : Nat) ({ cls := "RowPresolve$Table", name := "isThere", desc := "(I)Z" } : Jvm.MethodName)) ∈ gtbl := gt3 29 rfl rfl
set_option maxRecDepth 20000 in
theorem wk_590 : (Jvm.Cond.instanceMethod ({ cls := "RowPresolve$Table", name := "isThere", desc := "(I)Z" } : Jvm.MethodName)) ∈ gtbl := gt3 30 rfl rfl
set_option maxRecDepth 20000 in
theorem wk_591 : (Jvm.Cond.selects "RowPresolve$Table" ({ cls := "RowPresolve$Table", name := "isThere", desc := "(I)Z" } : Jvm.MethodName) ({ cls := "RowPresolve$Table", name := "isThere", desc := "(I)Z" } : Jvm.MethodName)) ∈ gtbl := gt3 31 rfl rfl
set_option maxRecDepth 20000 in
theorem wk_592 : (Jvm.Cond.code ({ cls := "RowPresolve$Table", name := "isThere", desc := "(I)Z" } : Jvm.MethodName) prog_8_method_2_code (2 : Nat) (Option.some Jvm.ClassFile.FieldType.boolean)) ∈ gtbl := gt3 32 rfl rfl
set_option maxRecDepth 20000 in
theorem wk_593 : (Jvm.Cond.methodLink "RowPresolve$Rounds" (61 : Nat) ({ cls := "RowPresolve$Table", name := "isGone", desc := "(I)Z" } : Jvm.MethodName)) ∈ gtbl := gt3 33 rfl rfl
set_option maxRecDepth 20000 in
theorem wk_594 : (Jvm.Cond.instanceMethod ({ cls := "RowPresolve$Table", name := "isGone", desc := "(I)Z" } : Jvm.MethodName)) ∈ gtbl := gt3 34 rfl rfl
set_option maxRecDepth 20000 in
theorem wk_595 : (Jvm.Cond.selects "RowPresolve$Table" ({ cls := "RowPresolve$Table", name := "isGone", desc := "(I)Z" } : Jvm.MethodName) ({ cls := "RowPresolve$Table", name := "isGone", desc := "(I)Z" } : Jvm.MethodName)) ∈ gtbl := gt3 35 rfl rfl
set_option maxRecDepth 20000 in
theorem wk_596 : (Jvm.Cond.code ({ cls := "RowPresolve$Table", name := "isGone", desc := "(I)Z" } : Jvm.MethodName) prog_8_method_3_code (2 : Nat) (Option.some Jvm.ClassFile.FieldType.boolean)) ∈ gtbl := gt3 36 rfl rfl
set_option maxRecDepth 20000 in
theorem wk_597 : (Jvm.Cond.methodLink "RowPresolve$Rounds" (64 : Nat) ({ cls := "RowPresolve$RowRules", name := "leaveEmpty", desc := "(I)Z" } : Jvm.MethodName)) ∈ gtbl := gt3 37 rfl rfl
set_option maxRecDepth 20000 in
theorem wk_598 : (Jvm.Cond.instanceMethod ({ cls := "RowPresolve$RowRules", name := "leaveEmpty", desc := "(I)Z" } : Jvm.MethodName)) ∈ gtbl := gt3 38 rfl rfl
set_option maxRecDepth 20000 in
theorem wk_599 : (Jvm.Cond.selects "RowPresolve$RowRules" ({ cls := "RowPresolve$RowRules", name := "leaveEmpty", desc := "(I)Z" } : Jvm.MethodName) ({ cls := "RowPresolve$RowRules", name := "leaveEmpty", desc := "(I)Z" } : Jvm.MethodName)) ∈ gtbl := gt3 39 rfl rfl
set_option maxRecDepth 20000 in
theorem wk_600 : (Jvm.Cond.code ({ cls := "RowPresolve$RowRules", name := "leaveEmpty", desc := "(I)Z" } : Jvm.MethodName) prog_6_method_2_code (2 : Nat) (Option.some Jvm.ClassFile.FieldType.boolean)) ∈ gtbl := gt3 40 rfl rfl
set_option maxRecDepth 20000 in
theorem wk_601 : (Jvm.Cond.methodLink "RowPresolve$RowRules" (22 : Nat) ({ cls := "RowPresolve$Table", name := "nextTerm", desc := "(II)I" } : Jvm.MethodName)) ∈ gtbl := gt3 41 rfl rfl
set_option maxRecDepth 20000 in
theorem wk_602 : (Jvm.Cond.instanceMethod ({ cls := "RowPresolve$Table", name := "nextTerm", desc := "(II)I" } : Jvm.MethodName)) ∈ gtbl := gt3 42 rfl rfl
set_option maxRecDepth 20000 in
theorem wk_603 : (Jvm.Cond.selects "RowPresolve$Table" ({ cls := "RowPresolve$Table", name := "nextTerm", desc := "(II)I" } : Jvm.MethodName) ({ cls := "RowPresolve$Table", name := "nextTerm", desc := "(II)I" } : Jvm.MethodName)) ∈ gtbl := gt3 43 rfl rfl
set_option maxRecDepth 20000 in
theorem wk_604 : (Jvm.Cond.code ({ cls := "RowPresolve$Table", name := "nextTerm", desc := "(II)I" } : Jvm.MethodName) prog_8_method_7_code (4 : Nat) (Option.some Jvm.ClassFile.FieldType.int)) ∈ gtbl := gt3 44 rfl rfl
set_option maxRecDepth 20000 in
theorem wk_605 : (Jvm.Cond.methodLink "RowPresolve$RowRules" (28 : Nat) ({ cls := "RowPresolve$Table", name := "isHolding", desc := "(IJ)Z" } : Jvm.MethodName)) ∈ gtbl := gt3 45 rfl rfl
set_option maxRecDepth 20000 in
theorem wk_606 : (Jvm.Cond.instanceMethod ({ cls := "RowPresolve$Table", name := "isHolding", desc := "(IJ)Z" } : Jvm.MethodName)) ∈ gtbl := gt3 46 rfl rfl
set_option maxRecDepth 20000 in
theorem wk_607 : (Jvm.Cond.selects "RowPresolve$Table" ({ cls := "RowPresolve$Table", name := "isHolding", desc := "(IJ)Z" } : Jvm.MethodName) ({ cls := "RowPresolve$Table", name := "isHolding", desc := "(IJ)Z" } : Jvm.MethodName)) ∈ gtbl := gt3 47 rfl rfl
set_option maxRecDepth 20000 in
theorem wk_608 : (Jvm.Cond.code ({ cls := "RowPresolve$Table", name := "isHolding", desc := "(IJ)Z" } : Jvm.MethodName) prog_8_method_12_code (4 : Nat) (Option.some Jvm.ClassFile.FieldType.boolean)) ∈ gtbl := gt3 48 rfl rfl
set_option maxRecDepth 20000 in
theorem wk_609 : (Jvm.Cond.methodLink "RowPresolve$Table" (57 : Nat) ({ cls := "RowPresolve$Table", name := "isGone", desc := "(I)Z" } : Jvm.MethodName)) ∈ gtbl := gt3 49 rfl rfl
set_option maxRecDepth 20000 in
theorem wk_610 : (Jvm.Cond.methodLink "RowPresolve$RowRules" (36 : Nat) ({ cls := "RowPresolve$Small", name := "endAll", desc := "(I)Z" } : Jvm.MethodName)) ∈ gtbl := gt3 50 rfl rfl
set_option maxRecDepth 20000 in
theorem wk_611 : (Jvm.Cond.instanceMethod ({ cls := "RowPresolve$Small", name := "endAll", desc := "(I)Z" } : Jvm.MethodName)) ∈ gtbl := gt3 51 rfl rfl
set_option maxRecDepth 20000 in
theorem wk_612 : (Jvm.Cond.selects "RowPresolve$Small" ({ cls := "RowPresolve$Small", name := "endAll", desc := "(I)Z" } : Jvm.MethodName) ({ cls := "RowPresolve$Small", name := "endAll", desc := "(I)Z" } : Jvm.MethodName)) ∈ gtbl := gt3 52 rfl rfl
set_option maxRecDepth 20000 in
theorem wk_613 : (Jvm.Cond.code ({ cls := "RowPresolve$Small", name := "endAll", desc := "(I)Z" } : Jvm.MethodName) prog_7_method_4_code (2 : Nat) (Option.some Jvm.ClassFile.FieldType.boolean)) ∈ gtbl := gt3 53 rfl rfl
set_option maxRecDepth 20000 in
theorem wk_614 : (Jvm.Cond.methodLink "RowPresolve$RowRules" (40 : Nat) ({ cls := "RowPresolve$Small", name := "leaveOut", desc := "(I)V" } : Jvm.MethodName)) ∈ gtbl := gt3 54 rfl rfl
set_option maxRecDepth 20000 in
theorem wk_615 : (Jvm.Cond.instanceMethod ({ cls := "RowPresolve$Small", name := "leaveOut", desc := "(I)V" } : Jvm.MethodName)) ∈ gtbl := gt3 55 rfl rfl
set_option maxRecDepth 20000 in
theorem wk_616 : (Jvm.Cond.selects "RowPresolve$Small" ({ cls := "RowPresolve$Small", name := "leaveOut", desc := "(I)V" } : Jvm.MethodName) ({ cls := "RowPresolve$Small", name := "leaveOut", desc := "(I)V" } : Jvm.MethodName)) ∈ gtbl := gt3 56 rfl rfl
set_option maxRecDepth 20000 in
theorem wk_617 : (Jvm.Cond.code ({ cls := "RowPresolve$Small", name := "leaveOut", desc := "(I)V" } : Jvm.MethodName) prog_7_method_5_code (2 : Nat) (Option.none : Option Jvm.ClassFile.FieldType)) ∈ gtbl := gt3 57 rfl rfl
set_option maxRecDepth 20000 in
theorem wk_618 : (Jvm.Cond.methodLink "RowPresolve$Small" (74 : Nat) ({ cls := "RowPresolve$Acts", name := "note", desc := "(IIIIJ)V" } : Jvm.MethodName)) ∈ gtbl := gt3 58 rfl rfl
set_option maxRecDepth 20000 in
theorem wk_619 : (Jvm.Cond.instanceMethod ({ cls := "RowPresolve$Acts", name := "note", desc := "(IIIIJ)V" } : Jvm.MethodName)) ∈ gtbl := gt3 59 rfl rfl
set_option maxRecDepth 20000 in
theorem wk_620 : (Jvm.Cond.selects "RowPresolve$Acts" ({ cls := "RowPresolve$Acts", name := "note", desc := "(IIIIJ)V" } : Jvm.MethodName) ({ cls := "RowPresolve$Acts", name := "note", desc := "(IIIIJ)V" } : Jvm.MethodName)) ∈ gtbl := gt3 60 rfl rfl
set_option maxRecDepth 20000 in
theorem wk_621 : (Jvm.Cond.code ({ cls := "RowPresolve$Acts", name := "note", desc := "(IIIIJ)V" } : Jvm.MethodName) prog_2_method_3_code (8 : Nat) (Option.none : Option Jvm.ClassFile.FieldType)) ∈ gtbl := gt3 61 rfl rfl
set_option maxRecDepth 20000 in
theorem wk_622 : (Jvm.Cond.methodLink "RowPresolve$Rounds" (67 : Nat) ({ cls := "RowPresolve$RowRules", name := "divideShared", desc := "(I)Z" } : Jvm.MethodName)) ∈ gtbl := gt3 62 rfl rfl
set_option maxRecDepth 20000 in
theorem wk_623 : (Jvm.Cond.instanceMethod ({ cls := "RowPresolve$RowRules", name := "divideShared", desc := "(I)Z" } : Jvm.MethodName)) ∈ gtbl := gt3 63 rfl rfl
set_option maxRecDepth 20000 in
theorem wk_624 : (Jvm.Cond.selects "RowPresolve$RowRules" ({ cls := "RowPresolve$RowRules", name := "divideShared", desc := "(I)Z" } : Jvm.MethodName) ({ cls := "RowPresolve$RowRules", name := "divideShared", desc := "(I)Z" } : Jvm.MethodName)) ∈ gtbl := gt3 64 rfl rfl
set_option maxRecDepth 20000 in
theorem wk_625 : (Jvm.Cond.code ({ cls := "RowPresolve$RowRules", name := "divideShared", desc := "(I)Z" } : Jvm.MethodName) prog_6_method_3_code (7 : Nat) (Option.some Jvm.ClassFile.FieldType.boolean)) ∈ gtbl := gt3 65 rfl rfl
set_option maxRecDepth 20000 in
theorem wk_626 : (Jvm.Cond.methodLink "RowPresolve$RowRules" (44 : Nat) ({ cls := "RowPresolve$RowRules", name := "sharedDivisor", desc := "(I)J" } : Jvm.MethodName)) ∈ gtbl := gt3 66 rfl rfl
set_option maxRecDepth 20000 in
theorem wk_628 : (Jvm.Cond.instanceMethod ({ cls := "RowPresolve$RowRules", name := "sharedDivisor", desc := "(I)J" } : Jvm.MethodName)) ∈ gtbl := gt3 68 rfl rfl
set_option maxRecDepth 20000 in
theorem wk_629 : (Jvm.Cond.code ({ cls := "RowPresolve$RowRules", name := "sharedDivisor", desc := "(I)J" } : Jvm.MethodName) prog_6_method_4_code (5 : Nat) (Option.some Jvm.ClassFile.FieldType.long)) ∈ gtbl := gt3 69 rfl rfl
set_option maxRecDepth 20000 in
theorem wk_630 : (Jvm.Cond.methodLink "RowPresolve$RowRules" (73 : Nat) ({ cls := "java/lang/Math", name := "abs", desc := "(J)J" } : Jvm.MethodName)) ∈ gtbl := gt3 70 rfl rfl
set_option maxRecDepth 20000 in
theorem wk_631 : (Jvm.Cond.static ({ cls := "java/lang/Math", name := "abs", desc := "(J)J" } : Jvm.MethodName)) ∈ gtbl := gt3 71 rfl rfl
set_option maxRecDepth 20000 in
theorem wk_632 : (Jvm.Cond.code ({ cls := "java/lang/Math", name := "abs", desc := "(J)J" } : Jvm.MethodName) prog_16_method_61_code (2 : Nat) (Option.some Jvm.ClassFile.FieldType.long)) ∈ gtbl := gt3 72 rfl rfl
set_option maxRecDepth 20000 in
theorem wk_633 : (Jvm.Cond.methodLink "RowPresolve$RowRules" (79 : Nat) ({ cls := "RowPresolve$RowRules", name := "greatestDivisor", desc := "(JJ)J" } : Jvm.MethodName)) ∈ gtbl := gt3 73 rfl rfl
set_option maxRecDepth 20000 in
theorem wk_634 : (Jvm.Cond.static ({ cls := "RowPresolve$RowRules", name := "greatestDivisor", desc := "(JJ)J" } : Jvm.MethodName)) ∈ gtbl := gt3 74 rfl rfl
set_option maxRecDepth 20000 in
theorem wk_635 : (Jvm.Cond.code ({ cls := "RowPresolve$RowRules", name := "greatestDivisor", desc := "(JJ)J" } : Jvm.MethodName) prog_6_method_5_code (11 : Nat) (Option.some Jvm.ClassFile.FieldType.long)) ∈ gtbl := gt3 75 rfl rfl
set_option maxRecDepth 20000 in
theorem wk_636 : (Jvm.Cond.methodLink "RowPresolve$RowRules" (59 : Nat) ({ cls := "RowPresolve$RowRules", name := "divide", desc := "(IJ)V" } : Jvm.MethodName)) ∈ gtbl := gt3 76 rfl rfl
set_option maxRecDepth 20000 in
theorem wk_638 : (Jvm.Cond.instanceMethod ({ cls := "RowPresolve$RowRules", name := "divide", desc := "(IJ)V" } : Jvm.MethodName)) ∈ gtbl := gt3 78 rfl rfl
set_option maxRecDepth 20000 in
theorem wk_639 : (Jvm.Cond.code ({ cls := "RowPresolve$RowRules", name := "divide", desc := "(IJ)V" } : Jvm.MethodName) prog_6_method_6_code (5 : Nat) (Option.none : Option Jvm.ClassFile.FieldType)) ∈ gtbl := gt3 79 rfl rfl
set_option maxRecDepth 20000 in
theorem wk_640 : (Jvm.Cond.methodLink "RowPresolve$RowRules" (83 : Nat) ({ cls := "java/lang/Math", name := "floorDiv", desc := "(JJ)J" } : Jvm.MethodName)) ∈ gtbl := gt3 80 rfl rfl
set_option maxRecDepth 20000 in
theorem wk_641 : (Jvm.Cond.static ({ cls := "java/lang/Math", name := "floorDiv", desc := "(JJ)J" } : Jvm.MethodName)) ∈ gtbl := gt3 81 rfl rfl
set_option maxRecDepth 20000 in
theorem wk_642 : (Jvm.Cond.code ({ cls := "java/lang/Math", name := "floorDiv", desc := "(JJ)J" } : Jvm.MethodName) prog_16_method_49_code (6 : Nat) (Option.some Jvm.ClassFile.FieldType.long)) ∈ gtbl := gt3 82 rfl rfl
set_option maxRecDepth 20000 in
theorem wk_643 : (Jvm.Cond.methodLink "RowPresolve$RowRules" (63 : Nat) ({ cls := "RowPresolve$RowRules", name := "turnSigns", desc := "(I)V" } : Jvm.MethodName)) ∈ gtbl := gt3 83 rfl rfl
set_option maxRecDepth 20000 in
theorem wk_645 : (Jvm.Cond.instanceMethod ({ cls := "RowPresolve$RowRules", name := "turnSigns", desc := "(I)V" } : Jvm.MethodName)) ∈ gtbl := gt3 85 rfl rfl
set_option maxRecDepth 20000 in
theorem wk_646 : (Jvm.Cond.code ({ cls := "RowPresolve$RowRules", name := "turnSigns", desc := "(I)V" } : Jvm.MethodName) prog_6_method_7_code (3 : Nat) (Option.none : Option Jvm.ClassFile.FieldType)) ∈ gtbl := gt3 86 rfl rfl
set_option maxRecDepth 20000 in
theorem wk_647 : (Jvm.Cond.methodLink "RowPresolve$RowRules" (66 : Nat) ({ cls := "RowPresolve$Small", name := "noteAnew", desc := "(I)V" } : Jvm.MethodName)) ∈ gtbl := gt3 87 rfl rfl
set_option maxRecDepth 20000 in
theorem wk_648 : (Jvm.Cond.instanceMethod ({ cls := "RowPresolve$Small", name := "noteAnew", desc := "(I)V" } : Jvm.MethodName)) ∈ gtbl := gt3 88 rfl rfl
set_option maxRecDepth 20000 in
theorem wk_649 : (Jvm.Cond.selects "RowPresolve$Small" ({ cls := "RowPresolve$Small", name := "noteAnew", desc := "(I)V" } : Jvm.MethodName) ({ cls := "RowPresolve$Small", name := "noteAnew", desc := "(I)V" } : Jvm.MethodName)) ∈ gtbl := gt3 89 rfl rfl
set_option maxRecDepth 20000 in
theorem wk_650 : (Jvm.Cond.code ({ cls := "RowPresolve$Small", name := "noteAnew", desc := "(I)V" } : Jvm.MethodName) prog_7_method_6_code (2 : Nat) (Option.none : Option Jvm.ClassFile.FieldType)) ∈ gtbl := gt3 90 rfl rfl
set_option maxRecDepth 20000 in
theorem wk_651 : (Jvm.Cond.methodLink "RowPresolve$Rounds" (70 : Nat) ({ cls := "RowPresolve$RowRules", name := "leaveSingle", desc := "(I)Z" } : Jvm.MethodName)) ∈ gtbl := gt3 91 rfl rfl
set_option maxRecDepth 20000 in
theorem wk_652 : (Jvm.Cond.instanceMethod ({ cls := "RowPresolve$RowRules", name := "leaveSingle", desc := "(I)Z" } : Jvm.MethodName)) ∈ gtbl := gt3 92 rfl rfl
set_option maxRecDepth 20000 in
theorem wk_653 : (Jvm.Cond.selects "RowPresolve$RowRules" ({ cls := "RowPresolve$RowRules", name := "leaveSingle", desc := "(I)Z" } : Jvm.MethodName) ({ cls := "RowPresolve$RowRules", name := "leaveSingle", desc := "(I)Z" } : Jvm.MethodName)) ∈ gtbl := gt3 93 rfl rfl
set_option maxRecDepth 20000 in
theorem wk_654 : (Jvm.Cond.code ({ cls := "RowPresolve$RowRules", name := "leaveSingle", desc := "(I)Z" } : Jvm.MethodName) prog_6_method_8_code (9 : Nat) (Option.some Jvm.ClassFile.FieldType.boolean)) ∈ gtbl := gt3 94 rfl rfl
set_option maxRecDepth 20000 in
theorem wk_655 : (Jvm.Cond.methodLink "RowPresolve$RowRules" (86 : Nat) ({ cls := "RowPresolve$Table", name := "countTerms", desc := "(I)I" } : Jvm.MethodName)) ∈ gtbl := gt3 95 rfl rfl
set_option maxRecDepth 20000 in
theorem wk_656 : (Jvm.Cond.instanceMethod ({ cls := "RowPresolve$Table", name := "countTerms", desc := "(I)I" } : Jvm.MethodName)) ∈ gtbl := gt3 96 rfl rfl
set_option maxRecDepth 20000 in
theorem wk_657 : (Jvm.Cond.selects "RowPresolve$Table" ({ cls := "RowPresolve$Table", name := "countTerms", desc := "(I)I" } : Jvm.MethodName) ({ cls := "RowPresolve$Table", name := "countTerms", desc := "(I)I" } : Jvm.MethodName)) ∈ gtbl := gt3 97 rfl rfl
set_option maxRecDepth 20000 in
theorem wk_658 : (Jvm.Cond.code ({ cls := "RowPresolve$Table", name := "countTerms", desc := "(I)I" } : Jvm.MethodName) prog_8_method_8_code (4 : Nat) (Option.some Jvm.ClassFile.FieldType.int)) ∈ gtbl := gt3 98 rfl rfl
set_option maxRecDepth 20000 in
theorem wk_659 : (Jvm.Cond.methodLink "RowPresolve$RowRules" (90 : Nat) ({ cls := "RowPresolve$Small", name := "narrow", desc := "(IIZJJI)Z" } : Jvm.MethodName)) ∈ gtbl := gt3 99 rfl rfl
set_option maxRecDepth 20000 in
theorem wk_660 : (Jvm.Cond.instanceMethod ({ cls := "RowPresolve$Small", name := "narrow", desc := "(IIZJJI)Z" } : Jvm.MethodName)) ∈ gtbl := gt3 100 rfl rfl
set_option maxRecDepth 20000 in
theorem wk_661 : (Jvm.Cond.selects "RowPresolve$Small" ({ cls := "RowPresolve$Small", name := "narrow", desc := "(IIZJJI)Z" } : Jvm.MethodName) ({ cls := "RowPresolve$Small", name := "narrow", desc := "(IIZJJI)Z" } : Jvm.MethodName)) ∈ gtbl := gt3 101 rfl rfl
set_option maxRecDepth 20000 in
theorem wk_662 : (Jvm.Cond.code ({ cls := "RowPresolve$Small", name := "narrow", desc := "(IIZJJI)Z" } : Jvm.MethodName) prog_7_method_9_code (11 : Nat) (Option.some Jvm.ClassFile.FieldType.boolean)) ∈ gtbl := gt3 102 rfl rfl
set_option maxRecDepth 20000 in
theorem wk_663 : (Jvm.Cond.methodLink "RowPresolve$Small" (90 : Nat) ({ cls := "java/lang/Math", name := "floorDiv", desc := "(JJ)J" } : Jvm.MethodName)) ∈ gtbl := gt3 103 rfl rfl
set_option maxRecDepth 20000 in
theorem wk_664 : (Jvm.Cond.methodLink "RowPresolve$Small" (96 : Nat) ({ cls := "RowPresolve$Small", name := "endAll", desc := "(I)Z" } : Jvm.MethodName)) ∈ gtbl := gt3 104 rfl rfl
set_option maxRecDepth 20000 in
theorem wk_665 : (Jvm.Cond.methodLink "RowPresolve$Rounds" (73 : Nat) ({ cls := "RowPresolve$RowRules", name := "lookAtSpan", desc := "(I)Z" } : Jvm.MethodName)) ∈ gtbl := gt3 105 rfl rfl
set_option maxRecDepth 20000 in
theorem wk_666 : (Jvm.Cond.instanceMethod ({ cls := "RowPresolve$RowRules", name := "lookAtSpan", desc := "(I)Z" } : Jvm.MethodName)) ∈ gtbl := gt3 106 rfl rfl
set_option maxRecDepth 20000 in
theorem wk_667 : (Jvm.Cond.selects "RowPresolve$RowRules" ({ cls := "RowPresolve$RowRules", name := "lookAtSpan", desc := "(I)Z" } : Jvm.MethodName) ({ cls := "RowPresolve$RowRules", name := "lookAtSpan", desc := "(I)Z" } : Jvm.MethodName)) ∈ gtbl := gt3 107 rfl rfl
set_option maxRecDepth 20000 in
theorem wk_668 : (Jvm.Cond.code ({ cls := "RowPresolve$RowRules", name := "lookAtSpan", desc := "(I)Z" } : Jvm.MethodName) prog_6_method_9_code (9 : Nat) (Option.some Jvm.ClassFile.FieldType.boolean)) ∈ gtbl := gt3 108 rfl rfl
set_option maxRecDepth 20000 in
theorem wk_669 : (Jvm.Cond.methodLink "RowPresolve$RowRules" (94 : Nat) ({ cls := "RowPresolve$Small", name := "reach", desc := "(IIZ)J" } : Jvm.MethodName)) ∈ gtbl := gt3 109 rfl rfl
set_option maxRecDepth 20000 in
theorem wk_670 : (Jvm.Cond.instanceMethod ({ cls := "RowPresolve$Small", name := "reach", desc := "(IIZ)J" } : Jvm.MethodName)) ∈ gtbl := gt3 110 rfl rfl
set_option maxRecDepth 20000 in
theorem wk_671 : (Jvm.Cond.selects "RowPresolve$Small" ({ cls := "RowPresolve$Small", name := "reach", desc := "(IIZ)J" } : Jvm.MethodName) ({ cls := "RowPresolve$Small", name := "reach", desc := "(IIZ)J" } : Jvm.MethodName)) ∈ gtbl := gt3 111 rfl rfl
set_option maxRecDepth 20000 in
theorem wk_672 : (Jvm.Cond.code ({ cls := "RowPresolve$Small", name := "reach", desc := "(IIZ)J" } : Jvm.MethodName) prog_7_method_7_code (9 : Nat) (Option.some Jvm.ClassFile.FieldType.long)) ∈ gtbl := gt3 112 rfl rfl
set_option maxRecDepth 20000 in
theorem wk_673 : (Jvm.Cond.methodLink "RowPresolve$RowRules" (98 : Nat) ({ cls := "RowPresolve$Small", name := "reachRest", desc := "(IIZ)I" } : Jvm.MethodName)) ∈ gtbl := gt3 113 rfl rfl
set_option maxRecDepth 20000 in
theorem wk_674 : (Jvm.Cond.instanceMethod ({ cls := "RowPresolve$Small", name := "reachRest", desc := "(IIZ)I" } : Jvm.MethodName)) ∈ gtbl := gt3 114 rfl rfl
set_option maxRecDepth 20000 in
theorem wk_675 : (Jvm.Cond.selects "RowPresolve$Small" ({ cls := "RowPresolve$Small", name := "reachRest", desc := "(IIZ)I" } : Jvm.MethodName) ({ cls := "RowPresolve$Small", name := "reachRest", desc := "(IIZ)I" } : Jvm.MethodName)) ∈ gtbl := gt3 115 rfl rfl
set_option maxRecDepth 20000 in
theorem wk_676 : (Jvm.Cond.code ({ cls := "RowPresolve$Small", name := "reachRest", desc := "(IIZ)I" } : Jvm.MethodName) prog_7_method_8_code (8 : Nat) (Option.some Jvm.ClassFile.FieldType.int)) ∈ gtbl := gt3 116 rfl rfl
set_option maxRecDepth 20000 in
theorem wk_677 : (Jvm.Cond.methodLink "RowPresolve$RowRules" (102 : Nat) ({ cls := "RowPresolve$RowRules", name := "holdAtEnd", desc := "(IZ)Z" } : Jvm.MethodName)) ∈ gtbl := gt3 117 rfl rfl
set_option maxRecDepth 20000 in
theorem wk_679 : (Jvm.Cond.instanceMethod ({ cls := "RowPresolve$RowRules", name := "holdAtEnd", desc := "(IZ)Z" } : Jvm.MethodName)) ∈ gtbl := gt3 119 rfl rfl
set_option maxRecDepth 20000 in
theorem wk_680 : (Jvm.Cond.code ({ cls := "RowPresolve$RowRules", name := "holdAtEnd", desc := "(IZ)Z" } : Jvm.MethodName) prog_6_method_10_code (10 : Nat) (Option.some Jvm.ClassFile.FieldType.boolean)) ∈ gtbl := gt3 120 rfl rfl
set_option maxRecDepth 20000 in
theorem wk_681 : (Jvm.Cond.methodLink "RowPresolve$Rounds" (76 : Nat) ({ cls := "RowPresolve$RowRules", name := "tighten", desc := "(I)Z" } : Jvm.MethodName)) ∈ gtbl := gt3 121 rfl rfl
set_option maxRecDepth 20000 in
theorem wk_682 : (Jvm.Cond.instanceMethod ({ cls := "RowPresolve$RowRules", name := "tighten", desc := "(I)Z" } : Jvm.MethodName)) ∈ gtbl := gt3 122 rfl rfl
set_option maxRecDepth 20000 in
theorem wk_683 : (Jvm.Cond.selects "RowPresolve$RowRules" ({ cls := "RowPresolve$RowRules", name := "tighten", desc := "(I)Z" } : Jvm.MethodName) ({ cls := "RowPresolve$RowRules", name := "tighten", desc := "(I)Z" } : Jvm.MethodName)) ∈ gtbl := gt3 123 rfl rfl
set_option maxRecDepth 20000 in
theorem wk_684 : (Jvm.Cond.code ({ cls := "RowPresolve$RowRules", name := "tighten", desc := "(I)Z" } : Jvm.MethodName) prog_6_method_11_code (4 : Nat) (Option.some Jvm.ClassFile.FieldType.boolean)) ∈ gtbl := gt3 124 rfl rfl
set_option maxRecDepth 20000 in
theorem wk_685 : (Jvm.Cond.methodLink "RowPresolve$RowRules" (112 : Nat) ({ cls := "RowPresolve$RowRules", name := "tightenTerm", desc := "(IIZ)Z" } : Jvm.MethodName)) ∈ gtbl := gt3 125 rfl rfl
set_option maxRecDepth 20000 in
theorem wk_687 : (Jvm.Cond.instanceMethod ({ cls := "RowPresolve$RowRules", name := "tightenTerm", desc := "(IIZ)Z" } : Jvm.MethodName)) ∈ gtbl := gt3 127 rfl rfl
set_option maxRecDepth 20000 in
theorem wk_688 : (Jvm.Cond.code ({ cls := "RowPresolve$RowRules", name := "tightenTerm", desc := "(IIZ)Z" } : Jvm.MethodName) prog_6_method_12_code (9 : Nat) (Option.some Jvm.ClassFile.FieldType.boolean)) ∈ gtbl := gt3 128 rfl rfl
set_option maxRecDepth 20000 in
theorem wk_689 : (Jvm.Cond.methodLink "RowPresolve$Rounds" (79 : Nat) ({ cls := "RowPresolve$ColumnRules", name := "fix", desc := "(I)Z" } : Jvm.MethodName)) ∈ gtbl := gt3 129 rfl rfl
set_option maxRecDepth 20000 in
theorem wk_690 : (Jvm.Cond.instanceMethod ({ cls := "RowPresolve$ColumnRules", name := "fix", desc := "(I)Z" } : Jvm.MethodName)) ∈ gtbl := gt3 130 rfl rfl
set_option maxRecDepth 20000 in
theorem wk_691 : (Jvm.Cond.selects "RowPresolve$ColumnRules" ({ cls := "RowPresolve$ColumnRules", name := "fix", desc := "(I)Z" } : Jvm.MethodName) ({ cls := "RowPresolve$ColumnRules", name := "fix", desc := "(I)Z" } : Jvm.MethodName)) ∈ gtbl := gt3 131 rfl rfl
set_option maxRecDepth 20000 in
theorem wk_692 : (Jvm.Cond.code ({ cls := "RowPresolve$ColumnRules", name := "fix", desc := "(I)Z" } : Jvm.MethodName) prog_3_method_2_code (6 : Nat) (Option.some Jvm.ClassFile.FieldType.boolean)) ∈ gtbl := gt3 132 rfl rfl
set_option maxRecDepth 20000 in
theorem wk_693 : (Jvm.Cond.methodLink "RowPresolve$ColumnRules" (42 : Nat) ({ cls := "RowPresolve$Table", name := "isGone", desc := "(I)Z" } : Jvm.MethodName)) ∈ gtbl := gt3 133 rfl rfl
set_option maxRecDepth 20000 in
theorem wk_694 : (Jvm.Cond.methodLink "RowPresolve$ColumnRules" (73 : Nat) ({ cls := "RowPresolve$Acts", name := "note", desc := "(IIIIJ)V" } : Jvm.MethodName)) ∈ gtbl := gt3 134 rfl rfl
set_option maxRecDepth 20000 in
theorem wk_695 : (Jvm.Cond.methodLink "RowPresolve$Rounds" (82 : Nat) ({ cls := "RowPresolve$RowRules", name := "leaveTwins", desc := "(I)Z" } : Jvm.MethodName)) ∈ gtbl := gt3 135 rfl rfl
set_option maxRecDepth 20000 in
theorem wk_696 : (Jvm.Cond.instanceMethod ({ cls := "RowPresolve$RowRules", name := "leaveTwins", desc := "(I)Z" } : Jvm.MethodName)) ∈ gtbl := gt3 136 rfl rfl
set_option maxRecDepth 20000 in
theorem wk_697 : (Jvm.Cond.selects "RowPresolve$RowRules" ({ cls := "RowPresolve$RowRules", name := "leaveTwins", desc := "(I)Z" } : Jvm.MethodName) ({ cls := "RowPresolve$RowRules", name := "leaveTwins", desc := "(I)Z" } : Jvm.MethodName)) ∈ gtbl := gt3 137 rfl rfl
set_option maxRecDepth 20000 in
theorem wk_698 : (Jvm.Cond.code ({ cls := "RowPresolve$RowRules", name := "leaveTwins", desc := "(I)Z" } : Jvm.MethodName) prog_6_method_13_code (3 : Nat) (Option.some Jvm.ClassFile.FieldType.boolean)) ∈ gtbl := gt3 138 rfl rfl
set_option maxRecDepth 20000 in
theorem wk_699 : (Jvm.Cond.methodLink "RowPresolve$RowRules" (119 : Nat) ({ cls := "RowPresolve$Table", name := "isGone", desc := "(I)Z" } : Jvm.MethodName)) ∈ gtbl := gt3 139 rfl rfl
set_option maxRecDepth 20000 in
theorem wk_700 : (Jvm.Cond.methodLink "RowPresolve$RowRules" (122 : Nat) ({ cls := "RowPresolve$RowRules", name := "comparePair", desc := "(II)Z" } : Jvm.MethodName)) ∈ gtbl := gt3 140 rfl rfl
set_option maxRecDepth 20000 in
theorem wk_702 : (Jvm.Cond.instanceMethod ({ cls := "RowPresolve$RowRules", name := "comparePair", desc := "(II)Z" } : Jvm.MethodName)) ∈ gtbl := gt3 142 rfl rfl
set_option maxRecDepth 20000 in
theorem wk_703 : (Jvm.Cond.code ({ cls := "RowPresolve$RowRules", name := "comparePair", desc := "(II)Z" } : Jvm.MethodName) prog_6_method_14_code (3 : Nat) (Option.some Jvm.ClassFile.FieldType.boolean)) ∈ gtbl := gt3 143 rfl rfl
set_option maxRecDepth 20000 in
theorem wk_704 : (Jvm.Cond.methodLink "RowPresolve$RowRules" (126 : Nat) ({ cls := "RowPresolve$RowRules", name := "areTimes", desc := "(III)Z" } : Jvm.MethodName)) ∈ gtbl := gt3 144 rfl rfl
set_option maxRecDepth 20000 in
theorem wk_706 : (Jvm.Cond.instanceMethod ({ cls := "RowPresolve$RowRules", name := "areTimes", desc := "(III)Z" } : Jvm.MethodName)) ∈ gtbl := gt3 146 rfl rfl
set_option maxRecDepth 20000 in
theorem wk_707 : (Jvm.Cond.code ({ cls := "RowPresolve$RowRules", name := "areTimes", desc := "(III)Z" } : Jvm.MethodName) prog_6_method_15_code (5 : Nat) (Option.some Jvm.ClassFile.FieldType.boolean)) ∈ gtbl := gt3 147 rfl rfl
set_option maxRecDepth 20000 in
theorem wk_708 : (Jvm.Cond.methodLink "RowPresolve$RowRules" (130 : Nat) ({ cls := "RowPresolve$RowRules", name := "leaveAlike", desc := "(II)Z" } : Jvm.MethodName)) ∈ gtbl := gt3 148 rfl rfl
set_option maxRecDepth 20000 in
theorem wk_710 : (Jvm.Cond.instanceMethod ({ cls := "RowPresolve$RowRules", name := "leaveAlike", desc := "(II)Z" } : Jvm.MethodName)) ∈ gtbl := gt3 150 rfl rfl
set_option maxRecDepth 20000 in
theorem wk_711 : (Jvm.Cond.code ({ cls := "RowPresolve$RowRules", name := "leaveAlike", desc := "(II)Z" } : Jvm.MethodName) prog_6_method_16_code (8 : Nat) (Option.some Jvm.ClassFile.FieldType.boolean)) ∈ gtbl := gt3 151 rfl rfl
set_option maxRecDepth 20000 in
theorem wk_712 : (Jvm.Cond.methodLink "RowPresolve$RowRules" (133 : Nat) ({ cls := "RowPresolve$RowRules", name := "joinTurned", desc := "(II)Z" } : Jvm.MethodName)) ∈ gtbl := gt3 152 rfl rfl
set_option maxRecDepth 20000 in
theorem wk_714 : (Jvm.Cond.instanceMethod ({ cls := "RowPresolve$RowRules", name := "joinTurned", desc := "(II)Z" } : Jvm.MethodName)) ∈ gtbl := gt3 154 rfl rfl
set_option maxRecDepth 20000 in
theorem wk_715 : (Jvm.Cond.code ({ cls := "RowPresolve$RowRules", name := "joinTurned", desc := "(II)Z" } : Jvm.MethodName) prog_6_method_17_code (5 : Nat) (Option.some Jvm.ClassFile.FieldType.boolean)) ∈ gtbl := gt3 155 rfl rfl
set_option maxRecDepth 20000 in
theorem wk_716 : (Jvm.Cond.methodLink "RowPresolve$Rounds" (85 : Nat) ({ cls := "RowPresolve$ColumnRules", name := "moveToSide", desc := "(I)Z" } : Jvm.MethodName)) ∈ gtbl := gt3 156 rfl rfl
set_option maxRecDepth 20000 in
theorem wk_717 : (Jvm.Cond.instanceMethod ({ cls := "RowPresolve$ColumnRules", name := "moveToSide", desc := "(I)Z" } : Jvm.MethodName)) ∈ gtbl := gt3 157 rfl rfl
set_option maxRecDepth 20000 in
theorem wk_718 : (Jvm.Cond.selects "RowPresolve$ColumnRules" ({ cls := "RowPresolve$ColumnRules", name := "moveToSide", desc := "(I)Z" } : Jvm.MethodName) ({ cls := "RowPresolve$ColumnRules", name := "moveToSide", desc := "(I)Z" } : Jvm.MethodName)) ∈ gtbl := gt3 158 rfl rfl
set_option maxRecDepth 20000 in
theorem wk_719 : (Jvm.Cond.code ({ cls := "RowPresolve$ColumnRules", name := "moveToSide", desc := "(I)Z" } : Jvm.MethodName) prog_3_method_3_code (6 : Nat) (Option.some Jvm.ClassFile.FieldType.boolean)) ∈ gtbl := gt3 159 rfl rfl
set_option maxRecDepth 20000 in
theorem wk_720 : (Jvm.Cond.methodLink "RowPresolve$ColumnRules" (79 : Nat) ({ cls := "RowPresolve$ColumnRules", name := "hasOnlyTerms", desc := "(II)Z" } : Jvm.MethodName)) ∈ gtbl := gt3 160 rfl rfl
set_option maxRecDepth 20000 in
theorem wk_722 : (Jvm.Cond.instanceMethod ({ cls := "RowPresolve$ColumnRules", name := "hasOnlyTerms", desc := "(II)Z" } : Jvm.MethodName)) ∈ gtbl := gt3 162 rfl rfl
set_option maxRecDepth 20000 in
theorem wk_723 : (Jvm.Cond.code ({ cls := "RowPresolve$ColumnRules", name := "hasOnlyTerms", desc := "(II)Z" } : Jvm.MethodName) prog_3_method_4_code (6 : Nat) (Option.some Jvm.ClassFile.FieldType.boolean)) ∈ gtbl := gt3 163 rfl rfl
set_option maxRecDepth 20000 in
theorem wk_724 : (Jvm.Cond.methodLink "RowPresolve$ColumnRules" (83 : Nat) ({ cls := "RowPresolve$Table", name := "allRows", desc := "()I" } : Jvm.MethodName)) ∈ gtbl := gt3 164 rfl rfl
set_option maxRecDepth 20000 in
theorem wk_725 : (Jvm.Cond.instanceMethod ({ cls := "RowPresolve$Table", name := "allRows", desc := "()I" } : Jvm.MethodName)) ∈ gtbl := gt3 165 rfl rfl
set_option maxRecDepth 20000 in
theorem wk_726 : (Jvm.Cond.selects "RowPresolve$Table" ({ cls := "RowPresolve$Table", name := "allRows", desc := "()I" } : Jvm.MethodName) ({ cls := "RowPresolve$Table", name := "allRows", desc := "()I" } : Jvm.MethodName)) ∈ gtbl := gt3 166 rfl rfl
set_option maxRecDepth 20000 in
theorem wk_727 : (Jvm.Cond.code ({ cls := "RowPresolve$Table", name := "allRows", desc := "()I" } : Jvm.MethodName) prog_8_method_4_code (1 : Nat) (Option.some Jvm.ClassFile.FieldType.int)) ∈ gtbl := gt3 167 rfl rfl
set_option maxRecDepth 20000 in
theorem wk_728 : (Jvm.Cond.methodLink "RowPresolve$ColumnRules" (87 : Nat) ({ cls := "RowPresolve$Small", name := "narrow", desc := "(IIZJJI)Z" } : Jvm.MethodName)) ∈ gtbl := gt3 168 rfl rfl
set_option maxRecDepth 20000 in
theorem wk_729 : (Jvm.Cond.methodLink "RowPresolve$Rounds" (88 : Nat) ({ cls := "RowPresolve$ColumnRules", name := "putIn", desc := "(I)Z" } : Jvm.MethodName)) ∈ gtbl := gt3 169 rfl rfl
set_option maxRecDepth 20000 in
theorem wk_730 : (Jvm.Cond.instanceMethod ({ cls := "RowPresolve$ColumnRules", name := "putIn", desc := "(I)Z" } : Jvm.MethodName)) ∈ gtbl := gt3 170 rfl rfl
set_option maxRecDepth 20000 in
theorem wk_731 : (Jvm.Cond.selects "RowPresolve$ColumnRules" ({ cls := "RowPresolve$ColumnRules", name := "putIn", desc := "(I)Z" } : Jvm.MethodName) ({ cls := "RowPresolve$ColumnRules", name := "putIn", desc := "(I)Z" } : Jvm.MethodName)) ∈ gtbl := gt3 171 rfl rfl
set_option maxRecDepth 20000 in
theorem wk_732 : (Jvm.Cond.code ({ cls := "RowPresolve$ColumnRules", name := "putIn", desc := "(I)Z" } : Jvm.MethodName) prog_3_method_5_code (11 : Nat) (Option.some Jvm.ClassFile.FieldType.boolean)) ∈ gtbl := gt3 172 rfl rfl
set_option maxRecDepth 20000 in
theorem wk_733 : (Jvm.Cond.methodLink "RowPresolve$ColumnRules" (94 : Nat) ({ cls := "RowPresolve$Table", name := "nextTerm", desc := "(II)I" } : Jvm.MethodName)) ∈ gtbl := gt3 173 rfl rfl
set_option maxRecDepth 20000 in
theorem wk_734 : (Jvm.Cond.methodLink "RowPresolve$ColumnRules" (98 : Nat) ({ cls := "RowPresolve$Table", name := "isUnit", desc := "(II)Z" } : Jvm.MethodName)) ∈ gtbl := gt3 174 rfl rfl
set_option maxRecDepth 20000 in
theorem wk_735 : (Jvm.Cond.instanceMethod ({ cls := "RowPresolve$Table", name := "isUnit", desc := "(II)Z" } : Jvm.MethodName)) ∈ gtbl := gt3 175 rfl rfl
set_option maxRecDepth 20000 in
theorem wk_736 : (Jvm.Cond.selects "RowPresolve$Table" ({ cls := "RowPresolve$Table", name := "isUnit", desc := "(II)Z" } : Jvm.MethodName) ({ cls := "RowPresolve$Table", name := "isUnit", desc := "(II)Z" } : Jvm.MethodName)) ∈ gtbl := gt3 176 rfl rfl
set_option maxRecDepth 20000 in
theorem wk_737 : (Jvm.Cond.code ({ cls := "RowPresolve$Table", name := "isUnit", desc := "(II)Z" } : Jvm.MethodName) prog_8_method_9_code (3 : Nat) (Option.some Jvm.ClassFile.FieldType.boolean)) ∈ gtbl := gt3 177 rfl rfl
set_option maxRecDepth 20000 in
theorem wk_738 : (Jvm.Cond.constantLong "RowPresolve$Table" (49 : Nat) (-1 : Int64)) ∈ gtbl := gt3 178 rfl rfl
set_option maxRecDepth 20000 in
theorem wk_739 : (Jvm.Cond.methodLink "RowPresolve$ColumnRules" (101 : Nat) ({ cls := "RowPresolve$ColumnRules", name := "staysWithin", desc := "(II)Z" } : Jvm.MethodName)) ∈ gtbl := gt3 179 rfl rfl
set_option maxRecDepth 20000 in
theorem wk_741 : (Jvm.Cond.instanceMethod ({ cls := "RowPresolve$ColumnRules", name := "staysWithin", desc := "(II)Z" } : Jvm.MethodName)) ∈ gtbl := gt3 181 rfl rfl
set_option maxRecDepth 20000 in
theorem wk_742 : (Jvm.Cond.code ({ cls := "RowPresolve$ColumnRules", name := "staysWithin", desc := "(II)Z" } : Jvm.MethodName) prog_3_method_9_code (6 : Nat) (Option.some Jvm.ClassFile.FieldType.boolean)) ∈ gtbl := gt3 182 rfl rfl
set_option maxRecDepth 20000 in
theorem wk_743 : (Jvm.Cond.constantLong "RowPresolve$ColumnRules" (123 : Nat) (1000000000000000 : Int64)) ∈ gtbl := gt3 183 rfl rfl
set_option maxRecDepth 20000 in
theorem wk_745 : (Jvm.Cond.methodLink "RowPresolve$ColumnRules" (104 : Nat) ({ cls := "RowPresolve$ColumnRules", name := "factorOf", desc := "(III)J" } : Jvm.MethodName)) ∈ gtbl := gt3 185 rfl rfl
set_option maxRecDepth 20000 in
theorem wk_747 : (Jvm.Cond.instanceMethod ({ cls := "RowPresolve$ColumnRules", name := "factorOf", desc := "(III)J" } : Jvm.MethodName)) ∈ gtbl := gt3 187 rfl rfl
set_option maxRecDepth 20000 in
theorem wk_748 : (Jvm.Cond.code ({ cls := "RowPresolve$ColumnRules", name := "factorOf", desc := "(III)J" } : Jvm.MethodName) prog_3_method_8_code (4 : Nat) (Option.some Jvm.ClassFile.FieldType.long)) ∈ gtbl := gt3 188 rfl rfl
set_option maxRecDepth 20000 in
theorem wk_749 : (Jvm.Cond.constantLong "RowPresolve$ColumnRules" (132 : Nat) (1000000 : Int64)) ∈ gtbl := gt3 189 rfl rfl
set_option maxRecDepth 20000 in
theorem wk_750 : (Jvm.Cond.methodLink "RowPresolve$ColumnRules" (134 : Nat) ({ cls := "RowPresolve$ColumnRules", name := "rowStaysWithin", desc := "(III)Z" } : Jvm.MethodName)) ∈ gtbl := gt3 190 rfl rfl
set_option maxRecDepth 20000 in
theorem wk_752 : (Jvm.Cond.instanceMethod ({ cls := "RowPresolve$ColumnRules", name := "rowStaysWithin", desc := "(III)Z" } : Jvm.MethodName)) ∈ gtbl := gt3 192 rfl rfl
set_option maxRecDepth 20000 in
theorem wk_753 : (Jvm.Cond.code ({ cls := "RowPresolve$ColumnRules", name := "rowStaysWithin", desc := "(III)Z" } : Jvm.MethodName) prog_3_method_10_code (9 : Nat) (Option.some Jvm.ClassFile.FieldType.boolean)) ∈ gtbl := gt3 193 rfl rfl
set_option maxRecDepth 20000 in
theorem wk_754 : (Jvm.Cond.constantLong "RowPresolve$ColumnRules" (138 : Nat) (100000000000 : Int64)) ∈ gtbl := gt3 194 rfl rfl
set_option maxRecDepth 20000 in
theorem wk_755 : (Jvm.Cond.methodLink "RowPresolve$ColumnRules" (108 : Nat) ({ cls := "RowPresolve$ColumnRules", name := "putInFor", desc := "(II)V" } : Jvm.MethodName)) ∈ gtbl := gt3 195 rfl rfl
set_option maxRecDepth 20000 in
theorem wk_757 : (Jvm.Cond.instanceMethod ({ cls := "RowPresolve$ColumnRules", name := "putInFor", desc := "(II)V" } : Jvm.MethodName)) ∈ gtbl := gt3 197 rfl rfl
set_option maxRecDepth 20000 in
theorem wk_758 : (Jvm.Cond.code ({ cls := "RowPresolve$ColumnRules", name := "putInFor", desc := "(II)V" } : Jvm.MethodName) prog_3_method_11_code (6 : Nat) (Option.none : Option Jvm.ClassFile.FieldType)) ∈ gtbl := gt3 198 rfl rfl
set_option maxRecDepth 20000 in
theorem wk_759 : (Jvm.Cond.methodLink "RowPresolve$ColumnRules" (140 : Nat) ({ cls := "RowPresolve$ColumnRules", name := "recordPutIn", desc := "(IIJ)V" } : Jvm.MethodName)) ∈ gtbl := gt3 199 rfl rfl
set_option maxRecDepth 20000 in
theorem wk_761 : (Jvm.Cond.instanceMethod ({ cls := "RowPresolve$ColumnRules", name := "recordPutIn", desc := "(IIJ)V" } : Jvm.MethodName)) ∈ gtbl := gt3 201 rfl rfl
set_option maxRecDepth 20000 in
theorem wk_762 : (Jvm.Cond.code ({ cls := "RowPresolve$ColumnRules", name := "recordPutIn", desc := "(IIJ)V" } : Jvm.MethodName) prog_3_method_12_code (7 : Nat) (Option.none : Option Jvm.ClassFile.FieldType)) ∈ gtbl := gt3 202 rfl rfl
set_option maxRecDepth 20000 in
theorem wk_763 : (Jvm.Cond.methodLink "RowPresolve$ColumnRules" (144 : Nat) ({ cls := "RowPresolve$ColumnRules", name := "putInRow", desc := "(III)V" } : Jvm.MethodName)) ∈ gtbl := gt3 203 rfl rfl
set_option maxRecDepth 20000 in
theorem wk_765 : (Jvm.Cond.instanceMethod ({ cls := "RowPresolve$ColumnRules", name := "putInRow", desc := "(III)V" } : Jvm.MethodName)) ∈ gtbl := gt3 205 rfl rfl
set_option maxRecDepth 20000 in
theorem wk_766 : (Jvm.Cond.code ({ cls := "RowPresolve$ColumnRules", name := "putInRow", desc := "(III)V" } : Jvm.MethodName) prog_3_method_13_code (7 : Nat) (Option.none : Option Jvm.ClassFile.FieldType)) ∈ gtbl := gt3 206 rfl rfl
set_option maxRecDepth 20000 in
theorem wk_767 : (Jvm.Cond.methodLink "RowPresolve$Rounds" (91 : Nat) ({ cls := "RowPresolve$RowRules", name := "makeLess", desc := "(I)Z" } : Jvm.MethodName)) ∈ gtbl := gt3 207 rfl rfl
set_option maxRecDepth 20000 in
theorem wk_768 : (Jvm.Cond.instanceMethod ({ cls := "RowPresolve$RowRules", name := "makeLess", desc := "(I)Z" } : Jvm.MethodName)) ∈ gtbl := gt3 208 rfl rfl
set_option maxRecDepth 20000 in
theorem wk_769 : (Jvm.Cond.selects "RowPresolve$RowRules" ({ cls := "RowPresolve$RowRules", name := "makeLess", desc := "(I)Z" } : Jvm.MethodName) ({ cls := "RowPresolve$RowRules", name := "makeLess", desc := "(I)Z" } : Jvm.MethodName)) ∈ gtbl := gt3 209 rfl rfl
set_option maxRecDepth 20000 in
theorem wk_770 : (Jvm.Cond.code ({ cls := "RowPresolve$RowRules", name := "makeLess", desc := "(I)Z" } : Jvm.MethodName) prog_6_method_18_code (3 : Nat) (Option.some Jvm.ClassFile.FieldType.boolean)) ∈ gtbl := gt3 210 rfl rfl
set_option maxRecDepth 20000 in
theorem wk_771 : (Jvm.Cond.methodLink "RowPresolve$RowRules" (136 : Nat) ({ cls := "RowPresolve$Table", name := "isBinary", desc := "(I)Z" } : Jvm.MethodName)) ∈ gtbl := gt3 211 rfl rfl
set_option maxRecDepth 20000 in
theorem wk_772 : (Jvm.Cond.instanceMethod ({ cls := "RowPresolve$Table", name := "isBinary", desc := "(I)Z" } : Jvm.MethodName)) ∈ gtbl := gt3 212 rfl rfl
set_option maxRecDepth 20000 in
theorem wk_773 : (Jvm.Cond.selects "RowPresolve$Table" ({ cls := "RowPresolve$Table", name := "isBinary", desc := "(I)Z" } : Jvm.MethodName) ({ cls := "RowPresolve$Table", name := "isBinary", desc := "(I)Z" } : Jvm.MethodName)) ∈ gtbl := gt3 213 rfl rfl
set_option maxRecDepth 20000 in
theorem wk_774 : (Jvm.Cond.code ({ cls := "RowPresolve$Table", name := "isBinary", desc := "(I)Z" } : Jvm.MethodName) prog_8_method_10_code (2 : Nat) (Option.some Jvm.ClassFile.FieldType.boolean)) ∈ gtbl := gt3 214 rfl rfl
set_option maxRecDepth 20000 in
theorem wk_775 : (Jvm.Cond.methodLink "RowPresolve$RowRules" (139 : Nat) ({ cls := "RowPresolve$RowRules", name := "makeTermLess", desc := "(II)V" } : Jvm.MethodName)) ∈ gtbl := gt3 215 rfl rfl
set_option maxRecDepth 20000 in
theorem wk_777 : (Jvm.Cond.instanceMethod ({ cls := "RowPresolve$RowRules", name := "makeTermLess", desc := "(II)V" } : Jvm.MethodName)) ∈ gtbl := gt3 217 rfl rfl
set_option maxRecDepth 20000 in
theorem wk_778 : (Jvm.Cond.code ({ cls := "RowPresolve$RowRules", name := "makeTermLess", desc := "(II)V" } : Jvm.MethodName) prog_6_method_19_code (9 : Nat) (Option.none : Option Jvm.ClassFile.FieldType)) ∈ gtbl := gt3 218 rfl rfl
set_option maxRecDepth 20000 in
theorem wk_779 : (Jvm.Cond.methodLink "RowPresolve$Rounds" (94 : Nat) ({ cls := "RowPresolve$ColumnRules", name := "putInFree", desc := "(I)Z" } : Jvm.MethodName)) ∈ gtbl := gt3 219 rfl rfl
set_option maxRecDepth 20000 in
theorem wk_780 : (Jvm.Cond.instanceMethod ({ cls := "RowPresolve$ColumnRules", name := "putInFree", desc := "(I)Z" } : Jvm.MethodName)) ∈ gtbl := gt3 220 rfl rfl
set_option maxRecDepth 20000 in
theorem wk_781 : (Jvm.Cond.selects "RowPresolve$ColumnRules" ({ cls := "RowPresolve$ColumnRules", name := "putInFree", desc := "(I)Z" } : Jvm.MethodName) ({ cls := "RowPresolve$ColumnRules", name := "putInFree", desc := "(I)Z" } : Jvm.MethodName)) ∈ gtbl := gt3 221 rfl rfl
set_option maxRecDepth 20000 in
theorem wk_782 : (Jvm.Cond.code ({ cls := "RowPresolve$ColumnRules", name := "putInFree", desc := "(I)Z" } : Jvm.MethodName) prog_3_method_6_code (14 : Nat) (Option.some Jvm.ClassFile.FieldType.boolean)) ∈ gtbl := gt3 222 rfl rfl
set_option maxRecDepth 20000 in
theorem wk_783 : (Jvm.Cond.methodLink "RowPresolve$ColumnRules" (112 : Nat) ({ cls := "RowPresolve$ColumnRules", name := "onlyRow", desc := "(I)I" } : Jvm.MethodName)) ∈ gtbl := gt3 223 rfl rfl
set_option maxRecDepth 20000 in
theorem wk_785 : (Jvm.Cond.instanceMethod ({ cls := "RowPresolve$ColumnRules", name := "onlyRow", desc := "(I)I" } : Jvm.MethodName)) ∈ gtbl := gt3 225 rfl rfl
set_option maxRecDepth 20000 in
theorem wk_786 : (Jvm.Cond.code ({ cls := "RowPresolve$ColumnRules", name := "onlyRow", desc := "(I)I" } : Jvm.MethodName) prog_3_method_7_code (4 : Nat) (Option.some Jvm.ClassFile.FieldType.int)) ∈ gtbl := gt3 226 rfl rfl
set_option maxRecDepth 20000 in
theorem wk_787 : (Jvm.Cond.methodLink "RowPresolve$ColumnRules" (116 : Nat) ({ cls := "RowPresolve$Table", name := "countTerms", desc := "(I)I" } : Jvm.MethodName)) ∈ gtbl := gt3 227 rfl rfl
set_option maxRecDepth 20000 in
theorem wk_788 : (Jvm.Cond.methodLink "RowPresolve$ColumnRules" (119 : Nat) ({ cls := "RowPresolve$Small", name := "reach", desc := "(IIZ)J" } : Jvm.MethodName)) ∈ gtbl := gt3 228 rfl rfl
set_option maxRecDepth 20000 in
theorem wk_793 : (Jvm.Cond.instanceMethod ({ cls := "RowPresolve", name := "state", desc := "(I)I" } : Jvm.MethodName)) ∈ gtbl := gt3 233 rfl rfl
set_option maxRecDepth 20000 in
theorem wk_794 : (Jvm.Cond.selects "RowPresolve" ({ cls := "RowPresolve", name := "state", desc := "(I)I" } : Jvm.MethodName) ({ cls := "RowPresolve", name := "state", desc := "(I)I" } : Jvm.MethodName)) ∈ gtbl := gt3 234 rfl rfl
set_option maxRecDepth 20000 in
theorem wk_795 : (Jvm.Cond.code ({ cls := "RowPresolve", name := "state", desc := "(I)I" } : Jvm.MethodName) prog_1_method_7_code (2 : Nat) (Option.some Jvm.ClassFile.FieldType.int)) ∈ gtbl := gt3 235 rfl rfl
set_option maxRecDepth 20000 in
theorem wk_796 : (Jvm.Cond.methodLink "RowPresolve" (151 : Nat) ({ cls := "RowPresolve", name := "needSmall", desc := "()V" } : Jvm.MethodName)) ∈ gtbl := gt3 236 rfl rfl
set_option maxRecDepth 20000 in
theorem wk_798 : (Jvm.Cond.instanceMethod ({ cls := "RowPresolve", name := "needSmall", desc := "()V" } : Jvm.MethodName)) ∈ gtbl := gt3 238 rfl rfl
set_option maxRecDepth 20000 in
theorem wk_799 : (Jvm.Cond.code ({ cls := "RowPresolve", name := "needSmall", desc := "()V" } : Jvm.MethodName) prog_1_method_33_code (1 : Nat) (Option.none : Option Jvm.ClassFile.FieldType)) ∈ gtbl := gt3 239 rfl rfl
set_option maxRecDepth 20000 in
theorem wk_805 : (Jvm.Cond.instanceMethod ({ cls := "RowPresolve", name := "bound", desc := "(IZ)I" } : Jvm.MethodName)) ∈ gtbl := gt4 5 rfl rfl
set_option maxRecDepth 20000 in
theorem wk_806 : (Jvm.Cond.selects "RowPresolve" ({ cls := "RowPresolve", name := "bound", desc := "(IZ)I" } : Jvm.MethodName) ({ cls := "RowPresolve", name := "bound", desc := "(IZ)I" } : Jvm.MethodName)) ∈ gtbl := gt4 6 rfl rfl
set_option maxRecDepth 20000 in
theorem wk_807 : (Jvm.Cond.code ({ cls := "RowPresolve", name := "bound", desc := "(IZ)I" } : Jvm.MethodName) prog_1_method_8_code (3 : Nat) (Option.some Jvm.ClassFile.FieldType.int)) ∈ gtbl := gt4 7 rfl rfl
set_option maxRecDepth 20000 in
theorem wk_812 : (Jvm.Cond.instanceMethod ({ cls := "RowPresolve", name := "cost", desc := "(I)I" } : Jvm.MethodName)) ∈ gtbl := gt4 12 rfl rfl
set_option maxRecDepth 20000 in
theorem wk_813 : (Jvm.Cond.selects "RowPresolve" ({ cls := "RowPresolve", name := "cost", desc := "(I)I" } : Jvm.MethodName) ({ cls := "RowPresolve", name := "cost", desc := "(I)I" } : Jvm.MethodName)) ∈ gtbl := gt4 13 rfl rfl
set_option maxRecDepth 20000 in
theorem wk_814 : (Jvm.Cond.code ({ cls := "RowPresolve", name := "cost", desc := "(I)I" } : Jvm.MethodName) prog_1_method_9_code (2 : Nat) (Option.some Jvm.ClassFile.FieldType.int)) ∈ gtbl := gt4 14 rfl rfl
set_option maxRecDepth 20000 in
theorem wk_815 : (Jvm.Cond.methodLink "RowPresolve" (160 : Nat) ({ cls := "RowPresolve$Table", name := "isThere", desc := "(I)Z" } : Jvm.MethodName)) ∈ gtbl := gt4 15 rfl rfl
set_option maxRecDepth 20000 in
theorem wk_820 : (Jvm.Cond.instanceMethod ({ cls := "RowPresolve", name := "kind", desc := "(I)I" } : Jvm.MethodName)) ∈ gtbl := gt4 20 rfl rfl
set_option maxRecDepth 20000 in
theorem wk_821 : (Jvm.Cond.selects "RowPresolve" ({ cls := "RowPresolve", name := "kind", desc := "(I)I" } : Jvm.MethodName) ({ cls := "RowPresolve", name := "kind", desc := "(I)I" } : Jvm.MethodName)) ∈ gtbl := gt4 21 rfl rfl
set_option maxRecDepth 20000 in
theorem wk_822 : (Jvm.Cond.code ({ cls := "RowPresolve", name := "kind", desc := "(I)I" } : Jvm.MethodName) prog_1_method_10_code (2 : Nat) (Option.some Jvm.ClassFile.FieldType.int)) ∈ gtbl := gt4 22 rfl rfl
set_option maxRecDepth 20000 in
theorem wk_827 : (Jvm.Cond.instanceMethod ({ cls := "RowPresolve", name := "right", desc := "(I)J" } : Jvm.MethodName)) ∈ gtbl := gt4 27 rfl rfl
set_option maxRecDepth 20000 in
theorem wk_828 : (Jvm.Cond.selects "RowPresolve" ({ cls := "RowPresolve", name := "right", desc := "(I)J" } : Jvm.MethodName) ({ cls := "RowPresolve", name := "right", desc := "(I)J" } : Jvm.MethodName)) ∈ gtbl := gt4 28 rfl rfl
set_option maxRecDepth 20000 in
theorem wk_829 : (Jvm.Cond.code ({ cls := "RowPresolve", name := "right", desc := "(I)J" } : Jvm.MethodName) prog_1_method_11_code (2 : Nat) (Option.some Jvm.ClassFile.FieldType.long)) ∈ gtbl := gt4 29 rfl rfl
set_option maxRecDepth 20000 in
theorem wk_834 : (Jvm.Cond.instanceMethod ({ cls := "RowPresolve", name := "coefficient", desc := "(II)I" } : Jvm.MethodName)) ∈ gtbl := gt4 34 rfl rfl
set_option maxRecDepth 20000 in
theorem wk_835 : (Jvm.Cond.selects "RowPresolve" ({ cls := "RowPresolve", name := "coefficient", desc := "(II)I" } : Jvm.MethodName) ({ cls := "RowPresolve", name := "coefficient", desc := "(II)I" } : Jvm.MethodName)) ∈ gtbl := gt4 35 rfl rfl
set_option maxRecDepth 20000 in
theorem wk_836 : (Jvm.Cond.code ({ cls := "RowPresolve", name := "coefficient", desc := "(II)I" } : Jvm.MethodName) prog_1_method_12_code (3 : Nat) (Option.some Jvm.ClassFile.FieldType.int)) ∈ gtbl := gt4 36 rfl rfl
set_option maxRecDepth 20000 in
theorem wk_837 : (Jvm.Cond.methodLink "RowPresolve" (163 : Nat) ({ cls := "RowPresolve$Table", name := "isGone", desc := "(I)Z" } : Jvm.MethodName)) ∈ gtbl := gt4 37 rfl rfl
set_option maxRecDepth 20000 in
theorem wk_842 : (Jvm.Cond.instanceMethod ({ cls := "RowPresolve", name := "offset", desc := "()J" } : Jvm.MethodName)) ∈ gtbl := gt4 42 rfl rfl
set_option maxRecDepth 20000 in
theorem wk_843 : (Jvm.Cond.selects "RowPresolve" ({ cls := "RowPresolve", name := "offset", desc := "()J" } : Jvm.MethodName) ({ cls := "RowPresolve", name := "offset", desc := "()J" } : Jvm.MethodName)) ∈ gtbl := gt4 43 rfl rfl
set_option maxRecDepth 20000 in
theorem wk_844 : (Jvm.Cond.code ({ cls := "RowPresolve", name := "offset", desc := "()J" } : Jvm.MethodName) prog_1_method_13_code (1 : Nat) (Option.some Jvm.ClassFile.FieldType.long)) ∈ gtbl := gt4 44 rfl rfl
set_option maxRecDepth 20000 in
theorem wk_849 : (Jvm.Cond.instanceMethod ({ cls := "RowPresolve", name := "rest", desc := "(II)I" } : Jvm.MethodName)) ∈ gtbl := gt4 49 rfl rfl
set_option maxRecDepth 20000 in
theorem wk_850 : (Jvm.Cond.selects "RowPresolve" ({ cls := "RowPresolve", name := "rest", desc := "(II)I" } : Jvm.MethodName) ({ cls := "RowPresolve", name := "rest", desc := "(II)I" } : Jvm.MethodName)) ∈ gtbl := gt4 50 rfl rfl
set_option maxRecDepth 20000 in
theorem wk_851 : (Jvm.Cond.code ({ cls := "RowPresolve", name := "rest", desc := "(II)I" } : Jvm.MethodName) prog_1_method_14_code (3 : Nat) (Option.some Jvm.ClassFile.FieldType.int)) ∈ gtbl := gt4 51 rfl rfl
set_option maxRecDepth 20000 in
theorem wk_857 : (Jvm.Cond.instanceMethod ({ cls := "RowPresolve", name := "certificate", desc := "()I" } : Jvm.MethodName)) ∈ gtbl := gt4 57 rfl rfl
set_option maxRecDepth 20000 in
theorem wk_858 : (Jvm.Cond.selects "RowPresolve" ({ cls := "RowPresolve", name := "certificate", desc := "()I" } : Jvm.MethodName) ({ cls := "RowPresolve", name := "certificate", desc := "()I" } : Jvm.MethodName)) ∈ gtbl := gt4 58 rfl rfl
set_option maxRecDepth 20000 in
theorem wk_859 : (Jvm.Cond.code ({ cls := "RowPresolve", name := "certificate", desc := "()I" } : Jvm.MethodName) prog_1_method_15_code (1 : Nat) (Option.some Jvm.ClassFile.FieldType.int)) ∈ gtbl := gt4 59 rfl rfl
set_option maxRecDepth 20000 in
theorem wk_864 : (Jvm.Cond.instanceMethod ({ cls := "RowPresolve", name := "certified", desc := "()I" } : Jvm.MethodName)) ∈ gtbl := gt4 64 rfl rfl
set_option maxRecDepth 20000 in
theorem wk_865 : (Jvm.Cond.selects "RowPresolve" ({ cls := "RowPresolve", name := "certified", desc := "()I" } : Jvm.MethodName) ({ cls := "RowPresolve", name := "certified", desc := "()I" } : Jvm.MethodName)) ∈ gtbl := gt4 65 rfl rfl
set_option maxRecDepth 20000 in
theorem wk_866 : (Jvm.Cond.code ({ cls := "RowPresolve", name := "certified", desc := "()I" } : Jvm.MethodName) prog_1_method_16_code (3 : Nat) (Option.some Jvm.ClassFile.FieldType.int)) ∈ gtbl := gt4 66 rfl rfl
set_option maxRecDepth 20000 in
theorem wk_867 : (Jvm.Cond.methodLink "RowPresolve" (184 : Nat) ({ cls := "RowPresolve$Small", name := "isImpossible", desc := "()Z" } : Jvm.MethodName)) ∈ gtbl := gt4 67 rfl rfl
set_option maxRecDepth 20000 in
theorem wk_868 : (Jvm.Cond.instanceMethod ({ cls := "RowPresolve$Small", name := "isImpossible", desc := "()Z" } : Jvm.MethodName)) ∈ gtbl := gt4 68 rfl rfl
set_option maxRecDepth 20000 in
theorem wk_869 : (Jvm.Cond.selects "RowPresolve$Small" ({ cls := "RowPresolve$Small", name := "isImpossible", desc := "()Z" } : Jvm.MethodName) ({ cls := "RowPresolve$Small", name := "isImpossible", desc := "()Z" } : Jvm.MethodName)) ∈ gtbl := gt4 69 rfl rfl
set_option maxRecDepth 20000 in
theorem wk_870 : (Jvm.Cond.code ({ cls := "RowPresolve$Small", name := "isImpossible", desc := "()Z" } : Jvm.MethodName) prog_7_method_3_code (1 : Nat) (Option.some Jvm.ClassFile.FieldType.boolean)) ∈ gtbl := gt4 70 rfl rfl
set_option maxRecDepth 20000 in
theorem wk_872 : (Jvm.Cond.methodLink "RowPresolve" (190 : Nat) ({ cls := "RowPresolve$Table", name := "countPoints", desc := "()I" } : Jvm.MethodName)) ∈ gtbl := gt4 72 rfl rfl
set_option maxRecDepth 20000 in
theorem wk_873 : (Jvm.Cond.instanceMethod ({ cls := "RowPresolve$Table", name := "countPoints", desc := "()I" } : Jvm.MethodName)) ∈ gtbl := gt4 73 rfl rfl
set_option maxRecDepth 20000 in
theorem wk_874 : (Jvm.Cond.selects "RowPresolve$Table" ({ cls := "RowPresolve$Table", name := "countPoints", desc := "()I" } : Jvm.MethodName) ({ cls := "RowPresolve$Table", name := "countPoints", desc := "()I" } : Jvm.MethodName)) ∈ gtbl := gt4 74 rfl rfl
set_option maxRecDepth 20000 in
theorem wk_875 : (Jvm.Cond.code ({ cls := "RowPresolve$Table", name := "countPoints", desc := "()I" } : Jvm.MethodName) prog_8_method_11_code (4 : Nat) (Option.some Jvm.ClassFile.FieldType.int)) ∈ gtbl := gt4 75 rfl rfl
set_option maxRecDepth 20000 in
theorem wk_876 : (Jvm.Cond.methodLink "RowPresolve$Table" (51 : Nat) ({ cls := "RowPresolve$Table", name := "isThere", desc := "(I)Z" } : Jvm.MethodName)) ∈ gtbl := gt4 76 rfl rfl
set_option maxRecDepth 20000 in
theorem wk_877 : (Jvm.Cond.constantLong "RowPresolve$Table" (55 : Nat) (4000 : Int64)) ∈ gtbl := gt4 77 rfl rfl
set_option maxRecDepth 20000 in
theorem wk_878 : (Jvm.Cond.methodLink "RowPresolve" (194 : Nat) ({ cls := "RowPresolve$Walk", name := "beginAt", desc := "(LRowPresolve$Table;)V" } : Jvm.MethodName)) ∈ gtbl := gt4 78 rfl rfl
set_option maxRecDepth 20000 in
theorem wk_879 : (Jvm.Cond.instanceMethod ({ cls := "RowPresolve$Walk", name := "beginAt", desc := "(LRowPresolve$Table;)V" } : Jvm.MethodName)) ∈ gtbl := gt4 79 rfl rfl
set_option maxRecDepth 20000 in
theorem wk_880 : (Jvm.Cond.selects "RowPresolve$Walk" ({ cls := "RowPresolve$Walk", name := "beginAt", desc := "(LRowPresolve$Table;)V" } : Jvm.MethodName) ({ cls := "RowPresolve$Walk", name := "beginAt", desc := "(LRowPresolve$Table;)V" } : Jvm.MethodName)) ∈ gtbl := gt4 80 rfl rfl
set_option maxRecDepth 20000 in
theorem wk_881 : (Jvm.Cond.code ({ cls := "RowPresolve$Walk", name := "beginAt", desc := "(LRowPresolve$Table;)V" } : Jvm.MethodName) prog_9_method_2_code (3 : Nat) (Option.none : Option Jvm.ClassFile.FieldType)) ∈ gtbl := gt4 81 rfl rfl
set_option maxRecDepth 20000 in
theorem wk_882 : (Jvm.Cond.methodLink "RowPresolve$Walk" (32 : Nat) ({ cls := "RowPresolve$Table", name := "isThere", desc := "(I)Z" } : Jvm.MethodName)) ∈ gtbl := gt4 82 rfl rfl
set_option maxRecDepth 20000 in
theorem wk_883 : (Jvm.Cond.methodLink "RowPresolve$Walk" (39 : Nat) ({ cls := "RowPresolve$Walk", name := "step", desc := "(IJ)V" } : Jvm.MethodName)) ∈ gtbl := gt4 83 rfl rfl
set_option maxRecDepth 20000 in
theorem wk_885 : (Jvm.Cond.instanceMethod ({ cls := "RowPresolve$Walk", name := "step", desc := "(IJ)V" } : Jvm.MethodName)) ∈ gtbl := gt4 85 rfl rfl
set_option maxRecDepth 20000 in
theorem wk_886 : (Jvm.Cond.code ({ cls := "RowPresolve$Walk", name := "step", desc := "(IJ)V" } : Jvm.MethodName) prog_9_method_5_code (5 : Nat) (Option.none : Option Jvm.ClassFile.FieldType)) ∈ gtbl := gt4 86 rfl rfl
set_option maxRecDepth 20000 in
theorem wk_887 : (Jvm.Cond.methodLink "RowPresolve" (197 : Nat) ({ cls := "RowPresolve$Walk", name := "holdsAll", desc := "(I)Z" } : Jvm.MethodName)) ∈ gtbl := gt4 87 rfl rfl
set_option maxRecDepth 20000 in
theorem wk_888 : (Jvm.Cond.instanceMethod ({ cls := "RowPresolve$Walk", name := "holdsAll", desc := "(I)Z" } : Jvm.MethodName)) ∈ gtbl := gt4 88 rfl rfl
set_option maxRecDepth 20000 in
theorem wk_889 : (Jvm.Cond.selects "RowPresolve$Walk" ({ cls := "RowPresolve$Walk", name := "holdsAll", desc := "(I)Z" } : Jvm.MethodName) ({ cls := "RowPresolve$Walk", name := "holdsAll", desc := "(I)Z" } : Jvm.MethodName)) ∈ gtbl := gt4 89 rfl rfl
set_option maxRecDepth 20000 in
theorem wk_890 : (Jvm.Cond.code ({ cls := "RowPresolve$Walk", name := "holdsAll", desc := "(I)Z" } : Jvm.MethodName) prog_9_method_4_code (3 : Nat) (Option.some Jvm.ClassFile.FieldType.boolean)) ∈ gtbl := gt4 90 rfl rfl
set_option maxRecDepth 20000 in
theorem wk_891 : (Jvm.Cond.methodLink "RowPresolve$Walk" (49 : Nat) ({ cls := "RowPresolve$Table", name := "isHolding", desc := "(IJ)Z" } : Jvm.MethodName)) ∈ gtbl := gt4 91 rfl rfl
set_option maxRecDepth 20000 in
theorem wk_892 : (Jvm.Cond.methodLink "RowPresolve" (200 : Nat) ({ cls := "RowPresolve$Walk", name := "goOn", desc := "()V" } : Jvm.MethodName)) ∈ gtbl := gt4 92 rfl rfl
set_option maxRecDepth 20000 in
theorem wk_893 : (Jvm.Cond.instanceMethod ({ cls := "RowPresolve$Walk", name := "goOn", desc := "()V" } : Jvm.MethodName)) ∈ gtbl := gt4 93 rfl rfl
set_option maxRecDepth 20000 in
theorem wk_894 : (Jvm.Cond.selects "RowPresolve$Walk" ({ cls := "RowPresolve$Walk", name := "goOn", desc := "()V" } : Jvm.MethodName) ({ cls := "RowPresolve$Walk", name := "goOn", desc := "()V" } : Jvm.MethodName)) ∈ gtbl := gt4 94 rfl rfl
set_option maxRecDepth 20000 in
theorem wk_895 : (Jvm.Cond.code ({ cls := "RowPresolve$Walk", name := "goOn", desc := "()V" } : Jvm.MethodName) prog_9_method_3_code (2 : Nat) (Option.none : Option Jvm.ClassFile.FieldType)) ∈ gtbl := gt4 95 rfl rfl
set_option maxRecDepth 20000 in
theorem wk_900 : (Jvm.Cond.instanceMethod ({ cls := "RowPresolve", name := "acts", desc := "()I" } : Jvm.MethodName)) ∈ gtbl := gt4 100 rfl rfl
set_option maxRecDepth 20000 in
theorem wk_901 : (Jvm.Cond.selects "RowPresolve" ({ cls := "RowPresolve", name := "acts", desc := "()I" } : Jvm.MethodName) ({ cls := "RowPresolve", name := "acts", desc := "()I" } : Jvm.MethodName)) ∈ gtbl := gt4 101 rfl rfl
set_option maxRecDepth 20000 in
theorem wk_902 : (Jvm.Cond.code ({ cls := "RowPresolve", name := "acts", desc := "()I" } : Jvm.MethodName) prog_1_method_17_code (1 : Nat) (Option.some Jvm.ClassFile.FieldType.int)) ∈ gtbl := gt4 102 rfl rfl
set_option maxRecDepth 20000 in
theorem wk_907 : (Jvm.Cond.instanceMethod ({ cls := "RowPresolve", name := "act", desc := "(II)J" } : Jvm.MethodName)) ∈ gtbl := gt4 107 rfl rfl
set_option maxRecDepth 20000 in
theorem wk_908 : (Jvm.Cond.selects "RowPresolve" ({ cls := "RowPresolve", name := "act", desc := "(II)J" } : Jvm.MethodName) ({ cls := "RowPresolve", name := "act", desc := "(II)J" } : Jvm.MethodName)) ∈ gtbl := gt4 108 rfl rfl
set_option maxRecDepth 20000 in
theorem wk_909 : (Jvm.Cond.code ({ cls := "RowPresolve", name := "act", desc := "(II)J" } : Jvm.MethodName) prog_1_method_18_code (3 : Nat) (Option.some Jvm.ClassFile.FieldType.long)) ∈ gtbl := gt4 109 rfl rfl
set_option maxRecDepth 20000 in
theorem wk_910 : (Jvm.Cond.methodLink "RowPresolve" (203 : Nat) ({ cls := "RowPresolve$Acts", name := "countKept", desc := "()I" } : Jvm.MethodName)) ∈ gtbl := gt4 110 rfl rfl
set_option maxRecDepth 20000 in
theorem wk_911 : (Jvm.Cond.instanceMethod ({ cls := "RowPresolve$Acts", name := "countKept", desc := "()I" } : Jvm.MethodName)) ∈ gtbl := gt4 111 rfl rfl
set_option maxRecDepth 20000 in
theorem wk_912 : (Jvm.Cond.selects "RowPresolve$Acts" ({ cls := "RowPresolve$Acts", name := "countKept", desc := "()I" } : Jvm.MethodName) ({ cls := "RowPresolve$Acts", name := "countKept", desc := "()I" } : Jvm.MethodName)) ∈ gtbl := gt4 112 rfl rfl
set_option maxRecDepth 20000 in
theorem wk_913 : (Jvm.Cond.code ({ cls := "RowPresolve$Acts", name := "countKept", desc := "()I" } : Jvm.MethodName) prog_2_method_2_code (1 : Nat) (Option.some Jvm.ClassFile.FieldType.int)) ∈ gtbl := gt4 113 rfl rfl
set_option maxRecDepth 20000 in
theorem wk_920 : (Jvm.Cond.instanceMethod ({ cls := "RowPresolve", name := "parts", desc := "()I" } : Jvm.MethodName)) ∈ gtbl := gt4 120 rfl rfl
set_option maxRecDepth 20000 in
theorem wk_921 : (Jvm.Cond.selects "RowPresolve" ({ cls := "RowPresolve", name := "parts", desc := "()I" } : Jvm.MethodName) ({ cls := "RowPresolve", name := "parts", desc := "()I" } : Jvm.MethodName)) ∈ gtbl := gt4 121 rfl rfl
set_option maxRecDepth 20000 in
theorem wk_922 : (Jvm.Cond.code ({ cls := "RowPresolve", name := "parts", desc := "()I" } : Jvm.MethodName) prog_1_method_19_code (1 : Nat) (Option.some Jvm.ClassFile.FieldType.int)) ∈ gtbl := gt4 122 rfl rfl
set_option maxRecDepth 20000 in
theorem wk_923 : (Jvm.Cond.methodLink "RowPresolve" (216 : Nat) ({ cls := "RowPresolve$Looks", name := "countParts", desc := "()I" } : Jvm.MethodName)) ∈ gtbl := gt4 123 rfl rfl
set_option maxRecDepth 20000 in
theorem wk_924 : (Jvm.Cond.instanceMethod ({ cls := "RowPresolve$Looks", name := "countParts", desc := "()I" } : Jvm.MethodName)) ∈ gtbl := gt4 124 rfl rfl
set_option maxRecDepth 20000 in
theorem wk_925 : (Jvm.Cond.selects "RowPresolve$Looks" ({ cls := "RowPresolve$Looks", name := "countParts", desc := "()I" } : Jvm.MethodName) ({ cls := "RowPresolve$Looks", name := "countParts", desc := "()I" } : Jvm.MethodName)) ∈ gtbl := gt4 125 rfl rfl
set_option maxRecDepth 20000 in
theorem wk_926 : (Jvm.Cond.code ({ cls := "RowPresolve$Looks", name := "countParts", desc := "()I" } : Jvm.MethodName) prog_4_method_2_code (4 : Nat) (Option.some Jvm.ClassFile.FieldType.int)) ∈ gtbl := gt4 126 rfl rfl
set_option maxRecDepth 20000 in
theorem wk_927 : (Jvm.Cond.methodLink "RowPresolve$Looks" (32 : Nat) ({ cls := "RowPresolve$Table", name := "isThere", desc := "(I)Z" } : Jvm.MethodName)) ∈ gtbl := gt4 127 rfl rfl
set_option maxRecDepth 20000 in
theorem wk_928 : (Jvm.Cond.methodLink "RowPresolve$Looks" (36 : Nat) ({ cls := "RowPresolve$Looks", name := "partOf", desc := "(I)I" } : Jvm.MethodName)) ∈ gtbl := gt4 128 rfl rfl
set_option maxRecDepth 20000 in
theorem wk_930 : (Jvm.Cond.instanceMethod ({ cls := "RowPresolve$Looks", name := "partOf", desc := "(I)I" } : Jvm.MethodName)) ∈ gtbl := gt4 130 rfl rfl
set_option maxRecDepth 20000 in
theorem wk_931 : (Jvm.Cond.code ({ cls := "RowPresolve$Looks", name := "partOf", desc := "(I)I" } : Jvm.MethodName) prog_4_method_3_code (6 : Nat) (Option.some Jvm.ClassFile.FieldType.int)) ∈ gtbl := gt4 131 rfl rfl
set_option maxRecDepth 20000 in
theorem wk_932 : (Jvm.Cond.methodLink "RowPresolve$Looks" (43 : Nat) ({ cls := "RowPresolve$Table", name := "isGone", desc := "(I)Z" } : Jvm.MethodName)) ∈ gtbl := gt4 132 rfl rfl
set_option maxRecDepth 20000 in
theorem wk_933 : (Jvm.Cond.methodLink "RowPresolve$Looks" (46 : Nat) ({ cls := "RowPresolve$Looks", name := "termSet", desc := "(I)I" } : Jvm.MethodName)) ∈ gtbl := gt4 133 rfl rfl
set_option maxRecDepth 20000 in
theorem wk_935 : (Jvm.Cond.instanceMethod ({ cls := "RowPresolve$Looks", name := "termSet", desc := "(I)I" } : Jvm.MethodName)) ∈ gtbl := gt4 135 rfl rfl
set_option maxRecDepth 20000 in
theorem wk_936 : (Jvm.Cond.code ({ cls := "RowPresolve$Looks", name := "termSet", desc := "(I)I" } : Jvm.MethodName) prog_4_method_4_code (4 : Nat) (Option.some Jvm.ClassFile.FieldType.int)) ∈ gtbl := gt4 136 rfl rfl
set_option maxRecDepth 20000 in
theorem wk_941 : (Jvm.Cond.instanceMethod ({ cls := "RowPresolve", name := "clique", desc := "(I)I" } : Jvm.MethodName)) ∈ gtbl := gt4 141 rfl rfl
set_option maxRecDepth 20000 in
theorem wk_942 : (Jvm.Cond.selects "RowPresolve" ({ cls := "RowPresolve", name := "clique", desc := "(I)I" } : Jvm.MethodName) ({ cls := "RowPresolve", name := "clique", desc := "(I)I" } : Jvm.MethodName)) ∈ gtbl := gt4 142 rfl rfl
set_option maxRecDepth 20000 in
theorem wk_943 : (Jvm.Cond.code ({ cls := "RowPresolve", name := "clique", desc := "(I)I" } : Jvm.MethodName) prog_1_method_20_code (2 : Nat) (Option.some Jvm.ClassFile.FieldType.int)) ∈ gtbl := gt4 143 rfl rfl
set_option maxRecDepth 20000 in
theorem wk_944 : (Jvm.Cond.methodLink "RowPresolve" (219 : Nat) ({ cls := "RowPresolve$Looks", name := "findClique", desc := "(I)I" } : Jvm.MethodName)) ∈ gtbl := gt4 144 rfl rfl
set_option maxRecDepth 20000 in
theorem wk_945 : (Jvm.Cond.instanceMethod ({ cls := "RowPresolve$Looks", name := "findClique", desc := "(I)I" } : Jvm.MethodName)) ∈ gtbl := gt4 145 rfl rfl
set_option maxRecDepth 20000 in
theorem wk_946 : (Jvm.Cond.selects "RowPresolve$Looks" ({ cls := "RowPresolve$Looks", name := "findClique", desc := "(I)I" } : Jvm.MethodName) ({ cls := "RowPresolve$Looks", name := "findClique", desc := "(I)I" } : Jvm.MethodName)) ∈ gtbl := gt4 146 rfl rfl
set_option maxRecDepth 20000 in
theorem wk_947 : (Jvm.Cond.code ({ cls := "RowPresolve$Looks", name := "findClique", desc := "(I)I" } : Jvm.MethodName) prog_4_method_5_code (7 : Nat) (Option.some Jvm.ClassFile.FieldType.int)) ∈ gtbl := gt4 147 rfl rfl
set_option maxRecDepth 20000 in
theorem wk_948 : (Jvm.Cond.methodLink "RowPresolve$Looks" (53 : Nat) ({ cls := "RowPresolve$Looks", name := "sortBinaryTerms", desc := "(I)I" } : Jvm.MethodName)) ∈ gtbl := gt4 148 rfl rfl
set_option maxRecDepth 20000 in
theorem wk_950 : (Jvm.Cond.instanceMethod ({ cls := "RowPresolve$Looks", name := "sortBinaryTerms", desc := "(I)I" } : Jvm.MethodName)) ∈ gtbl := gt4 150 rfl rfl
set_option maxRecDepth 20000 in
theorem wk_951 : (Jvm.Cond.code ({ cls := "RowPresolve$Looks", name := "sortBinaryTerms", desc := "(I)I" } : Jvm.MethodName) prog_4_method_6_code (5 : Nat) (Option.some Jvm.ClassFile.FieldType.int)) ∈ gtbl := gt4 151 rfl rfl
set_option maxRecDepth 20000 in
theorem wk_952 : (Jvm.Cond.methodLink "RowPresolve$Looks" (68 : Nat) ({ cls := "RowPresolve$Table", name := "isBinary", desc := "(I)Z" } : Jvm.MethodName)) ∈ gtbl := gt4 152 rfl rfl
set_option maxRecDepth 20000 in
theorem wk_953 : (Jvm.Cond.methodLink "RowPresolve$Looks" (64 : Nat) ({ cls := "RowPresolve$Looks", name := "amount", desc := "(II)J" } : Jvm.MethodName)) ∈ gtbl := gt4 153 rfl rfl
set_option maxRecDepth 20000 in
theorem wk_955 : (Jvm.Cond.instanceMethod ({ cls := "RowPresolve$Looks", name := "amount", desc := "(II)J" } : Jvm.MethodName)) ∈ gtbl := gt4 155 rfl rfl
set_option maxRecDepth 20000 in
theorem wk_956 : (Jvm.Cond.code ({ cls := "RowPresolve$Looks", name := "amount", desc := "(II)J" } : Jvm.MethodName) prog_4_method_7_code (3 : Nat) (Option.some Jvm.ClassFile.FieldType.long)) ∈ gtbl := gt4 156 rfl rfl
set_option maxRecDepth 20000 in
theorem wk_957 : (Jvm.Cond.methodLink "RowPresolve$Looks" (71 : Nat) ({ cls := "java/lang/Math", name := "abs", desc := "(J)J" } : Jvm.MethodName)) ∈ gtbl := gt4 157 rfl rfl
set_option maxRecDepth 20000 in
theorem wk_958 : (Jvm.Cond.methodLink "RowPresolve$Looks" (60 : Nat) ({ cls := "RowPresolve$Small", name := "reach", desc := "(IIZ)J" } : Jvm.MethodName)) ∈ gtbl := gt4 158 rfl rfl
set_option maxRecDepth 20000 in
theorem wk_963 : (Jvm.Cond.instanceMethod ({ cls := "RowPresolve", name := "cliqueAt", desc := "(II)I" } : Jvm.MethodName)) ∈ gtbl := gt4 163 rfl rfl
set_option maxRecDepth 20000 in
theorem wk_964 : (Jvm.Cond.selects "RowPresolve" ({ cls := "RowPresolve", name := "cliqueAt", desc := "(II)I" } : Jvm.MethodName) ({ cls := "RowPresolve", name := "cliqueAt", desc := "(II)I" } : Jvm.MethodName)) ∈ gtbl := gt4 164 rfl rfl
set_option maxRecDepth 20000 in
theorem wk_965 : (Jvm.Cond.code ({ cls := "RowPresolve", name := "cliqueAt", desc := "(II)I" } : Jvm.MethodName) prog_1_method_21_code (4 : Nat) (Option.some Jvm.ClassFile.FieldType.int)) ∈ gtbl := gt4 165 rfl rfl
set_option maxRecDepth 20000 in
theorem wk_971 : (Jvm.Cond.instanceMethod ({ cls := "RowPresolve", name := "same", desc := "(II)Z" } : Jvm.MethodName)) ∈ gtbl := gt4 171 rfl rfl
set_option maxRecDepth 20000 in
theorem wk_972 : (Jvm.Cond.selects "RowPresolve" ({ cls := "RowPresolve", name := "same", desc := "(II)Z" } : Jvm.MethodName) ({ cls := "RowPresolve", name := "same", desc := "(II)Z" } : Jvm.MethodName)) ∈ gtbl := gt4 172 rfl rfl
set_option maxRecDepth 20000 in
theorem wk_973 : (Jvm.Cond.code ({ cls := "RowPresolve", name := "same", desc := "(II)Z" } : Jvm.MethodName) prog_1_method_22_code (3 : Nat) (Option.some Jvm.ClassFile.FieldType.boolean)) ∈ gtbl := gt4 173 rfl rfl
set_option maxRecDepth 20000 in
theorem wk_974 : (Jvm.Cond.methodLink "RowPresolve" (228 : Nat) ({ cls := "RowPresolve$Looks", name := "areSame", desc := "(II)Z" } : Jvm.MethodName)) ∈ gtbl := gt4 174 rfl rfl
set_option maxRecDepth 20000 in
theorem wk_975 : (Jvm.Cond.instanceMethod ({ cls := "RowPresolve$Looks", name := "areSame", desc := "(II)Z" } : Jvm.MethodName)) ∈ gtbl := gt4 175 rfl rfl
set_option maxRecDepth 20000 in
theorem wk_976 : (Jvm.Cond.selects "RowPresolve$Looks" ({ cls := "RowPresolve$Looks", name := "areSame", desc := "(II)Z" } : Jvm.MethodName) ({ cls := "RowPresolve$Looks", name := "areSame", desc := "(II)Z" } : Jvm.MethodName)) ∈ gtbl := gt4 176 rfl rfl
set_option maxRecDepth 20000 in
theorem wk_977 : (Jvm.Cond.code ({ cls := "RowPresolve$Looks", name := "areSame", desc := "(II)Z" } : Jvm.MethodName) prog_4_method_8_code (4 : Nat) (Option.some Jvm.ClassFile.FieldType.boolean)) ∈ gtbl := gt4 177 rfl rfl
set_option maxRecDepth 20000 in
theorem wk_982 : (Jvm.Cond.instanceMethod ({ cls := "RowPresolve", name := "put", desc := "(II)V" } : Jvm.MethodName)) ∈ gtbl := gt4 182 rfl rfl
set_option maxRecDepth 20000 in
theorem wk_983 : (Jvm.Cond.selects "RowPresolve" ({ cls := "RowPresolve", name := "put", desc := "(II)V" } : Jvm.MethodName) ({ cls := "RowPresolve", name := "put", desc := "(II)V" } : Jvm.MethodName)) ∈ gtbl := gt4 183 rfl rfl
set_option maxRecDepth 20000 in
theorem wk_984 : (Jvm.Cond.code ({ cls := "RowPresolve", name := "put", desc := "(II)V" } : Jvm.MethodName) prog_1_method_23_code (4 : Nat) (Option.none : Option Jvm.ClassFile.FieldType)) ∈ gtbl := gt4 184 rfl rfl
set_option maxRecDepth 20000 in
theorem wk_985 : (Jvm.Cond.methodLink "RowPresolve" (232 : Nat) ({ cls := "RowPresolve", name := "needPossibleSmall", desc := "()V" } : Jvm.MethodName)) ∈ gtbl := gt4 185 rfl rfl
set_option maxRecDepth 20000 in
theorem wk_987 : (Jvm.Cond.instanceMethod ({ cls := "RowPresolve", name := "needPossibleSmall", desc := "()V" } : Jvm.MethodName)) ∈ gtbl := gt4 187 rfl rfl
set_option maxRecDepth 20000 in
theorem wk_988 : (Jvm.Cond.code ({ cls := "RowPresolve", name := "needPossibleSmall", desc := "()V" } : Jvm.MethodName) prog_1_method_34_code (1 : Nat) (Option.none : Option Jvm.ClassFile.FieldType)) ∈ gtbl := gt4 188 rfl rfl
set_option maxRecDepth 20000 in
theorem wk_995 : (Jvm.Cond.instanceMethod ({ cls := "RowPresolve", name := "back", desc := "()I" } : Jvm.MethodName)) ∈ gtbl := gt4 195 rfl rfl
set_option maxRecDepth 20000 in
theorem wk_996 : (Jvm.Cond.selects "RowPresolve" ({ cls := "RowPresolve", name := "back", desc := "()I" } : Jvm.MethodName) ({ cls := "RowPresolve", name := "back", desc := "()I" } : Jvm.MethodName)) ∈ gtbl := gt4 196 rfl rfl
set_option maxRecDepth 20000 in
theorem wk_997 : (Jvm.Cond.code ({ cls := "RowPresolve", name := "back", desc := "()I" } : Jvm.MethodName) prog_1_method_24_code (2 : Nat) (Option.some Jvm.ClassFile.FieldType.int)) ∈ gtbl := gt4 197 rfl rfl
set_option maxRecDepth 20000 in
theorem wk_999 : (Jvm.Cond.methodLink "RowPresolve" (242 : Nat) ({ cls := "RowPresolve$Small", name := "turnBack", desc := "([J[J)V" } : Jvm.MethodName)) ∈ gtbl := gt4 199 rfl rfl
set_option maxRecDepth 20000 in
theorem wk_1000 : (Jvm.Cond.instanceMethod ({ cls := "RowPresolve$Small", name := "turnBack", desc := "([J[J)V" } : Jvm.MethodName)) ∈ gtbl := gt4 200 rfl rfl
set_option maxRecDepth 20000 in
theorem wk_1001 : (Jvm.Cond.selects "RowPresolve$Small" ({ cls := "RowPresolve$Small", name := "turnBack", desc := "([J[J)V" } : Jvm.MethodName) ({ cls := "RowPresolve$Small", name := "turnBack", desc := "([J[J)V" } : Jvm.MethodName)) ∈ gtbl := gt4 201 rfl rfl
set_option maxRecDepth 20000 in
theorem wk_1002 : (Jvm.Cond.code ({ cls := "RowPresolve$Small", name := "turnBack", desc := "([J[J)V" } : Jvm.MethodName) prog_7_method_10_code (7 : Nat) (Option.none : Option Jvm.ClassFile.FieldType)) ∈ gtbl := gt4 202 rfl rfl
set_option maxRecDepth 20000 in
theorem wk_1003 : (Jvm.Cond.methodLink "RowPresolve$Small" (100 : Nat) ({ cls := "RowPresolve$Table", name := "isThere", desc := "(I)Z" } : Jvm.MethodName)) ∈ gtbl := gt4 203 rfl rfl
set_option maxRecDepth 20000 in
theorem wk_1004 : (Jvm.Cond.methodLink "RowPresolve" (249 : Nat) ({ cls := "RowPresolve$Table", name := "isFitting", desc := "([J)Z" } : Jvm.MethodName)) ∈ gtbl := gt4 204 rfl rfl
set_option maxRecDepth 20000 in
theorem wk_1005 : (Jvm.Cond.instanceMethod ({ cls := "RowPresolve$Table", name := "isFitting", desc := "([J)Z" } : Jvm.MethodName)) ∈ gtbl := gt4 205 rfl rfl
set_option maxRecDepth 20000 in
theorem wk_1006 : (Jvm.Cond.selects "RowPresolve$Table" ({ cls := "RowPresolve$Table", name := "isFitting", desc := "([J)Z" } : Jvm.MethodName) ({ cls := "RowPresolve$Table", name := "isFitting", desc := "([J)Z" } : Jvm.MethodName)) ∈ gtbl := gt4 206 rfl rfl
set_option maxRecDepth 20000 in
theorem wk_1007 : (Jvm.Cond.code ({ cls := "RowPresolve$Table", name := "isFitting", desc := "([J)Z" } : Jvm.MethodName) prog_8_method_13_code (6 : Nat) (Option.some Jvm.ClassFile.FieldType.boolean)) ∈ gtbl := gt4 207 rfl rfl
set_option maxRecDepth 20000 in
theorem wk_1008 : (Jvm.Cond.methodLink "RowPresolve$Table" (60 : Nat) ({ cls := "RowPresolve$Table", name := "isHolding", desc := "(IJ)Z" } : Jvm.MethodName)) ∈ gtbl := gt4 208 rfl rfl
set_option maxRecDepth 20000 in
theorem wk_1013 : (Jvm.Cond.instanceMethod ({ cls := "RowPresolve", name := "at", desc := "(I)I" } : Jvm.MethodName)) ∈ gtbl := gt4 213 rfl rfl
set_option maxRecDepth 20000 in
theorem wk_1014 : (Jvm.Cond.selects "RowPresolve" ({ cls := "RowPresolve", name := "at", desc := "(I)I" } : Jvm.MethodName) ({ cls := "RowPresolve", name := "at", desc := "(I)I" } : Jvm.MethodName)) ∈ gtbl := gt4 214 rfl rfl
set_option maxRecDepth 20000 in
theorem wk_1015 : (Jvm.Cond.code ({ cls := "RowPresolve", name := "at", desc := "(I)I" } : Jvm.MethodName) prog_1_method_25_code (2 : Nat) (Option.some Jvm.ClassFile.FieldType.int)) ∈ gtbl := gt4 215 rfl rfl
set_option maxRecDepth 20000 in
theorem wk_1016 : (Jvm.Cond.methodLink "RowPresolve" (253 : Nat) ({ cls := "RowPresolve", name := "needTurned", desc := "()V" } : Jvm.MethodName)) ∈ gtbl := gt4 216 rfl rfl
set_option maxRecDepth 20000 in
theorem wk_1018 : (Jvm.Cond.instanceMethod ({ cls := "RowPresolve", name := "needTurned", desc := "()V" } : Jvm.MethodName)) ∈ gtbl := gt4 218 rfl rfl
set_option maxRecDepth 20000 in
theorem wk_1019 : (Jvm.Cond.code ({ cls := "RowPresolve", name := "needTurned", desc := "()V" } : Jvm.MethodName) prog_1_method_35_code (1 : Nat) (Option.none : Option Jvm.ClassFile.FieldType)) ∈ gtbl := gt4 219 rfl rfl
set_option maxRecDepth 20000 in
theorem wk_1025 : (Jvm.Cond.instanceMethod ({ cls := "RowPresolve", name := "value", desc := "()J" } : Jvm.MethodName)) ∈ gtbl := gt4 225 rfl rfl
set_option maxRecDepth 20000 in
theorem wk_1026 : (Jvm.Cond.selects "RowPresolve" ({ cls := "RowPresolve", name := "value", desc := "()J" } : Jvm.MethodName) ({ cls := "RowPresolve", name := "value", desc := "()J" } : Jvm.MethodName)) ∈ gtbl := gt4 226 rfl rfl
set_option maxRecDepth 20000 in
theorem wk_1027 : (Jvm.Cond.code ({ cls := "RowPresolve", name := "value", desc := "()J" } : Jvm.MethodName) prog_1_method_26_code (4 : Nat) (Option.some Jvm.ClassFile.FieldType.long)) ∈ gtbl := gt4 227 rfl rfl
set_option maxRecDepth 20000 in
theorem wk_1032 : (Jvm.Cond.instanceMethod ({ cls := "RowPresolve", name := "best", desc := "(Z)I" } : Jvm.MethodName)) ∈ gtbl := gt4 232 rfl rfl
set_option maxRecDepth 20000 in
theorem wk_1033 : (Jvm.Cond.selects "RowPresolve" ({ cls := "RowPresolve", name := "best", desc := "(Z)I" } : Jvm.MethodName) ({ cls := "RowPresolve", name := "best", desc := "(Z)I" } : Jvm.MethodName)) ∈ gtbl := gt4 233 rfl rfl
set_option maxRecDepth 20000 in
theorem wk_1034 : (Jvm.Cond.code ({ cls := "RowPresolve", name := "best", desc := "(Z)I" } : Jvm.MethodName) prog_1_method_27_code (4 : Nat) (Option.some Jvm.ClassFile.FieldType.int)) ∈ gtbl := gt4 234 rfl rfl
set_option maxRecDepth 20000 in
theorem wk_1035 : (Jvm.Cond.methodLink "RowPresolve" (259 : Nat) ({ cls := "RowPresolve", name := "findBest", desc := "(LRowPresolve$Table;IJ)V" } : Jvm.MethodName)) ∈ gtbl := gt4 235 rfl rfl
set_option maxRecDepth 20000 in
theorem wk_1037 : (Jvm.Cond.instanceMethod ({ cls := "RowPresolve", name := "findBest", desc := "(LRowPresolve$Table;IJ)V" } : Jvm.MethodName)) ∈ gtbl := gt4 237 rfl rfl
set_option maxRecDepth 20000 in
theorem wk_1038 : (Jvm.Cond.code ({ cls := "RowPresolve", name := "findBest", desc := "(LRowPresolve$Table;IJ)V" } : Jvm.MethodName) prog_1_method_39_code (8 : Nat) (Option.none : Option Jvm.ClassFile.FieldType)) ∈ gtbl := gt4 238 rfl rfl
set_option maxRecDepth 20000 in
theorem wk_1039 : (Jvm.Cond.methodLink "RowPresolve" (284 : Nat) ({ cls := "RowPresolve$Table", name := "allRows", desc := "()I" } : Jvm.MethodName)) ∈ gtbl := gt4 239 rfl rfl
set_option maxRecDepth 20000 in
theorem wk_1040 : (Jvm.Cond.methodLink "RowPresolve" (288 : Nat) ({ cls := "java/lang/System", name := "arraycopy", desc := "(Ljava/lang/Object;ILjava/lang/Object;II)V" } : Jvm.MethodName)) ∈ gtbl := gt5 0 rfl rfl
set_option maxRecDepth 20000 in
theorem wk_1045 : (Jvm.Cond.instanceMethod ({ cls := "RowPresolve", name := "bestValue", desc := "()J" } : Jvm.MethodName)) ∈ gtbl := gt5 5 rfl rfl
set_option maxRecDepth 20000 in
theorem wk_1046 : (Jvm.Cond.selects "RowPresolve" ({ cls := "RowPresolve", name := "bestValue", desc := "()J" } : Jvm.MethodName) ({ cls := "RowPresolve", name := "bestValue", desc := "()J" } : Jvm.MethodName)) ∈ gtbl := gt5 6 rfl rfl
set_option maxRecDepth 20000 in
theorem wk_1047 : (Jvm.Cond.code ({ cls := "RowPresolve", name := "bestValue", desc := "()J" } : Jvm.MethodName) prog_1_method_28_code (1 : Nat) (Option.some Jvm.ClassFile.FieldType.long)) ∈ gtbl := gt5 7 rfl rfl
set_option maxRecDepth 20000 in
theorem wk_1048 : (Jvm.Cond.methodLink "RowPresolve" (263 : Nat) ({ cls := "RowPresolve", name := "needBest", desc := "()V" } : Jvm.MethodName)) ∈ gtbl := gt5 8 rfl rfl
set_option maxRecDepth 20000 in
theorem wk_1050 : (Jvm.Cond.instanceMethod ({ cls := "RowPresolve", name := "needBest", desc := "()V" } : Jvm.MethodName)) ∈ gtbl := gt5 10 rfl rfl
set_option maxRecDepth 20000 in
theorem wk_1051 : (Jvm.Cond.code ({ cls := "RowPresolve", name := "needBest", desc := "()V" } : Jvm.MethodName) prog_1_method_36_code (1 : Nat) (Option.none : Option Jvm.ClassFile.FieldType)) ∈ gtbl := gt5 11 rfl rfl
set_option maxRecDepth 20000 in
theorem wk_1057 : (Jvm.Cond.instanceMethod ({ cls := "RowPresolve", name := "bestAt", desc := "(I)I" } : Jvm.MethodName)) ∈ gtbl := gt5 17 rfl rfl
set_option maxRecDepth 20000 in
theorem wk_1058 : (Jvm.Cond.selects "RowPresolve" ({ cls := "RowPresolve", name := "bestAt", desc := "(I)I" } : Jvm.MethodName) ({ cls := "RowPresolve", name := "bestAt", desc := "(I)I" } : Jvm.MethodName)) ∈ gtbl := gt5 18 rfl rfl
set_option maxRecDepth 20000 in
theorem wk_1059 : (Jvm.Cond.code ({ cls := "RowPresolve", name := "bestAt", desc := "(I)I" } : Jvm.MethodName) prog_1_method_29_code (2 : Nat) (Option.some Jvm.ClassFile.FieldType.int)) ∈ gtbl := gt5 19 rfl rfl
set_option maxRecDepth 20000 in
theorem wk_1066 : (Jvm.Cond.fieldLink "RowPresolveModel" (108 : Nat) "RowPresolveModel" "thrown" "I") ∈ gtbl := gt5 26 rfl rfl
set_option maxRecDepth 20000 in
theorem wk_1067 : (Jvm.Cond.fieldLink "RowPresolveModel" (141 : Nat) "RowPresolveModel" "columns" "I") ∈ gtbl := gt5 27 rfl rfl
set_option maxRecDepth 20000 in
theorem wk_1068 : (Jvm.Cond.fieldLink "RowPresolveModel" (151 : Nat) "RowPresolveModel" "rows" "I") ∈ gtbl := gt5 28 rfl rfl
set_option maxRecDepth 20000 in
theorem wk_1069 : (Jvm.Cond.fieldLink "RowPresolveModel" (7 : Nat) "RowPresolveModel" "lows" "[I") ∈ gtbl := gt5 29 rfl rfl
set_option maxRecDepth 20000 in
theorem wk_1070 : (Jvm.Cond.fieldLink "RowPresolveModel" (13 : Nat) "RowPresolveModel" "highs" "[I") ∈ gtbl := gt5 30 rfl rfl
set_option maxRecDepth 20000 in
theorem wk_1071 : (Jvm.Cond.fieldLink "RowPresolveModel" (16 : Nat) "RowPresolveModel" "costs" "[I") ∈ gtbl := gt5 31 rfl rfl
set_option maxRecDepth 20000 in
theorem wk_1072 : (Jvm.Cond.fieldLink "RowPresolveModel" (19 : Nat) "RowPresolveModel" "kinds" "[I") ∈ gtbl := gt5 32 rfl rfl
set_option maxRecDepth 20000 in
theorem wk_1073 : (Jvm.Cond.fieldLink "RowPresolveModel" (22 : Nat) "RowPresolveModel" "rights" "[I") ∈ gtbl := gt5 33 rfl rfl
set_option maxRecDepth 20000 in
theorem wk_1074 : (Jvm.Cond.fieldLink "RowPresolveModel" (25 : Nat) "RowPresolveModel" "coefficients" "[I") ∈ gtbl := gt5 34 rfl rfl
set_option maxRecDepth 20000 in
theorem wk_1075 : (Jvm.Cond.fieldLink "RowPresolveModel" (123 : Nat) "RowPresolveModel" "isSmall" "Z") ∈ gtbl := gt5 35 rfl rfl
set_option maxRecDepth 20000 in
theorem wk_1076 : (Jvm.Cond.fieldLink "RowPresolveModel" (28 : Nat) "RowPresolveModel" "state" "[I") ∈ gtbl := gt5 36 rfl rfl
set_option maxRecDepth 20000 in
theorem wk_1077 : (Jvm.Cond.fieldLink "RowPresolveModel" (31 : Nat) "RowPresolveModel" "low" "[I") ∈ gtbl := gt5 37 rfl rfl
set_option maxRecDepth 20000 in
theorem wk_1078 : (Jvm.Cond.fieldLink "RowPresolveModel" (34 : Nat) "RowPresolveModel" "high" "[I") ∈ gtbl := gt5 38 rfl rfl
set_option maxRecDepth 20000 in
theorem wk_1079 : (Jvm.Cond.fieldLink "RowPresolveModel" (37 : Nat) "RowPresolveModel" "lowRest" "[I") ∈ gtbl := gt5 39 rfl rfl
set_option maxRecDepth 20000 in
theorem wk_1080 : (Jvm.Cond.fieldLink "RowPresolveModel" (40 : Nat) "RowPresolveModel" "highRest" "[I") ∈ gtbl := gt5 40 rfl rfl
set_option maxRecDepth 20000 in
theorem wk_1081 : (Jvm.Cond.fieldLink "RowPresolveModel" (43 : Nat) "RowPresolveModel" "cost" "[J") ∈ gtbl := gt5 41 rfl rfl
set_option maxRecDepth 20000 in
theorem wk_1082 : (Jvm.Cond.fieldLink "RowPresolveModel" (47 : Nat) "RowPresolveModel" "kind" "[I") ∈ gtbl := gt5 42 rfl rfl
set_option maxRecDepth 20000 in
theorem wk_1083 : (Jvm.Cond.fieldLink "RowPresolveModel" (50 : Nat) "RowPresolveModel" "gone" "[Z") ∈ gtbl := gt5 43 rfl rfl
set_option maxRecDepth 20000 in
theorem wk_1084 : (Jvm.Cond.fieldLink "RowPresolveModel" (54 : Nat) "RowPresolveModel" "right" "[J") ∈ gtbl := gt5 44 rfl rfl
set_option maxRecDepth 20000 in
theorem wk_1085 : (Jvm.Cond.fieldLink "RowPresolveModel" (57 : Nat) "RowPresolveModel" "rest" "[I") ∈ gtbl := gt5 45 rfl rfl
set_option maxRecDepth 20000 in
theorem wk_1086 : (Jvm.Cond.fieldLink "RowPresolveModel" (60 : Nat) "RowPresolveModel" "coef" "[J") ∈ gtbl := gt5 46 rfl rfl
set_option maxRecDepth 20000 in
theorem wk_1087 : (Jvm.Cond.fieldLink "RowPresolveModel" (222 : Nat) "RowPresolveModel" "offset" "J") ∈ gtbl := gt5 47 rfl rfl
set_option maxRecDepth 20000 in
theorem wk_1088 : (Jvm.Cond.fieldLink "RowPresolveModel" (172 : Nat) "RowPresolveModel" "certificate" "I") ∈ gtbl := gt5 48 rfl rfl
set_option maxRecDepth 20000 in
theorem wk_1089 : (Jvm.Cond.fieldLink "RowPresolveModel" (169 : Nat) "RowPresolveModel" "acts" "I") ∈ gtbl := gt5 49 rfl rfl
set_option maxRecDepth 20000 in
theorem wk_1090 : (Jvm.Cond.fieldLink "RowPresolveModel" (63 : Nat) "RowPresolveModel" "actRule" "[I") ∈ gtbl := gt5 50 rfl rfl
set_option maxRecDepth 20000 in
theorem wk_1091 : (Jvm.Cond.fieldLink "RowPresolveModel" (66 : Nat) "RowPresolveModel" "actRow" "[I") ∈ gtbl := gt5 51 rfl rfl
set_option maxRecDepth 20000 in
theorem wk_1092 : (Jvm.Cond.fieldLink "RowPresolveModel" (69 : Nat) "RowPresolveModel" "actColumn" "[I") ∈ gtbl := gt5 52 rfl rfl
set_option maxRecDepth 20000 in
theorem wk_1093 : (Jvm.Cond.fieldLink "RowPresolveModel" (72 : Nat) "RowPresolveModel" "actWhat" "[I") ∈ gtbl := gt5 53 rfl rfl
set_option maxRecDepth 20000 in
theorem wk_1094 : (Jvm.Cond.fieldLink "RowPresolveModel" (75 : Nat) "RowPresolveModel" "actValue" "[J") ∈ gtbl := gt5 54 rfl rfl
set_option maxRecDepth 20000 in
theorem wk_1095 : (Jvm.Cond.fieldLink "RowPresolveModel" (249 : Nat) "RowPresolveModel" "putIns" "I") ∈ gtbl := gt5 55 rfl rfl
set_option maxRecDepth 20000 in
theorem wk_1096 : (Jvm.Cond.fieldLink "RowPresolveModel" (78 : Nat) "RowPresolveModel" "putIn" "[I") ∈ gtbl := gt5 56 rfl rfl
set_option maxRecDepth 20000 in
theorem wk_1097 : (Jvm.Cond.fieldLink "RowPresolveModel" (81 : Nat) "RowPresolveModel" "base" "[J") ∈ gtbl := gt5 57 rfl rfl
set_option maxRecDepth 20000 in
theorem wk_1098 : (Jvm.Cond.fieldLink "RowPresolveModel" (84 : Nat) "RowPresolveModel" "often" "[J") ∈ gtbl := gt5 58 rfl rfl
set_option maxRecDepth 20000 in
theorem wk_1099 : (Jvm.Cond.fieldLink "RowPresolveModel" (87 : Nat) "RowPresolveModel" "isPut" "[Z") ∈ gtbl := gt5 59 rfl rfl
set_option maxRecDepth 20000 in
theorem wk_1100 : (Jvm.Cond.fieldLink "RowPresolveModel" (90 : Nat) "RowPresolveModel" "number" "[I") ∈ gtbl := gt5 60 rfl rfl
set_option maxRecDepth 20000 in
theorem wk_1101 : (Jvm.Cond.fieldLink "RowPresolveModel" (116 : Nat) "RowPresolveModel" "isTurned" "Z") ∈ gtbl := gt5 61 rfl rfl
set_option maxRecDepth 20000 in
theorem wk_1102 : (Jvm.Cond.fieldLink "RowPresolveModel" (93 : Nat) "RowPresolveModel" "turned" "[I") ∈ gtbl := gt5 62 rfl rfl
set_option maxRecDepth 20000 in
theorem wk_1103 : (Jvm.Cond.fieldLink "RowPresolveModel" (120 : Nat) "RowPresolveModel" "hasBest" "Z") ∈ gtbl := gt5 63 rfl rfl
set_option maxRecDepth 20000 in
theorem wk_1104 : (Jvm.Cond.fieldLink "RowPresolveModel" (96 : Nat) "RowPresolveModel" "best" "[I") ∈ gtbl := gt5 64 rfl rfl
set_option maxRecDepth 20000 in
theorem wk_1105 : (Jvm.Cond.fieldLink "RowPresolveModel" (355 : Nat) "RowPresolveModel" "bestValue" "J") ∈ gtbl := gt5 65 rfl rfl
set_option maxRecDepth 20000 in
theorem wk_1106 : (Jvm.Cond.fieldLink "RowPresolveModel" (99 : Nat) "RowPresolveModel" "point" "[I") ∈ gtbl := gt5 66 rfl rfl
set_option maxRecDepth 20000 in
theorem wk_1107 : (Jvm.Cond.fieldLink "RowPresolveModel" (102 : Nat) "RowPresolveModel" "part" "[I") ∈ gtbl := gt5 67 rfl rfl
set_option maxRecDepth 20000 in
theorem wk_1108 : (Jvm.Cond.fieldLink "RowPresolveModel" (105 : Nat) "RowPresolveModel" "clique" "[I") ∈ gtbl := gt5 68 rfl rfl
set_option maxRecDepth 20000 in
theorem wk_1198 : (Jvm.Cond.instanceMethod ({ cls := "RowPresolveModel", name := "thrown", desc := "()I" } : Jvm.MethodName)) ∈ gtbl := gt5 158 rfl rfl
set_option maxRecDepth 20000 in
theorem wk_1199 : (Jvm.Cond.selects "RowPresolveModel" ({ cls := "RowPresolveModel", name := "thrown", desc := "()I" } : Jvm.MethodName) ({ cls := "RowPresolveModel", name := "thrown", desc := "()I" } : Jvm.MethodName)) ∈ gtbl := gt5 159 rfl rfl
set_option maxRecDepth 20000 in
theorem wk_1200 : (Jvm.Cond.code ({ cls := "RowPresolveModel", name := "thrown", desc := "()I" } : Jvm.MethodName) prog_11_method_2_code (1 : Nat) (Option.some Jvm.ClassFile.FieldType.int)) ∈ gtbl := gt5 160 rfl rfl
set_option maxRecDepth 20000 in
theorem wk_1202 : (Jvm.Cond.instanceMethod ({ cls := "RowPresolveModel", name := "column", desc := "(III)I" } : Jvm.MethodName)) ∈ gtbl := gt5 162 rfl rfl
set_option maxRecDepth 20000 in
theorem wk_1203 : (Jvm.Cond.selects "RowPresolveModel" ({ cls := "RowPresolveModel", name := "column", desc := "(III)I" } : Jvm.MethodName) ({ cls := "RowPresolveModel", name := "column", desc := "(III)I" } : Jvm.MethodName)) ∈ gtbl := gt5 163 rfl rfl
set_option maxRecDepth 20000 in
theorem wk_1204 : (Jvm.Cond.code ({ cls := "RowPresolveModel", name := "column", desc := "(III)I" } : Jvm.MethodName) prog_11_method_10_code (6 : Nat) (Option.some Jvm.ClassFile.FieldType.int)) ∈ gtbl := gt5 164 rfl rfl
set_option maxRecDepth 20000 in
theorem wk_1205 : (Jvm.Cond.constantLong "RowPresolveModel" (129 : Nat) (-10000 : Int64)) ∈ gtbl := gt5 165 rfl rfl
set_option maxRecDepth 20000 in
theorem wk_1206 : (Jvm.Cond.constantLong "RowPresolveModel" (131 : Nat) (10000 : Int64)) ∈ gtbl := gt5 166 rfl rfl
set_option maxRecDepth 20000 in
theorem wk_1207 : (Jvm.Cond.methodLink "RowPresolveModel" (133 : Nat) ({ cls := "RowPresolveModel", name := "within", desc := "(JJJ)Z" } : Jvm.MethodName)) ∈ gtbl := gt5 167 rfl rfl
set_option maxRecDepth 20000 in
theorem wk_1208 : (Jvm.Cond.static ({ cls := "RowPresolveModel", name := "within", desc := "(JJJ)Z" } : Jvm.MethodName)) ∈ gtbl := gt5 168 rfl rfl
set_option maxRecDepth 20000 in
theorem wk_1209 : (Jvm.Cond.code ({ cls := "RowPresolveModel", name := "within", desc := "(JJJ)Z" } : Jvm.MethodName) prog_11_method_3_code (6 : Nat) (Option.some Jvm.ClassFile.FieldType.boolean)) ∈ gtbl := gt5 169 rfl rfl
set_option maxRecDepth 20000 in
theorem wk_1210 : (Jvm.Cond.constantLong "RowPresolveModel" (137 : Nat) (-1000 : Int64)) ∈ gtbl := gt5 170 rfl rfl
set_option maxRecDepth 20000 in
theorem wk_1211 : (Jvm.Cond.constantLong "RowPresolveModel" (139 : Nat) (1000 : Int64)) ∈ gtbl := gt5 171 rfl rfl
set_option maxRecDepth 20000 in
theorem wk_1212 : (Jvm.Cond.methodLink "RowPresolveModel" (144 : Nat) ({ cls := "RowPresolveModel", name := "passes", desc := "(ZZ)Z" } : Jvm.MethodName)) ∈ gtbl := gt5 172 rfl rfl
set_option maxRecDepth 20000 in
theorem wk_1214 : (Jvm.Cond.instanceMethod ({ cls := "RowPresolveModel", name := "passes", desc := "(ZZ)Z" } : Jvm.MethodName)) ∈ gtbl := gt5 174 rfl rfl
set_option maxRecDepth 20000 in
theorem wk_1215 : (Jvm.Cond.code ({ cls := "RowPresolveModel", name := "passes", desc := "(ZZ)Z" } : Jvm.MethodName) prog_11_method_4_code (3 : Nat) (Option.some Jvm.ClassFile.FieldType.boolean)) ∈ gtbl := gt5 175 rfl rfl
set_option maxRecDepth 20000 in
theorem wk_1216 : (Jvm.Cond.methodLink "RowPresolveModel" (148 : Nat) ({ cls := "RowPresolveModel", name := "endSmall", desc := "()V" } : Jvm.MethodName)) ∈ gtbl := gt5 176 rfl rfl
set_option maxRecDepth 20000 in
theorem wk_1218 : (Jvm.Cond.instanceMethod ({ cls := "RowPresolveModel", name := "endSmall", desc := "()V" } : Jvm.MethodName)) ∈ gtbl := gt5 178 rfl rfl
set_option maxRecDepth 20000 in
theorem wk_1219 : (Jvm.Cond.code ({ cls := "RowPresolveModel", name := "endSmall", desc := "()V" } : Jvm.MethodName) prog_11_method_9_code (1 : Nat) (Option.none : Option Jvm.ClassFile.FieldType)) ∈ gtbl := gt5 179 rfl rfl
set_option maxRecDepth 20000 in
theorem wk_1220 : (Jvm.Cond.methodLink "RowPresolveModel" (126 : Nat) ({ cls := "RowPresolveModel", name := "endPoints", desc := "()V" } : Jvm.MethodName)) ∈ gtbl := gt5 180 rfl rfl
set_option maxRecDepth 20000 in
theorem wk_1222 : (Jvm.Cond.instanceMethod ({ cls := "RowPresolveModel", name := "endPoints", desc := "()V" } : Jvm.MethodName)) ∈ gtbl := gt5 182 rfl rfl
set_option maxRecDepth 20000 in
theorem wk_1223 : (Jvm.Cond.code ({ cls := "RowPresolveModel", name := "endPoints", desc := "()V" } : Jvm.MethodName) prog_11_method_8_code (2 : Nat) (Option.none : Option Jvm.ClassFile.FieldType)) ∈ gtbl := gt5 183 rfl rfl
set_option maxRecDepth 20000 in
theorem wk_1225 : (Jvm.Cond.instanceMethod ({ cls := "RowPresolveModel", name := "row", desc := "(II)I" } : Jvm.MethodName)) ∈ gtbl := gt5 185 rfl rfl
set_option maxRecDepth 20000 in
theorem wk_1226 : (Jvm.Cond.selects "RowPresolveModel" ({ cls := "RowPresolveModel", name := "row", desc := "(II)I" } : Jvm.MethodName) ({ cls := "RowPresolveModel", name := "row", desc := "(II)I" } : Jvm.MethodName)) ∈ gtbl := gt5 186 rfl rfl
set_option maxRecDepth 20000 in
theorem wk_1227 : (Jvm.Cond.code ({ cls := "RowPresolveModel", name := "row", desc := "(II)I" } : Jvm.MethodName) prog_11_method_11_code (4 : Nat) (Option.some Jvm.ClassFile.FieldType.int)) ∈ gtbl := gt5 187 rfl rfl
set_option maxRecDepth 20000 in
theorem wk_1228 : (Jvm.Cond.constantLong "RowPresolveModel" (154 : Nat) (-1000000 : Int64)) ∈ gtbl := gt5 188 rfl rfl
set_option maxRecDepth 20000 in
theorem wk_1229 : (Jvm.Cond.constantLong "RowPresolveModel" (156 : Nat) (1000000 : Int64)) ∈ gtbl := gt5 189 rfl rfl
set_option maxRecDepth 20000 in
theorem wk_1231 : (Jvm.Cond.instanceMethod ({ cls := "RowPresolveModel", name := "term", desc := "(III)V" } : Jvm.MethodName)) ∈ gtbl := gt5 191 rfl rfl
set_option maxRecDepth 20000 in
theorem wk_1232 : (Jvm.Cond.selects "RowPresolveModel" ({ cls := "RowPresolveModel", name := "term", desc := "(III)V" } : Jvm.MethodName) ({ cls := "RowPresolveModel", name := "term", desc := "(III)V" } : Jvm.MethodName)) ∈ gtbl := gt5 192 rfl rfl
set_option maxRecDepth 20000 in
theorem wk_1233 : (Jvm.Cond.code ({ cls := "RowPresolveModel", name := "term", desc := "(III)V" } : Jvm.MethodName) prog_11_method_12_code (4 : Nat) (Option.none : Option Jvm.ClassFile.FieldType)) ∈ gtbl := gt5 193 rfl rfl
set_option maxRecDepth 20000 in
theorem wk_1234 : (Jvm.Cond.methodLink "RowPresolveModel" (158 : Nat) ({ cls := "RowPresolveModel", name := "isRow", desc := "(I)Z" } : Jvm.MethodName)) ∈ gtbl := gt5 194 rfl rfl
set_option maxRecDepth 20000 in
theorem wk_1236 : (Jvm.Cond.instanceMethod ({ cls := "RowPresolveModel", name := "isRow", desc := "(I)Z" } : Jvm.MethodName)) ∈ gtbl := gt5 196 rfl rfl
set_option maxRecDepth 20000 in
theorem wk_1237 : (Jvm.Cond.code ({ cls := "RowPresolveModel", name := "isRow", desc := "(I)Z" } : Jvm.MethodName) prog_11_method_14_code (2 : Nat) (Option.some Jvm.ClassFile.FieldType.boolean)) ∈ gtbl := gt5 197 rfl rfl
set_option maxRecDepth 20000 in
theorem wk_1238 : (Jvm.Cond.methodLink "RowPresolveModel" (162 : Nat) ({ cls := "RowPresolveModel", name := "isColumn", desc := "(I)Z" } : Jvm.MethodName)) ∈ gtbl := gt5 198 rfl rfl
set_option maxRecDepth 20000 in
theorem wk_1240 : (Jvm.Cond.instanceMethod ({ cls := "RowPresolveModel", name := "isColumn", desc := "(I)Z" } : Jvm.MethodName)) ∈ gtbl := gt5 200 rfl rfl
set_option maxRecDepth 20000 in
theorem wk_1241 : (Jvm.Cond.code ({ cls := "RowPresolveModel", name := "isColumn", desc := "(I)Z" } : Jvm.MethodName) prog_11_method_15_code (2 : Nat) (Option.some Jvm.ClassFile.FieldType.boolean)) ∈ gtbl := gt5 201 rfl rfl
set_option maxRecDepth 20000 in
theorem wk_1243 : (Jvm.Cond.instanceMethod ({ cls := "RowPresolveModel", name := "clear", desc := "()I" } : Jvm.MethodName)) ∈ gtbl := gt5 203 rfl rfl
set_option maxRecDepth 20000 in
theorem wk_1244 : (Jvm.Cond.selects "RowPresolveModel" ({ cls := "RowPresolveModel", name := "clear", desc := "()I" } : Jvm.MethodName) ({ cls := "RowPresolveModel", name := "clear", desc := "()I" } : Jvm.MethodName)) ∈ gtbl := gt5 204 rfl rfl
set_option maxRecDepth 20000 in
theorem wk_1245 : (Jvm.Cond.code ({ cls := "RowPresolveModel", name := "clear", desc := "()I" } : Jvm.MethodName) prog_11_method_13_code (2 : Nat) (Option.some Jvm.ClassFile.FieldType.int)) ∈ gtbl := gt5 205 rfl rfl
set_option maxRecDepth 20000 in
theorem wk_1247 : (Jvm.Cond.instanceMethod ({ cls := "RowPresolveModel", name := "shrink", desc := "(II)I" } : Jvm.MethodName)) ∈ gtbl := gt5 207 rfl rfl
set_option maxRecDepth 20000 in
theorem wk_1248 : (Jvm.Cond.selects "RowPresolveModel" ({ cls := "RowPresolveModel", name := "shrink", desc := "(II)I" } : Jvm.MethodName) ({ cls := "RowPresolveModel", name := "shrink", desc := "(II)I" } : Jvm.MethodName)) ∈ gtbl := gt5 208 rfl rfl
set_option maxRecDepth 20000 in
theorem wk_1249 : (Jvm.Cond.code ({ cls := "RowPresolveModel", name := "shrink", desc := "(II)I" } : Jvm.MethodName) prog_11_method_50_code (7 : Nat) (Option.some Jvm.ClassFile.FieldType.int)) ∈ gtbl := gt5 209 rfl rfl
set_option maxRecDepth 20000 in
theorem wk_1250 : (Jvm.Cond.constantLong "RowPresolveModel" (302 : Nat) (2047 : Int64)) ∈ gtbl := gt5 210 rfl rfl
set_option maxRecDepth 20000 in
theorem wk_1251 : (Jvm.Cond.constantLong "RowPresolveModel" (304 : Nat) (50 : Int64)) ∈ gtbl := gt5 211 rfl rfl
set_option maxRecDepth 20000 in
theorem wk_1252 : (Jvm.Cond.methodLink "RowPresolveModel" (306 : Nat) ({ cls := "RowPresolveModel", name := "makeSmall", desc := "()V" } : Jvm.MethodName)) ∈ gtbl := gt5 212 rfl rfl
set_option maxRecDepth 20000 in
theorem wk_1254 : (Jvm.Cond.instanceMethod ({ cls := "RowPresolveModel", name := "makeSmall", desc := "()V" } : Jvm.MethodName)) ∈ gtbl := gt5 214 rfl rfl
set_option maxRecDepth 20000 in
theorem wk_1255 : (Jvm.Cond.code ({ cls := "RowPresolveModel", name := "makeSmall", desc := "()V" } : Jvm.MethodName) prog_11_method_49_code (3 : Nat) (Option.none : Option Jvm.ClassFile.FieldType)) ∈ gtbl := gt5 215 rfl rfl
set_option maxRecDepth 20000 in
theorem wk_1256 : (Jvm.Cond.methodLink "RowPresolveModel" (175 : Nat) ({ cls := "RowPresolveModel", name := "goesOn", desc := "()Z" } : Jvm.MethodName)) ∈ gtbl := gt5 216 rfl rfl
set_option maxRecDepth 20000 in
theorem wk_1258 : (Jvm.Cond.instanceMethod ({ cls := "RowPresolveModel", name := "goesOn", desc := "()Z" } : Jvm.MethodName)) ∈ gtbl := gt5 218 rfl rfl
set_option maxRecDepth 20000 in
theorem wk_1259 : (Jvm.Cond.code ({ cls := "RowPresolveModel", name := "goesOn", desc := "()Z" } : Jvm.MethodName) prog_11_method_22_code (1 : Nat) (Option.some Jvm.ClassFile.FieldType.boolean)) ∈ gtbl := gt5 219 rfl rfl
set_option maxRecDepth 20000 in
theorem wk_1260 : (Jvm.Cond.methodLink "RowPresolveModel" (309 : Nat) ({ cls := "RowPresolveModel", name := "rule", desc := "(I)V" } : Jvm.MethodName)) ∈ gtbl := gt5 220 rfl rfl
set_option maxRecDepth 20000 in
theorem wk_1262 : (Jvm.Cond.instanceMethod ({ cls := "RowPresolveModel", name := "rule", desc := "(I)V" } : Jvm.MethodName)) ∈ gtbl := gt5 222 rfl rfl
set_option maxRecDepth 20000 in
theorem wk_1263 : (Jvm.Cond.code ({ cls := "RowPresolveModel", name := "rule", desc := "(I)V" } : Jvm.MethodName) prog_11_method_48_code (4 : Nat) (Option.none : Option Jvm.ClassFile.FieldType)) ∈ gtbl := gt5 223 rfl rfl
set_option maxRecDepth 20000 in
theorem wk_1264 : (Jvm.Cond.methodLink "RowPresolveModel" (296 : Nat) ({ cls := "RowPresolveModel", name := "byRow", desc := "(II)V" } : Jvm.MethodName)) ∈ gtbl := gt5 224 rfl rfl
set_option maxRecDepth 20000 in
theorem wk_1266 : (Jvm.Cond.instanceMethod ({ cls := "RowPresolveModel", name := "byRow", desc := "(II)V" } : Jvm.MethodName)) ∈ gtbl := gt5 226 rfl rfl
set_option maxRecDepth 20000 in
theorem wk_1267 : (Jvm.Cond.code ({ cls := "RowPresolveModel", name := "byRow", desc := "(II)V" } : Jvm.MethodName) prog_11_method_46_code (3 : Nat) (Option.none : Option Jvm.ClassFile.FieldType)) ∈ gtbl := gt5 227 rfl rfl
set_option maxRecDepth 20000 in
theorem wk_1268 : (Jvm.Cond.methodLink "RowPresolveModel" (263 : Nat) ({ cls := "RowPresolveModel", name := "empty", desc := "(I)V" } : Jvm.MethodName)) ∈ gtbl := gt5 228 rfl rfl
set_option maxRecDepth 20000 in
theorem wk_1270 : (Jvm.Cond.instanceMethod ({ cls := "RowPresolveModel", name := "empty", desc := "(I)V" } : Jvm.MethodName)) ∈ gtbl := gt5 230 rfl rfl
set_option maxRecDepth 20000 in
theorem wk_1271 : (Jvm.Cond.code ({ cls := "RowPresolveModel", name := "empty", desc := "(I)V" } : Jvm.MethodName) prog_11_method_26_code (2 : Nat) (Option.none : Option Jvm.ClassFile.FieldType)) ∈ gtbl := gt5 231 rfl rfl
set_option maxRecDepth 20000 in
theorem wk_1272 : (Jvm.Cond.methodLink "RowPresolveModel" (187 : Nat) ({ cls := "RowPresolveModel", name := "terms", desc := "(I)I" } : Jvm.MethodName)) ∈ gtbl := gt5 232 rfl rfl
set_option maxRecDepth 20000 in
theorem wk_1274 : (Jvm.Cond.instanceMethod ({ cls := "RowPresolveModel", name := "terms", desc := "(I)I" } : Jvm.MethodName)) ∈ gtbl := gt5 234 rfl rfl
set_option maxRecDepth 20000 in
theorem wk_1275 : (Jvm.Cond.code ({ cls := "RowPresolveModel", name := "terms", desc := "(I)I" } : Jvm.MethodName) prog_11_method_17_code (4 : Nat) (Option.some Jvm.ClassFile.FieldType.int)) ∈ gtbl := gt5 235 rfl rfl
set_option maxRecDepth 20000 in
theorem wk_1276 : (Jvm.Cond.methodLink "RowPresolveModel" (165 : Nat) ({ cls := "RowPresolveModel", name := "isTerm", desc := "(II)Z" } : Jvm.MethodName)) ∈ gtbl := gt5 236 rfl rfl
set_option maxRecDepth 20000 in
theorem wk_1278 : (Jvm.Cond.instanceMethod ({ cls := "RowPresolveModel", name := "isTerm", desc := "(II)Z" } : Jvm.MethodName)) ∈ gtbl := gt5 238 rfl rfl
set_option maxRecDepth 20000 in
theorem wk_1279 : (Jvm.Cond.code ({ cls := "RowPresolveModel", name := "isTerm", desc := "(II)Z" } : Jvm.MethodName) prog_11_method_16_code (3 : Nat) (Option.some Jvm.ClassFile.FieldType.boolean)) ∈ gtbl := gt5 239 rfl rfl
set_option maxRecDepth 20000 in
theorem wk_1280 : (Jvm.Cond.methodLink "RowPresolveModel" (191 : Nat) ({ cls := "RowPresolveModel", name := "leave", desc := "(II)V" } : Jvm.MethodName)) ∈ gtbl := gt6 0 rfl rfl
set_option maxRecDepth 20000 in
theorem wk_1282 : (Jvm.Cond.instanceMethod ({ cls := "RowPresolveModel", name := "leave", desc := "(II)V" } : Jvm.MethodName)) ∈ gtbl := gt6 2 rfl rfl
set_option maxRecDepth 20000 in
theorem wk_1283 : (Jvm.Cond.code ({ cls := "RowPresolveModel", name := "leave", desc := "(II)V" } : Jvm.MethodName) prog_11_method_25_code (3 : Nat) (Option.none : Option Jvm.ClassFile.FieldType)) ∈ gtbl := gt6 3 rfl rfl
set_option maxRecDepth 20000 in
theorem wk_1284 : (Jvm.Cond.methodLink "RowPresolveModel" (183 : Nat) ({ cls := "RowPresolveModel", name := "act", desc := "(IIIIJ)V" } : Jvm.MethodName)) ∈ gtbl := gt6 4 rfl rfl
set_option maxRecDepth 20000 in
theorem wk_1286 : (Jvm.Cond.instanceMethod ({ cls := "RowPresolveModel", name := "act", desc := "(IIIIJ)V" } : Jvm.MethodName)) ∈ gtbl := gt6 6 rfl rfl
set_option maxRecDepth 20000 in
theorem wk_1287 : (Jvm.Cond.code ({ cls := "RowPresolveModel", name := "act", desc := "(IIIIJ)V" } : Jvm.MethodName) prog_11_method_20_code (7 : Nat) (Option.none : Option Jvm.ClassFile.FieldType)) ∈ gtbl := gt6 7 rfl rfl
set_option maxRecDepth 20000 in
theorem wk_1288 : (Jvm.Cond.methodLink "RowPresolveModel" (179 : Nat) ({ cls := "RowPresolveModel", name := "impossible", desc := "(I)V" } : Jvm.MethodName)) ∈ gtbl := gt6 8 rfl rfl
set_option maxRecDepth 20000 in
theorem wk_1290 : (Jvm.Cond.instanceMethod ({ cls := "RowPresolveModel", name := "impossible", desc := "(I)V" } : Jvm.MethodName)) ∈ gtbl := gt6 10 rfl rfl
set_option maxRecDepth 20000 in
theorem wk_1291 : (Jvm.Cond.code ({ cls := "RowPresolveModel", name := "impossible", desc := "(I)V" } : Jvm.MethodName) prog_11_method_21_code (2 : Nat) (Option.none : Option Jvm.ClassFile.FieldType)) ∈ gtbl := gt6 11 rfl rfl
set_option maxRecDepth 20000 in
theorem wk_1292 : (Jvm.Cond.methodLink "RowPresolveModel" (266 : Nat) ({ cls := "RowPresolveModel", name := "shared", desc := "(I)V" } : Jvm.MethodName)) ∈ gtbl := gt6 12 rfl rfl
set_option maxRecDepth 20000 in
theorem wk_1294 : (Jvm.Cond.instanceMethod ({ cls := "RowPresolveModel", name := "shared", desc := "(I)V" } : Jvm.MethodName)) ∈ gtbl := gt6 14 rfl rfl
set_option maxRecDepth 20000 in
theorem wk_1295 : (Jvm.Cond.code ({ cls := "RowPresolveModel", name := "shared", desc := "(I)V" } : Jvm.MethodName) prog_11_method_28_code (9 : Nat) (Option.none : Option Jvm.ClassFile.FieldType)) ∈ gtbl := gt6 15 rfl rfl
set_option maxRecDepth 20000 in
theorem wk_1296 : (Jvm.Cond.methodLink "RowPresolveModel" (195 : Nat) ({ cls := "RowPresolveModel", name := "divisor", desc := "(JJ)J" } : Jvm.MethodName)) ∈ gtbl := gt6 16 rfl rfl
set_option maxRecDepth 20000 in
theorem wk_1297 : (Jvm.Cond.static ({ cls := "RowPresolveModel", name := "divisor", desc := "(JJ)J" } : Jvm.MethodName)) ∈ gtbl := gt6 17 rfl rfl
set_option maxRecDepth 20000 in
theorem wk_1298 : (Jvm.Cond.code ({ cls := "RowPresolveModel", name := "divisor", desc := "(JJ)J" } : Jvm.MethodName) prog_11_method_27_code (11 : Nat) (Option.some Jvm.ClassFile.FieldType.long)) ∈ gtbl := gt6 18 rfl rfl
set_option maxRecDepth 20000 in
theorem wk_1299 : (Jvm.Cond.constantLong "RowPresolveModel" (198 : Nat) (-1 : Int64)) ∈ gtbl := gt6 19 rfl rfl
set_option maxRecDepth 20000 in
theorem wk_1300 : (Jvm.Cond.methodLink "RowPresolveModel" (112 : Nat) ({ cls := "RowPresolveModel", name := "down", desc := "(JJ)J" } : Jvm.MethodName)) ∈ gtbl := gt6 20 rfl rfl
set_option maxRecDepth 20000 in
theorem wk_1301 : (Jvm.Cond.static ({ cls := "RowPresolveModel", name := "down", desc := "(JJ)J" } : Jvm.MethodName)) ∈ gtbl := gt6 21 rfl rfl
set_option maxRecDepth 20000 in
theorem wk_1302 : (Jvm.Cond.code ({ cls := "RowPresolveModel", name := "down", desc := "(JJ)J" } : Jvm.MethodName) prog_11_method_6_code (6 : Nat) (Option.some Jvm.ClassFile.FieldType.long)) ∈ gtbl := gt6 22 rfl rfl
set_option maxRecDepth 20000 in
theorem wk_1303 : (Jvm.Cond.methodLink "RowPresolveModel" (269 : Nat) ({ cls := "RowPresolveModel", name := "single", desc := "(I)V" } : Jvm.MethodName)) ∈ gtbl := gt6 23 rfl rfl
set_option maxRecDepth 20000 in
theorem wk_1305 : (Jvm.Cond.instanceMethod ({ cls := "RowPresolveModel", name := "single", desc := "(I)V" } : Jvm.MethodName)) ∈ gtbl := gt6 25 rfl rfl
set_option maxRecDepth 20000 in
theorem wk_1306 : (Jvm.Cond.code ({ cls := "RowPresolveModel", name := "single", desc := "(I)V" } : Jvm.MethodName) prog_11_method_29_code (7 : Nat) (Option.none : Option Jvm.ClassFile.FieldType)) ∈ gtbl := gt6 26 rfl rfl
set_option maxRecDepth 20000 in
theorem wk_1307 : (Jvm.Cond.methodLink "RowPresolveModel" (200 : Nat) ({ cls := "RowPresolveModel", name := "up", desc := "(JJ)J" } : Jvm.MethodName)) ∈ gtbl := gt6 27 rfl rfl
set_option maxRecDepth 20000 in
theorem wk_1308 : (Jvm.Cond.static ({ cls := "RowPresolveModel", name := "up", desc := "(JJ)J" } : Jvm.MethodName)) ∈ gtbl := gt6 28 rfl rfl
set_option maxRecDepth 20000 in
theorem wk_1309 : (Jvm.Cond.code ({ cls := "RowPresolveModel", name := "up", desc := "(JJ)J" } : Jvm.MethodName) prog_11_method_7_code (4 : Nat) (Option.some Jvm.ClassFile.FieldType.long)) ∈ gtbl := gt6 29 rfl rfl
set_option maxRecDepth 20000 in
theorem wk_1310 : (Jvm.Cond.methodLink "RowPresolveModel" (203 : Nat) ({ cls := "RowPresolveModel", name := "narrowLow", desc := "(IIIJI)V" } : Jvm.MethodName)) ∈ gtbl := gt6 30 rfl rfl
set_option maxRecDepth 20000 in
theorem wk_1312 : (Jvm.Cond.instanceMethod ({ cls := "RowPresolveModel", name := "narrowLow", desc := "(IIIJI)V" } : Jvm.MethodName)) ∈ gtbl := gt6 32 rfl rfl
set_option maxRecDepth 20000 in
theorem wk_1313 : (Jvm.Cond.code ({ cls := "RowPresolveModel", name := "narrowLow", desc := "(IIIJI)V" } : Jvm.MethodName) prog_11_method_23_code (7 : Nat) (Option.none : Option Jvm.ClassFile.FieldType)) ∈ gtbl := gt6 33 rfl rfl
set_option maxRecDepth 20000 in
theorem wk_1314 : (Jvm.Cond.methodLink "RowPresolveModel" (207 : Nat) ({ cls := "RowPresolveModel", name := "narrowHigh", desc := "(IIIJI)V" } : Jvm.MethodName)) ∈ gtbl := gt6 34 rfl rfl
set_option maxRecDepth 20000 in
theorem wk_1316 : (Jvm.Cond.instanceMethod ({ cls := "RowPresolveModel", name := "narrowHigh", desc := "(IIIJI)V" } : Jvm.MethodName)) ∈ gtbl := gt6 36 rfl rfl
set_option maxRecDepth 20000 in
theorem wk_1317 : (Jvm.Cond.code ({ cls := "RowPresolveModel", name := "narrowHigh", desc := "(IIIJI)V" } : Jvm.MethodName) prog_11_method_24_code (7 : Nat) (Option.none : Option Jvm.ClassFile.FieldType)) ∈ gtbl := gt6 37 rfl rfl
set_option maxRecDepth 20000 in
theorem wk_1318 : (Jvm.Cond.methodLink "RowPresolveModel" (272 : Nat) ({ cls := "RowPresolveModel", name := "span", desc := "(I)V" } : Jvm.MethodName)) ∈ gtbl := gt6 38 rfl rfl
set_option maxRecDepth 20000 in
theorem wk_1320 : (Jvm.Cond.instanceMethod ({ cls := "RowPresolveModel", name := "span", desc := "(I)V" } : Jvm.MethodName)) ∈ gtbl := gt6 40 rfl rfl
set_option maxRecDepth 20000 in
theorem wk_1321 : (Jvm.Cond.code ({ cls := "RowPresolveModel", name := "span", desc := "(I)V" } : Jvm.MethodName) prog_11_method_30_code (6 : Nat) (Option.none : Option Jvm.ClassFile.FieldType)) ∈ gtbl := gt6 41 rfl rfl
set_option maxRecDepth 20000 in
theorem wk_1322 : (Jvm.Cond.methodLink "RowPresolveModel" (210 : Nat) ({ cls := "RowPresolveModel", name := "end", desc := "(IIZ)J" } : Jvm.MethodName)) ∈ gtbl := gt6 42 rfl rfl
set_option maxRecDepth 20000 in
theorem wk_1324 : (Jvm.Cond.instanceMethod ({ cls := "RowPresolveModel", name := "end", desc := "(IIZ)J" } : Jvm.MethodName)) ∈ gtbl := gt6 44 rfl rfl
set_option maxRecDepth 20000 in
theorem wk_1325 : (Jvm.Cond.code ({ cls := "RowPresolveModel", name := "end", desc := "(IIZ)J" } : Jvm.MethodName) prog_11_method_18_code (9 : Nat) (Option.some Jvm.ClassFile.FieldType.long)) ∈ gtbl := gt6 45 rfl rfl
set_option maxRecDepth 20000 in
theorem wk_1326 : (Jvm.Cond.methodLink "RowPresolveModel" (214 : Nat) ({ cls := "RowPresolveModel", name := "from", desc := "(IIZ)I" } : Jvm.MethodName)) ∈ gtbl := gt6 46 rfl rfl
set_option maxRecDepth 20000 in
theorem wk_1328 : (Jvm.Cond.instanceMethod ({ cls := "RowPresolveModel", name := "from", desc := "(IIZ)I" } : Jvm.MethodName)) ∈ gtbl := gt6 48 rfl rfl
set_option maxRecDepth 20000 in
theorem wk_1329 : (Jvm.Cond.code ({ cls := "RowPresolveModel", name := "from", desc := "(IIZ)I" } : Jvm.MethodName) prog_11_method_19_code (6 : Nat) (Option.some Jvm.ClassFile.FieldType.int)) ∈ gtbl := gt6 49 rfl rfl
set_option maxRecDepth 20000 in
theorem wk_1330 : (Jvm.Cond.methodLink "RowPresolveModel" (218 : Nat) ({ cls := "RowPresolveModel", name := "toEnds", desc := "(IZ)V" } : Jvm.MethodName)) ∈ gtbl := gt6 50 rfl rfl
set_option maxRecDepth 20000 in
theorem wk_1332 : (Jvm.Cond.instanceMethod ({ cls := "RowPresolveModel", name := "toEnds", desc := "(IZ)V" } : Jvm.MethodName)) ∈ gtbl := gt6 52 rfl rfl
set_option maxRecDepth 20000 in
theorem wk_1333 : (Jvm.Cond.code ({ cls := "RowPresolveModel", name := "toEnds", desc := "(IZ)V" } : Jvm.MethodName) prog_11_method_31_code (5 : Nat) (Option.none : Option Jvm.ClassFile.FieldType)) ∈ gtbl := gt6 53 rfl rfl
set_option maxRecDepth 20000 in
theorem wk_1334 : (Jvm.Cond.methodLink "RowPresolveModel" (275 : Nat) ({ cls := "RowPresolveModel", name := "tight", desc := "(I)V" } : Jvm.MethodName)) ∈ gtbl := gt6 54 rfl rfl
set_option maxRecDepth 20000 in
theorem wk_1336 : (Jvm.Cond.instanceMethod ({ cls := "RowPresolveModel", name := "tight", desc := "(I)V" } : Jvm.MethodName)) ∈ gtbl := gt6 56 rfl rfl
set_option maxRecDepth 20000 in
theorem wk_1337 : (Jvm.Cond.code ({ cls := "RowPresolveModel", name := "tight", desc := "(I)V" } : Jvm.MethodName) prog_11_method_32_code (11 : Nat) (Option.none : Option Jvm.ClassFile.FieldType)) ∈ gtbl := gt6 57 rfl rfl
set_option maxRecDepth 20000 in
theorem wk_1338 : (Jvm.Cond.methodLink "RowPresolveModel" (278 : Nat) ({ cls := "RowPresolveModel", name := "twins", desc := "(I)V" } : Jvm.MethodName)) ∈ gtbl := gt6 58 rfl rfl
set_option maxRecDepth 20000 in
theorem wk_1340 : (Jvm.Cond.instanceMethod ({ cls := "RowPresolveModel", name := "twins", desc := "(I)V" } : Jvm.MethodName)) ∈ gtbl := gt6 60 rfl rfl
set_option maxRecDepth 20000 in
theorem wk_1341 : (Jvm.Cond.code ({ cls := "RowPresolveModel", name := "twins", desc := "(I)V" } : Jvm.MethodName) prog_11_method_35_code (3 : Nat) (Option.none : Option Jvm.ClassFile.FieldType)) ∈ gtbl := gt6 61 rfl rfl
set_option maxRecDepth 20000 in
theorem wk_1342 : (Jvm.Cond.methodLink "RowPresolveModel" (226 : Nat) ({ cls := "RowPresolveModel", name := "twin", desc := "(II)V" } : Jvm.MethodName)) ∈ gtbl := gt6 62 rfl rfl
set_option maxRecDepth 20000 in
theorem wk_1344 : (Jvm.Cond.instanceMethod ({ cls := "RowPresolveModel", name := "twin", desc := "(II)V" } : Jvm.MethodName)) ∈ gtbl := gt6 64 rfl rfl
set_option maxRecDepth 20000 in
theorem wk_1345 : (Jvm.Cond.code ({ cls := "RowPresolveModel", name := "twin", desc := "(II)V" } : Jvm.MethodName) prog_11_method_36_code (6 : Nat) (Option.none : Option Jvm.ClassFile.FieldType)) ∈ gtbl := gt6 65 rfl rfl
set_option maxRecDepth 20000 in
theorem wk_1346 : (Jvm.Cond.methodLink "RowPresolveModel" (229 : Nat) ({ cls := "RowPresolveModel", name := "alike", desc := "(IIJ)Z" } : Jvm.MethodName)) ∈ gtbl := gt6 66 rfl rfl
set_option maxRecDepth 20000 in
theorem wk_1348 : (Jvm.Cond.instanceMethod ({ cls := "RowPresolveModel", name := "alike", desc := "(IIJ)Z" } : Jvm.MethodName)) ∈ gtbl := gt6 68 rfl rfl
set_option maxRecDepth 20000 in
theorem wk_1349 : (Jvm.Cond.code ({ cls := "RowPresolveModel", name := "alike", desc := "(IIJ)Z" } : Jvm.MethodName) prog_11_method_34_code (7 : Nat) (Option.some Jvm.ClassFile.FieldType.boolean)) ∈ gtbl := gt6 69 rfl rfl
set_option maxRecDepth 20000 in
theorem wk_1350 : (Jvm.Cond.methodLink "RowPresolveModel" (281 : Nat) ({ cls := "RowPresolveModel", name := "puts", desc := "(I)V" } : Jvm.MethodName)) ∈ gtbl := gt6 70 rfl rfl
set_option maxRecDepth 20000 in
theorem wk_1352 : (Jvm.Cond.instanceMethod ({ cls := "RowPresolveModel", name := "puts", desc := "(I)V" } : Jvm.MethodName)) ∈ gtbl := gt6 72 rfl rfl
set_option maxRecDepth 20000 in
theorem wk_1353 : (Jvm.Cond.code ({ cls := "RowPresolveModel", name := "puts", desc := "(I)V" } : Jvm.MethodName) prog_11_method_39_code (15 : Nat) (Option.none : Option Jvm.ClassFile.FieldType)) ∈ gtbl := gt6 73 rfl rfl
set_option maxRecDepth 20000 in
theorem wk_1354 : (Jvm.Cond.methodLink "RowPresolveModel" (233 : Nat) ({ cls := "RowPresolveModel", name := "isUnit", desc := "(J)Z" } : Jvm.MethodName)) ∈ gtbl := gt6 74 rfl rfl
set_option maxRecDepth 20000 in
theorem wk_1355 : (Jvm.Cond.static ({ cls := "RowPresolveModel", name := "isUnit", desc := "(J)Z" } : Jvm.MethodName)) ∈ gtbl := gt6 75 rfl rfl
set_option maxRecDepth 20000 in
theorem wk_1356 : (Jvm.Cond.code ({ cls := "RowPresolveModel", name := "isUnit", desc := "(J)Z" } : Jvm.MethodName) prog_11_method_38_code (2 : Nat) (Option.some Jvm.ClassFile.FieldType.boolean)) ∈ gtbl := gt6 76 rfl rfl
set_option maxRecDepth 20000 in
theorem wk_1357 : (Jvm.Cond.methodLink "RowPresolveModel" (237 : Nat) ({ cls := "RowPresolveModel", name := "mayPut", desc := "(IIIJJ)Z" } : Jvm.MethodName)) ∈ gtbl := gt6 77 rfl rfl
set_option maxRecDepth 20000 in
theorem wk_1359 : (Jvm.Cond.instanceMethod ({ cls := "RowPresolveModel", name := "mayPut", desc := "(IIIJJ)Z" } : Jvm.MethodName)) ∈ gtbl := gt6 79 rfl rfl
set_option maxRecDepth 20000 in
theorem wk_1360 : (Jvm.Cond.code ({ cls := "RowPresolveModel", name := "mayPut", desc := "(IIIJJ)Z" } : Jvm.MethodName) prog_11_method_42_code (12 : Nat) (Option.some Jvm.ClassFile.FieldType.boolean)) ∈ gtbl := gt6 80 rfl rfl
set_option maxRecDepth 20000 in
theorem wk_1361 : (Jvm.Cond.methodLink "RowPresolveModel" (252 : Nat) ({ cls := "RowPresolveModel", name := "isCoefficient", desc := "(J)Z" } : Jvm.MethodName)) ∈ gtbl := gt6 81 rfl rfl
set_option maxRecDepth 20000 in
theorem wk_1362 : (Jvm.Cond.static ({ cls := "RowPresolveModel", name := "isCoefficient", desc := "(J)Z" } : Jvm.MethodName)) ∈ gtbl := gt6 82 rfl rfl
set_option maxRecDepth 20000 in
theorem wk_1363 : (Jvm.Cond.code ({ cls := "RowPresolveModel", name := "isCoefficient", desc := "(J)Z" } : Jvm.MethodName) prog_11_method_41_code (2 : Nat) (Option.some Jvm.ClassFile.FieldType.boolean)) ∈ gtbl := gt6 83 rfl rfl
set_option maxRecDepth 20000 in
theorem wk_1364 : (Jvm.Cond.constantLong "RowPresolveModel" (255 : Nat) (-1000000000000000 : Int64)) ∈ gtbl := gt6 84 rfl rfl
set_option maxRecDepth 20000 in
theorem wk_1365 : (Jvm.Cond.constantLong "RowPresolveModel" (257 : Nat) (1000000000000000 : Int64)) ∈ gtbl := gt6 85 rfl rfl
set_option maxRecDepth 20000 in
theorem wk_1366 : (Jvm.Cond.constantLong "RowPresolveModel" (259 : Nat) (-100000000000 : Int64)) ∈ gtbl := gt6 86 rfl rfl
set_option maxRecDepth 20000 in
theorem wk_1367 : (Jvm.Cond.constantLong "RowPresolveModel" (261 : Nat) (100000000000 : Int64)) ∈ gtbl := gt6 87 rfl rfl
set_option maxRecDepth 20000 in
theorem wk_1368 : (Jvm.Cond.methodLink "RowPresolveModel" (241 : Nat) ({ cls := "RowPresolveModel", name := "byBounds", desc := "(IIIJJ)V" } : Jvm.MethodName)) ∈ gtbl := gt6 88 rfl rfl
set_option maxRecDepth 20000 in
theorem wk_1370 : (Jvm.Cond.instanceMethod ({ cls := "RowPresolveModel", name := "byBounds", desc := "(IIIJJ)V" } : Jvm.MethodName)) ∈ gtbl := gt6 90 rfl rfl
set_option maxRecDepth 20000 in
theorem wk_1371 : (Jvm.Cond.code ({ cls := "RowPresolveModel", name := "byBounds", desc := "(IIIJJ)V" } : Jvm.MethodName) prog_11_method_43_code (14 : Nat) (Option.none : Option Jvm.ClassFile.FieldType)) ∈ gtbl := gt6 91 rfl rfl
set_option maxRecDepth 20000 in
theorem wk_1372 : (Jvm.Cond.methodLink "RowPresolveModel" (245 : Nat) ({ cls := "RowPresolveModel", name := "goes", desc := "(IIIJ)V" } : Jvm.MethodName)) ∈ gtbl := gt6 92 rfl rfl
set_option maxRecDepth 20000 in
theorem wk_1374 : (Jvm.Cond.instanceMethod ({ cls := "RowPresolveModel", name := "goes", desc := "(IIIJ)V" } : Jvm.MethodName)) ∈ gtbl := gt6 94 rfl rfl
set_option maxRecDepth 20000 in
theorem wk_1375 : (Jvm.Cond.code ({ cls := "RowPresolveModel", name := "goes", desc := "(IIIJ)V" } : Jvm.MethodName) prog_11_method_40_code (6 : Nat) (Option.none : Option Jvm.ClassFile.FieldType)) ∈ gtbl := gt6 95 rfl rfl
set_option maxRecDepth 20000 in
theorem wk_1376 : (Jvm.Cond.methodLink "RowPresolveModel" (284 : Nat) ({ cls := "RowPresolveModel", name := "less", desc := "(I)V" } : Jvm.MethodName)) ∈ gtbl := gt6 96 rfl rfl
set_option maxRecDepth 20000 in
theorem wk_1378 : (Jvm.Cond.instanceMethod ({ cls := "RowPresolveModel", name := "less", desc := "(I)V" } : Jvm.MethodName)) ∈ gtbl := gt6 98 rfl rfl
set_option maxRecDepth 20000 in
theorem wk_1379 : (Jvm.Cond.code ({ cls := "RowPresolveModel", name := "less", desc := "(I)V" } : Jvm.MethodName) prog_11_method_44_code (9 : Nat) (Option.none : Option Jvm.ClassFile.FieldType)) ∈ gtbl := gt6 99 rfl rfl
set_option maxRecDepth 20000 in
theorem wk_1380 : (Jvm.Cond.methodLink "RowPresolveModel" (299 : Nat) ({ cls := "RowPresolveModel", name := "byColumn", desc := "(II)V" } : Jvm.MethodName)) ∈ gtbl := gt6 100 rfl rfl
set_option maxRecDepth 20000 in
theorem wk_1382 : (Jvm.Cond.instanceMethod ({ cls := "RowPresolveModel", name := "byColumn", desc := "(II)V" } : Jvm.MethodName)) ∈ gtbl := gt6 102 rfl rfl
set_option maxRecDepth 20000 in
theorem wk_1383 : (Jvm.Cond.code ({ cls := "RowPresolveModel", name := "byColumn", desc := "(II)V" } : Jvm.MethodName) prog_11_method_47_code (3 : Nat) (Option.none : Option Jvm.ClassFile.FieldType)) ∈ gtbl := gt6 103 rfl rfl
set_option maxRecDepth 20000 in
theorem wk_1384 : (Jvm.Cond.methodLink "RowPresolveModel" (287 : Nat) ({ cls := "RowPresolveModel", name := "fix", desc := "(I)V" } : Jvm.MethodName)) ∈ gtbl := gt6 104 rfl rfl
set_option maxRecDepth 20000 in
theorem wk_1386 : (Jvm.Cond.instanceMethod ({ cls := "RowPresolveModel", name := "fix", desc := "(I)V" } : Jvm.MethodName)) ∈ gtbl := gt6 106 rfl rfl
set_option maxRecDepth 20000 in
theorem wk_1387 : (Jvm.Cond.code ({ cls := "RowPresolveModel", name := "fix", desc := "(I)V" } : Jvm.MethodName) prog_11_method_33_code (3 : Nat) (Option.none : Option Jvm.ClassFile.FieldType)) ∈ gtbl := gt6 107 rfl rfl
set_option maxRecDepth 20000 in
theorem wk_1388 : (Jvm.Cond.methodLink "RowPresolveModel" (290 : Nat) ({ cls := "RowPresolveModel", name := "side", desc := "(I)V" } : Jvm.MethodName)) ∈ gtbl := gt6 108 rfl rfl
set_option maxRecDepth 20000 in
theorem wk_1390 : (Jvm.Cond.instanceMethod ({ cls := "RowPresolveModel", name := "side", desc := "(I)V" } : Jvm.MethodName)) ∈ gtbl := gt6 110 rfl rfl
set_option maxRecDepth 20000 in
theorem wk_1391 : (Jvm.Cond.code ({ cls := "RowPresolveModel", name := "side", desc := "(I)V" } : Jvm.MethodName) prog_11_method_37_code (5 : Nat) (Option.none : Option Jvm.ClassFile.FieldType)) ∈ gtbl := gt6 111 rfl rfl
set_option maxRecDepth 20000 in
theorem wk_1392 : (Jvm.Cond.methodLink "RowPresolveModel" (293 : Nat) ({ cls := "RowPresolveModel", name := "free", desc := "(I)V" } : Jvm.MethodName)) ∈ gtbl := gt6 112 rfl rfl
set_option maxRecDepth 20000 in
theorem wk_1394 : (Jvm.Cond.instanceMethod ({ cls := "RowPresolveModel", name := "free", desc := "(I)V" } : Jvm.MethodName)) ∈ gtbl := gt6 114 rfl rfl
set_option maxRecDepth 20000 in
theorem wk_1395 : (Jvm.Cond.code ({ cls := "RowPresolveModel", name := "free", desc := "(I)V" } : Jvm.MethodName) prog_11_method_45_code (19 : Nat) (Option.none : Option Jvm.ClassFile.FieldType)) ∈ gtbl := gt6 115 rfl rfl
set_option maxRecDepth 20000 in
theorem wk_1397 : (Jvm.Cond.instanceMethod ({ cls := "RowPresolveModel", name := "state", desc := "(I)I" } : Jvm.MethodName)) ∈ gtbl := gt6 117 rfl rfl
set_option maxRecDepth 20000 in
theorem wk_1398 : (Jvm.Cond.selects "RowPresolveModel" ({ cls := "RowPresolveModel", name := "state", desc := "(I)I" } : Jvm.MethodName) ({ cls := "RowPresolveModel", name := "state", desc := "(I)I" } : Jvm.MethodName)) ∈ gtbl := gt6 118 rfl rfl
set_option maxRecDepth 20000 in
theorem wk_1399 : (Jvm.Cond.code ({ cls := "RowPresolveModel", name := "state", desc := "(I)I" } : Jvm.MethodName) prog_11_method_51_code (2 : Nat) (Option.some Jvm.ClassFile.FieldType.int)) ∈ gtbl := gt6 119 rfl rfl
set_option maxRecDepth 20000 in
theorem wk_1401 : (Jvm.Cond.instanceMethod ({ cls := "RowPresolveModel", name := "bound", desc := "(IZ)I" } : Jvm.MethodName)) ∈ gtbl := gt6 121 rfl rfl
set_option maxRecDepth 20000 in
theorem wk_1402 : (Jvm.Cond.selects "RowPresolveModel" ({ cls := "RowPresolveModel", name := "bound", desc := "(IZ)I" } : Jvm.MethodName) ({ cls := "RowPresolveModel", name := "bound", desc := "(IZ)I" } : Jvm.MethodName)) ∈ gtbl := gt6 122 rfl rfl
set_option maxRecDepth 20000 in
theorem wk_1403 : (Jvm.Cond.code ({ cls := "RowPresolveModel", name := "bound", desc := "(IZ)I" } : Jvm.MethodName) prog_11_method_52_code (3 : Nat) (Option.some Jvm.ClassFile.FieldType.int)) ∈ gtbl := gt6 123 rfl rfl
set_option maxRecDepth 20000 in
theorem wk_1405 : (Jvm.Cond.instanceMethod ({ cls := "RowPresolveModel", name := "cost", desc := "(I)I" } : Jvm.MethodName)) ∈ gtbl := gt6 125 rfl rfl
set_option maxRecDepth 20000 in
theorem wk_1406 : (Jvm.Cond.selects "RowPresolveModel" ({ cls := "RowPresolveModel", name := "cost", desc := "(I)I" } : Jvm.MethodName) ({ cls := "RowPresolveModel", name := "cost", desc := "(I)I" } : Jvm.MethodName)) ∈ gtbl := gt6 126 rfl rfl
set_option maxRecDepth 20000 in
theorem wk_1407 : (Jvm.Cond.code ({ cls := "RowPresolveModel", name := "cost", desc := "(I)I" } : Jvm.MethodName) prog_11_method_53_code (2 : Nat) (Option.some Jvm.ClassFile.FieldType.int)) ∈ gtbl := gt6 127 rfl rfl
set_option maxRecDepth 20000 in
theorem wk_1409 : (Jvm.Cond.instanceMethod ({ cls := "RowPresolveModel", name := "kind", desc := "(I)I" } : Jvm.MethodName)) ∈ gtbl := gt6 129 rfl rfl
set_option maxRecDepth 20000 in
theorem wk_1410 : (Jvm.Cond.selects "RowPresolveModel" ({ cls := "RowPresolveModel", name := "kind", desc := "(I)I" } : Jvm.MethodName) ({ cls := "RowPresolveModel", name := "kind", desc := "(I)I" } : Jvm.MethodName)) ∈ gtbl := gt6 130 rfl rfl
set_option maxRecDepth 20000 in
theorem wk_1411 : (Jvm.Cond.code ({ cls := "RowPresolveModel", name := "kind", desc := "(I)I" } : Jvm.MethodName) prog_11_method_54_code (2 : Nat) (Option.some Jvm.ClassFile.FieldType.int)) ∈ gtbl := gt6 131 rfl rfl
set_option maxRecDepth 20000 in
theorem wk_1413 : (Jvm.Cond.instanceMethod ({ cls := "RowPresolveModel", name := "right", desc := "(I)J" } : Jvm.MethodName)) ∈ gtbl := gt6 133 rfl rfl
set_option maxRecDepth 20000 in
theorem wk_1414 : (Jvm.Cond.selects "RowPresolveModel" ({ cls := "RowPresolveModel", name := "right", desc := "(I)J" } : Jvm.MethodName) ({ cls := "RowPresolveModel", name := "right", desc := "(I)J" } : Jvm.MethodName)) ∈ gtbl := gt6 134 rfl rfl
set_option maxRecDepth 20000 in
theorem wk_1415 : (Jvm.Cond.code ({ cls := "RowPresolveModel", name := "right", desc := "(I)J" } : Jvm.MethodName) prog_11_method_55_code (2 : Nat) (Option.some Jvm.ClassFile.FieldType.long)) ∈ gtbl := gt6 135 rfl rfl
set_option maxRecDepth 20000 in
theorem wk_1417 : (Jvm.Cond.instanceMethod ({ cls := "RowPresolveModel", name := "coefficient", desc := "(II)I" } : Jvm.MethodName)) ∈ gtbl := gt6 137 rfl rfl
set_option maxRecDepth 20000 in
theorem wk_1418 : (Jvm.Cond.selects "RowPresolveModel" ({ cls := "RowPresolveModel", name := "coefficient", desc := "(II)I" } : Jvm.MethodName) ({ cls := "RowPresolveModel", name := "coefficient", desc := "(II)I" } : Jvm.MethodName)) ∈ gtbl := gt6 138 rfl rfl
set_option maxRecDepth 20000 in
theorem wk_1419 : (Jvm.Cond.code ({ cls := "RowPresolveModel", name := "coefficient", desc := "(II)I" } : Jvm.MethodName) prog_11_method_56_code (3 : Nat) (Option.some Jvm.ClassFile.FieldType.int)) ∈ gtbl := gt6 139 rfl rfl
set_option maxRecDepth 20000 in
theorem wk_1421 : (Jvm.Cond.instanceMethod ({ cls := "RowPresolveModel", name := "offset", desc := "()J" } : Jvm.MethodName)) ∈ gtbl := gt6 141 rfl rfl
set_option maxRecDepth 20000 in
theorem wk_1422 : (Jvm.Cond.selects "RowPresolveModel" ({ cls := "RowPresolveModel", name := "offset", desc := "()J" } : Jvm.MethodName) ({ cls := "RowPresolveModel", name := "offset", desc := "()J" } : Jvm.MethodName)) ∈ gtbl := gt6 142 rfl rfl
set_option maxRecDepth 20000 in
theorem wk_1423 : (Jvm.Cond.code ({ cls := "RowPresolveModel", name := "offset", desc := "()J" } : Jvm.MethodName) prog_11_method_57_code (1 : Nat) (Option.some Jvm.ClassFile.FieldType.long)) ∈ gtbl := gt6 143 rfl rfl
set_option maxRecDepth 20000 in
theorem wk_1425 : (Jvm.Cond.instanceMethod ({ cls := "RowPresolveModel", name := "rest", desc := "(II)I" } : Jvm.MethodName)) ∈ gtbl := gt6 145 rfl rfl
set_option maxRecDepth 20000 in
theorem wk_1426 : (Jvm.Cond.selects "RowPresolveModel" ({ cls := "RowPresolveModel", name := "rest", desc := "(II)I" } : Jvm.MethodName) ({ cls := "RowPresolveModel", name := "rest", desc := "(II)I" } : Jvm.MethodName)) ∈ gtbl := gt6 146 rfl rfl
set_option maxRecDepth 20000 in
theorem wk_1427 : (Jvm.Cond.code ({ cls := "RowPresolveModel", name := "rest", desc := "(II)I" } : Jvm.MethodName) prog_11_method_58_code (3 : Nat) (Option.some Jvm.ClassFile.FieldType.int)) ∈ gtbl := gt6 147 rfl rfl
set_option maxRecDepth 20000 in
theorem wk_1428 : (Jvm.Cond.constantLong "RowPresolveModel" (312 : Nat) (2 : Int64)) ∈ gtbl := gt6 148 rfl rfl
set_option maxRecDepth 20000 in
theorem wk_1429 : (Jvm.Cond.methodLink "RowPresolveModel" (314 : Nat) ({ cls := "RowPresolveModel", name := "passes3", desc := "(ZZZ)Z" } : Jvm.MethodName)) ∈ gtbl := gt6 149 rfl rfl
set_option maxRecDepth 20000 in
theorem wk_1431 : (Jvm.Cond.instanceMethod ({ cls := "RowPresolveModel", name := "passes3", desc := "(ZZZ)Z" } : Jvm.MethodName)) ∈ gtbl := gt6 151 rfl rfl
set_option maxRecDepth 20000 in
theorem wk_1432 : (Jvm.Cond.code ({ cls := "RowPresolveModel", name := "passes3", desc := "(ZZZ)Z" } : Jvm.MethodName) prog_11_method_5_code (4 : Nat) (Option.some Jvm.ClassFile.FieldType.boolean)) ∈ gtbl := gt6 152 rfl rfl
set_option maxRecDepth 20000 in
theorem wk_1434 : (Jvm.Cond.instanceMethod ({ cls := "RowPresolveModel", name := "certificate", desc := "()I" } : Jvm.MethodName)) ∈ gtbl := gt6 154 rfl rfl
set_option maxRecDepth 20000 in
theorem wk_1435 : (Jvm.Cond.selects "RowPresolveModel" ({ cls := "RowPresolveModel", name := "certificate", desc := "()I" } : Jvm.MethodName) ({ cls := "RowPresolveModel", name := "certificate", desc := "()I" } : Jvm.MethodName)) ∈ gtbl := gt6 155 rfl rfl
set_option maxRecDepth 20000 in
theorem wk_1436 : (Jvm.Cond.code ({ cls := "RowPresolveModel", name := "certificate", desc := "()I" } : Jvm.MethodName) prog_11_method_59_code (1 : Nat) (Option.some Jvm.ClassFile.FieldType.int)) ∈ gtbl := gt6 156 rfl rfl
set_option maxRecDepth 20000 in
theorem wk_1438 : (Jvm.Cond.instanceMethod ({ cls := "RowPresolveModel", name := "certified", desc := "()I" } : Jvm.MethodName)) ∈ gtbl := gt6 158 rfl rfl
set_option maxRecDepth 20000 in
theorem wk_1439 : (Jvm.Cond.selects "RowPresolveModel" ({ cls := "RowPresolveModel", name := "certified", desc := "()I" } : Jvm.MethodName) ({ cls := "RowPresolveModel", name := "certified", desc := "()I" } : Jvm.MethodName)) ∈ gtbl := gt6 159 rfl rfl
set_option maxRecDepth 20000 in
theorem wk_1440 : (Jvm.Cond.code ({ cls := "RowPresolveModel", name := "certified", desc := "()I" } : Jvm.MethodName) prog_11_method_65_code (6 : Nat) (Option.some Jvm.ClassFile.FieldType.int)) ∈ gtbl := gt6 160 rfl rfl
set_option maxRecDepth 20000 in
theorem wk_1441 : (Jvm.Cond.methodLink "RowPresolveModel" (322 : Nat) ({ cls := "RowPresolveModel", name := "points", desc := "(Z)I" } : Jvm.MethodName)) ∈ gtbl := gt6 161 rfl rfl
set_option maxRecDepth 20000 in
theorem wk_1443 : (Jvm.Cond.instanceMethod ({ cls := "RowPresolveModel", name := "points", desc := "(Z)I" } : Jvm.MethodName)) ∈ gtbl := gt6 163 rfl rfl
set_option maxRecDepth 20000 in
theorem wk_1444 : (Jvm.Cond.code ({ cls := "RowPresolveModel", name := "points", desc := "(Z)I" } : Jvm.MethodName) prog_11_method_60_code (7 : Nat) (Option.some Jvm.ClassFile.FieldType.int)) ∈ gtbl := gt6 164 rfl rfl
set_option maxRecDepth 20000 in
theorem wk_1445 : (Jvm.Cond.constantLong "RowPresolveModel" (318 : Nat) (4000 : Int64)) ∈ gtbl := gt6 165 rfl rfl
set_option maxRecDepth 20000 in
theorem wk_1446 : (Jvm.Cond.constantLong "RowPresolveModel" (320 : Nat) (4001 : Int64)) ∈ gtbl := gt6 166 rfl rfl
set_option maxRecDepth 20000 in
theorem wk_1447 : (Jvm.Cond.methodLink "RowPresolveModel" (326 : Nat) ({ cls := "RowPresolveModel", name := "firstPoint", desc := "(Z)V" } : Jvm.MethodName)) ∈ gtbl := gt6 167 rfl rfl
set_option maxRecDepth 20000 in
theorem wk_1449 : (Jvm.Cond.instanceMethod ({ cls := "RowPresolveModel", name := "firstPoint", desc := "(Z)V" } : Jvm.MethodName)) ∈ gtbl := gt6 169 rfl rfl
set_option maxRecDepth 20000 in
theorem wk_1450 : (Jvm.Cond.code ({ cls := "RowPresolveModel", name := "firstPoint", desc := "(Z)V" } : Jvm.MethodName) prog_11_method_61_code (3 : Nat) (Option.none : Option Jvm.ClassFile.FieldType)) ∈ gtbl := gt6 170 rfl rfl
set_option maxRecDepth 20000 in
theorem wk_1451 : (Jvm.Cond.methodLink "RowPresolveModel" (330 : Nat) ({ cls := "RowPresolveModel", name := "holds", desc := "(I)Z" } : Jvm.MethodName)) ∈ gtbl := gt6 171 rfl rfl
set_option maxRecDepth 20000 in
theorem wk_1453 : (Jvm.Cond.instanceMethod ({ cls := "RowPresolveModel", name := "holds", desc := "(I)Z" } : Jvm.MethodName)) ∈ gtbl := gt6 173 rfl rfl
set_option maxRecDepth 20000 in
theorem wk_1454 : (Jvm.Cond.code ({ cls := "RowPresolveModel", name := "holds", desc := "(I)Z" } : Jvm.MethodName) prog_11_method_63_code (5 : Nat) (Option.some Jvm.ClassFile.FieldType.boolean)) ∈ gtbl := gt6 174 rfl rfl
set_option maxRecDepth 20000 in
theorem wk_1455 : (Jvm.Cond.methodLink "RowPresolveModel" (333 : Nat) ({ cls := "RowPresolveModel", name := "nextPoint", desc := "(Z)V" } : Jvm.MethodName)) ∈ gtbl := gt6 175 rfl rfl
set_option maxRecDepth 20000 in
theorem wk_1457 : (Jvm.Cond.instanceMethod ({ cls := "RowPresolveModel", name := "nextPoint", desc := "(Z)V" } : Jvm.MethodName)) ∈ gtbl := gt6 177 rfl rfl
set_option maxRecDepth 20000 in
theorem wk_1458 : (Jvm.Cond.code ({ cls := "RowPresolveModel", name := "nextPoint", desc := "(Z)V" } : Jvm.MethodName) prog_11_method_62_code (5 : Nat) (Option.none : Option Jvm.ClassFile.FieldType)) ∈ gtbl := gt6 178 rfl rfl
set_option maxRecDepth 20000 in
theorem wk_1460 : (Jvm.Cond.instanceMethod ({ cls := "RowPresolveModel", name := "acts", desc := "()I" } : Jvm.MethodName)) ∈ gtbl := gt6 180 rfl rfl
set_option maxRecDepth 20000 in
theorem wk_1461 : (Jvm.Cond.selects "RowPresolveModel" ({ cls := "RowPresolveModel", name := "acts", desc := "()I" } : Jvm.MethodName) ({ cls := "RowPresolveModel", name := "acts", desc := "()I" } : Jvm.MethodName)) ∈ gtbl := gt6 181 rfl rfl
set_option maxRecDepth 20000 in
theorem wk_1462 : (Jvm.Cond.code ({ cls := "RowPresolveModel", name := "acts", desc := "()I" } : Jvm.MethodName) prog_11_method_66_code (1 : Nat) (Option.some Jvm.ClassFile.FieldType.int)) ∈ gtbl := gt6 182 rfl rfl
set_option maxRecDepth 20000 in
theorem wk_1464 : (Jvm.Cond.instanceMethod ({ cls := "RowPresolveModel", name := "act", desc := "(II)J" } : Jvm.MethodName)) ∈ gtbl := gt6 184 rfl rfl
set_option maxRecDepth 20000 in
theorem wk_1465 : (Jvm.Cond.selects "RowPresolveModel" ({ cls := "RowPresolveModel", name := "act", desc := "(II)J" } : Jvm.MethodName) ({ cls := "RowPresolveModel", name := "act", desc := "(II)J" } : Jvm.MethodName)) ∈ gtbl := gt6 185 rfl rfl
set_option maxRecDepth 20000 in
theorem wk_1466 : (Jvm.Cond.code ({ cls := "RowPresolveModel", name := "act", desc := "(II)J" } : Jvm.MethodName) prog_11_method_67_code (4 : Nat) (Option.some Jvm.ClassFile.FieldType.long)) ∈ gtbl := gt6 186 rfl rfl
set_option maxRecDepth 20000 in
theorem wk_1467 : (Jvm.Cond.constantLong "RowPresolveModel" (336 : Nat) (4 : Int64)) ∈ gtbl := gt6 187 rfl rfl
set_option maxRecDepth 20000 in
theorem wk_1469 : (Jvm.Cond.instanceMethod ({ cls := "RowPresolveModel", name := "parts", desc := "()I" } : Jvm.MethodName)) ∈ gtbl := gt6 189 rfl rfl
set_option maxRecDepth 20000 in
theorem wk_1470 : (Jvm.Cond.selects "RowPresolveModel" ({ cls := "RowPresolveModel", name := "parts", desc := "()I" } : Jvm.MethodName) ({ cls := "RowPresolveModel", name := "parts", desc := "()I" } : Jvm.MethodName)) ∈ gtbl := gt6 190 rfl rfl
set_option maxRecDepth 20000 in
theorem wk_1471 : (Jvm.Cond.code ({ cls := "RowPresolveModel", name := "parts", desc := "()I" } : Jvm.MethodName) prog_11_method_68_code (3 : Nat) (Option.some Jvm.ClassFile.FieldType.int)) ∈ gtbl := gt6 191 rfl rfl
set_option maxRecDepth 20000 in
theorem wk_1472 : (Jvm.Cond.methodLink "RowPresolveModel" (338 : Nat) ({ cls := "RowPresolveModel", name := "joinParts", desc := "(I)V" } : Jvm.MethodName)) ∈ gtbl := gt6 192 rfl rfl
set_option maxRecDepth 20000 in
theorem wk_1474 : (Jvm.Cond.instanceMethod ({ cls := "RowPresolveModel", name := "joinParts", desc := "(I)V" } : Jvm.MethodName)) ∈ gtbl := gt6 194 rfl rfl
set_option maxRecDepth 20000 in
theorem wk_1475 : (Jvm.Cond.code ({ cls := "RowPresolveModel", name := "joinParts", desc := "(I)V" } : Jvm.MethodName) prog_11_method_69_code (4 : Nat) (Option.none : Option Jvm.ClassFile.FieldType)) ∈ gtbl := gt6 195 rfl rfl
set_option maxRecDepth 20000 in
theorem wk_1477 : (Jvm.Cond.instanceMethod ({ cls := "RowPresolveModel", name := "clique", desc := "(I)I" } : Jvm.MethodName)) ∈ gtbl := gt6 197 rfl rfl
set_option maxRecDepth 20000 in
theorem wk_1478 : (Jvm.Cond.selects "RowPresolveModel" ({ cls := "RowPresolveModel", name := "clique", desc := "(I)I" } : Jvm.MethodName) ({ cls := "RowPresolveModel", name := "clique", desc := "(I)I" } : Jvm.MethodName)) ∈ gtbl := gt6 198 rfl rfl
set_option maxRecDepth 20000 in
theorem wk_1479 : (Jvm.Cond.code ({ cls := "RowPresolveModel", name := "clique", desc := "(I)I" } : Jvm.MethodName) prog_11_method_72_code (2 : Nat) (Option.some Jvm.ClassFile.FieldType.int)) ∈ gtbl := gt6 199 rfl rfl
set_option maxRecDepth 20000 in
theorem wk_1480 : (Jvm.Cond.methodLink "RowPresolveModel" (345 : Nat) ({ cls := "RowPresolveModel", name := "cliqueOf", desc := "(I)I" } : Jvm.MethodName)) ∈ gtbl := gt6 200 rfl rfl
set_option maxRecDepth 20000 in
theorem wk_1482 : (Jvm.Cond.instanceMethod ({ cls := "RowPresolveModel", name := "cliqueOf", desc := "(I)I" } : Jvm.MethodName)) ∈ gtbl := gt6 202 rfl rfl
set_option maxRecDepth 20000 in
theorem wk_1483 : (Jvm.Cond.code ({ cls := "RowPresolveModel", name := "cliqueOf", desc := "(I)I" } : Jvm.MethodName) prog_11_method_71_code (7 : Nat) (Option.some Jvm.ClassFile.FieldType.int)) ∈ gtbl := gt6 203 rfl rfl
set_option maxRecDepth 20000 in
theorem wk_1484 : (Jvm.Cond.methodLink "RowPresolveModel" (341 : Nat) ({ cls := "RowPresolveModel", name := "amount", desc := "(II)J" } : Jvm.MethodName)) ∈ gtbl := gt6 204 rfl rfl
set_option maxRecDepth 20000 in
theorem wk_1486 : (Jvm.Cond.instanceMethod ({ cls := "RowPresolveModel", name := "amount", desc := "(II)J" } : Jvm.MethodName)) ∈ gtbl := gt6 206 rfl rfl
set_option maxRecDepth 20000 in
theorem wk_1487 : (Jvm.Cond.code ({ cls := "RowPresolveModel", name := "amount", desc := "(II)J" } : Jvm.MethodName) prog_11_method_70_code (5 : Nat) (Option.some Jvm.ClassFile.FieldType.long)) ∈ gtbl := gt6 207 rfl rfl
set_option maxRecDepth 20000 in
theorem wk_1489 : (Jvm.Cond.instanceMethod ({ cls := "RowPresolveModel", name := "cliqueAt", desc := "(II)I" } : Jvm.MethodName)) ∈ gtbl := gt6 209 rfl rfl
set_option maxRecDepth 20000 in
theorem wk_1490 : (Jvm.Cond.selects "RowPresolveModel" ({ cls := "RowPresolveModel", name := "cliqueAt", desc := "(II)I" } : Jvm.MethodName) ({ cls := "RowPresolveModel", name := "cliqueAt", desc := "(II)I" } : Jvm.MethodName)) ∈ gtbl := gt6 210 rfl rfl
set_option maxRecDepth 20000 in
theorem wk_1491 : (Jvm.Cond.code ({ cls := "RowPresolveModel", name := "cliqueAt", desc := "(II)I" } : Jvm.MethodName) prog_11_method_73_code (4 : Nat) (Option.some Jvm.ClassFile.FieldType.int)) ∈ gtbl := gt6 211 rfl rfl
set_option maxRecDepth 20000 in
theorem wk_1493 : (Jvm.Cond.instanceMethod ({ cls := "RowPresolveModel", name := "same", desc := "(II)Z" } : Jvm.MethodName)) ∈ gtbl := gt6 213 rfl rfl
set_option maxRecDepth 20000 in
theorem wk_1494 : (Jvm.Cond.selects "RowPresolveModel" ({ cls := "RowPresolveModel", name := "same", desc := "(II)Z" } : Jvm.MethodName) ({ cls := "RowPresolveModel", name := "same", desc := "(II)Z" } : Jvm.MethodName)) ∈ gtbl := gt6 214 rfl rfl
set_option maxRecDepth 20000 in
theorem wk_1495 : (Jvm.Cond.code ({ cls := "RowPresolveModel", name := "same", desc := "(II)Z" } : Jvm.MethodName) prog_11_method_74_code (5 : Nat) (Option.some Jvm.ClassFile.FieldType.boolean)) ∈ gtbl := gt6 215 rfl rfl
set_option maxRecDepth 20000 in
theorem wk_1497 : (Jvm.Cond.instanceMethod ({ cls := "RowPresolveModel", name := "put", desc := "(II)V" } : Jvm.MethodName)) ∈ gtbl := gt6 217 rfl rfl
set_option maxRecDepth 20000 in
theorem wk_1498 : (Jvm.Cond.selects "RowPresolveModel" ({ cls := "RowPresolveModel", name := "put", desc := "(II)V" } : Jvm.MethodName) ({ cls := "RowPresolveModel", name := "put", desc := "(II)V" } : Jvm.MethodName)) ∈ gtbl := gt6 218 rfl rfl
set_option maxRecDepth 20000 in
theorem wk_1499 : (Jvm.Cond.code ({ cls := "RowPresolveModel", name := "put", desc := "(II)V" } : Jvm.MethodName) prog_11_method_75_code (4 : Nat) (Option.none : Option Jvm.ClassFile.FieldType)) ∈ gtbl := gt6 219 rfl rfl
set_option maxRecDepth 20000 in
theorem wk_1501 : (Jvm.Cond.instanceMethod ({ cls := "RowPresolveModel", name := "back", desc := "()I" } : Jvm.MethodName)) ∈ gtbl := gt6 221 rfl rfl
set_option maxRecDepth 20000 in
theorem wk_1502 : (Jvm.Cond.selects "RowPresolveModel" ({ cls := "RowPresolveModel", name := "back", desc := "()I" } : Jvm.MethodName) ({ cls := "RowPresolveModel", name := "back", desc := "()I" } : Jvm.MethodName)) ∈ gtbl := gt6 222 rfl rfl
set_option maxRecDepth 20000 in
theorem wk_1503 : (Jvm.Cond.code ({ cls := "RowPresolveModel", name := "back", desc := "()I" } : Jvm.MethodName) prog_11_method_76_code (7 : Nat) (Option.some Jvm.ClassFile.FieldType.int)) ∈ gtbl := gt6 223 rfl rfl
set_option maxRecDepth 20000 in
theorem wk_1505 : (Jvm.Cond.instanceMethod ({ cls := "RowPresolveModel", name := "at", desc := "(I)I" } : Jvm.MethodName)) ∈ gtbl := gt6 225 rfl rfl
set_option maxRecDepth 20000 in
theorem wk_1506 : (Jvm.Cond.selects "RowPresolveModel" ({ cls := "RowPresolveModel", name := "at", desc := "(I)I" } : Jvm.MethodName) ({ cls := "RowPresolveModel", name := "at", desc := "(I)I" } : Jvm.MethodName)) ∈ gtbl := gt6 226 rfl rfl
set_option maxRecDepth 20000 in
theorem wk_1507 : (Jvm.Cond.code ({ cls := "RowPresolveModel", name := "at", desc := "(I)I" } : Jvm.MethodName) prog_11_method_77_code (2 : Nat) (Option.some Jvm.ClassFile.FieldType.int)) ∈ gtbl := gt6 227 rfl rfl
set_option maxRecDepth 20000 in
theorem wk_1509 : (Jvm.Cond.instanceMethod ({ cls := "RowPresolveModel", name := "value", desc := "()J" } : Jvm.MethodName)) ∈ gtbl := gt6 229 rfl rfl
set_option maxRecDepth 20000 in
theorem wk_1510 : (Jvm.Cond.selects "RowPresolveModel" ({ cls := "RowPresolveModel", name := "value", desc := "()J" } : Jvm.MethodName) ({ cls := "RowPresolveModel", name := "value", desc := "()J" } : Jvm.MethodName)) ∈ gtbl := gt6 230 rfl rfl
set_option maxRecDepth 20000 in
theorem wk_1511 : (Jvm.Cond.code ({ cls := "RowPresolveModel", name := "value", desc := "()J" } : Jvm.MethodName) prog_11_method_78_code (4 : Nat) (Option.some Jvm.ClassFile.FieldType.long)) ∈ gtbl := gt6 231 rfl rfl
set_option maxRecDepth 20000 in
theorem wk_1513 : (Jvm.Cond.instanceMethod ({ cls := "RowPresolveModel", name := "best", desc := "(Z)I" } : Jvm.MethodName)) ∈ gtbl := gt6 233 rfl rfl
set_option maxRecDepth 20000 in
theorem wk_1514 : (Jvm.Cond.selects "RowPresolveModel" ({ cls := "RowPresolveModel", name := "best", desc := "(Z)I" } : Jvm.MethodName) ({ cls := "RowPresolveModel", name := "best", desc := "(Z)I" } : Jvm.MethodName)) ∈ gtbl := gt6 234 rfl rfl
set_option maxRecDepth 20000 in
theorem wk_1515 : (Jvm.Cond.code ({ cls := "RowPresolveModel", name := "best", desc := "(Z)I" } : Jvm.MethodName) prog_11_method_80_code (8 : Nat) (Option.some Jvm.ClassFile.FieldType.int)) ∈ gtbl := gt6 235 rfl rfl
set_option maxRecDepth 20000 in
theorem wk_1516 : (Jvm.Cond.methodLink "RowPresolveModel" (348 : Nat) ({ cls := "RowPresolveModel", name := "holdsSmall", desc := "(I)Z" } : Jvm.MethodName)) ∈ gtbl := gt6 236 rfl rfl
set_option maxRecDepth 20000 in
theorem wk_1518 : (Jvm.Cond.instanceMethod ({ cls := "RowPresolveModel", name := "holdsSmall", desc := "(I)Z" } : Jvm.MethodName)) ∈ gtbl := gt6 238 rfl rfl
set_option maxRecDepth 20000 in
theorem wk_1519 : (Jvm.Cond.code ({ cls := "RowPresolveModel", name := "holdsSmall", desc := "(I)Z" } : Jvm.MethodName) prog_11_method_64_code (5 : Nat) (Option.some Jvm.ClassFile.FieldType.boolean)) ∈ gtbl := gt6 239 rfl rfl
set_option maxRecDepth 20000 in
theorem wk_1520 : (Jvm.Cond.methodLink "RowPresolveModel" (351 : Nat) ({ cls := "RowPresolveModel", name := "price", desc := "(Z)J" } : Jvm.MethodName)) ∈ gtbl := gt7 0 rfl rfl
set_option maxRecDepth 20000 in
theorem wk_1522 : (Jvm.Cond.instanceMethod ({ cls := "RowPresolveModel", name := "price", desc := "(Z)J" } : Jvm.MethodName)) ∈ gtbl := gt7 2 rfl rfl
set_option maxRecDepth 20000 in
theorem wk_1523 : (Jvm.Cond.code ({ cls := "RowPresolveModel", name := "price", desc := "(Z)J" } : Jvm.MethodName) prog_11_method_79_code (5 : Nat) (Option.some Jvm.ClassFile.FieldType.long)) ∈ gtbl := gt7 3 rfl rfl
set_option maxRecDepth 20000 in
theorem wk_1525 : (Jvm.Cond.instanceMethod ({ cls := "RowPresolveModel", name := "bestValue", desc := "()J" } : Jvm.MethodName)) ∈ gtbl := gt7 5 rfl rfl
set_option maxRecDepth 20000 in
theorem wk_1526 : (Jvm.Cond.selects "RowPresolveModel" ({ cls := "RowPresolveModel", name := "bestValue", desc := "()J" } : Jvm.MethodName) ({ cls := "RowPresolveModel", name := "bestValue", desc := "()J" } : Jvm.MethodName)) ∈ gtbl := gt7 6 rfl rfl
set_option maxRecDepth 20000 in
theorem wk_1527 : (Jvm.Cond.code ({ cls := "RowPresolveModel", name := "bestValue", desc := "()J" } : Jvm.MethodName) prog_11_method_81_code (1 : Nat) (Option.some Jvm.ClassFile.FieldType.long)) ∈ gtbl := gt7 7 rfl rfl
set_option maxRecDepth 20000 in
theorem wk_1529 : (Jvm.Cond.instanceMethod ({ cls := "RowPresolveModel", name := "bestAt", desc := "(I)I" } : Jvm.MethodName)) ∈ gtbl := gt7 9 rfl rfl
set_option maxRecDepth 20000 in
theorem wk_1530 : (Jvm.Cond.selects "RowPresolveModel" ({ cls := "RowPresolveModel", name := "bestAt", desc := "(I)I" } : Jvm.MethodName) ({ cls := "RowPresolveModel", name := "bestAt", desc := "(I)I" } : Jvm.MethodName)) ∈ gtbl := gt7 10 rfl rfl
set_option maxRecDepth 20000 in
theorem wk_1531 : (Jvm.Cond.code ({ cls := "RowPresolveModel", name := "bestAt", desc := "(I)I" } : Jvm.MethodName) prog_11_method_82_code (2 : Nat) (Option.some Jvm.ClassFile.FieldType.int)) ∈ gtbl := gt7 11 rfl rfl
theorem sw_J9_floorDiv_f86c9 : swd yJ9_floorDiv_f86c9 cJ9_floorDiv_f86c9 6 (some .long) 2 := ⟨wk_641, wk_98, wk_642, by decide, by decide +kernel⟩
theorem sw_J9_abs_067f4 : swd yJ9_abs_067f4 cJ9_abs_067f4 2 (some .long) 1 := ⟨wk_631, wk_98, wk_632, by decide, by decide +kernel⟩
theorem iw_X0_countKept : iwd yX0_countKept cX0_countKept 1 (some .int) 0 := ⟨wk_911, wk_912, wk_84, wk_913, by decide, by decide +kernel⟩
theorem iw_X0_note : iwd yX0_note cX0_note 8 none 5 := ⟨wk_619, wk_620, wk_84, wk_621, by decide, by decide +kernel⟩
theorem iw_X6_isThere : iwd yX6_isThere cX6_isThere 2 (some .boolean) 1 := ⟨wk_590, wk_591, wk_82, wk_592, by decide, by decide +kernel⟩
theorem iw_X6_isGone : iwd yX6_isGone cX6_isGone 2 (some .boolean) 1 := ⟨wk_594, wk_595, wk_82, wk_596, by decide, by decide +kernel⟩
theorem iw_X6_allRows : iwd yX6_allRows cX6_allRows 1 (some .int) 0 := ⟨wk_725, wk_726, wk_82, wk_727, by decide, by decide +kernel⟩
theorem iw_X6_makeEmpty : iwd yX6_makeEmpty cX6_makeEmpty 3 none 0 := ⟨wk_414, wk_415, wk_82, wk_416, by decide, by decide +kernel⟩
theorem iw_X6_copyFrom : iwd yX6_copyFrom cX6_copyFrom 3 none 1 := ⟨wk_572, wk_573, wk_82, wk_574, by decide, by decide +kernel⟩
theorem iw_X6_nextTerm : iwd yX6_nextTerm cX6_nextTerm 4 (some .int) 2 := ⟨wk_602, wk_603, wk_82, wk_604, by decide, by decide +kernel⟩
theorem iw_X6_countTerms : iwd yX6_countTerms cX6_countTerms 4 (some .int) 1 := ⟨wk_656, wk_657, wk_82, wk_658, by decide, by decide +kernel⟩
theorem iw_X6_isUnit : iwd yX6_isUnit cX6_isUnit 3 (some .boolean) 2 := ⟨wk_735, wk_736, wk_82, wk_737, by decide, by decide +kernel⟩
theorem iw_X6_isBinary : iwd yX6_isBinary cX6_isBinary 2 (some .boolean) 1 := ⟨wk_772, wk_773, wk_82, wk_774, by decide, by decide +kernel⟩
theorem iw_X6_countPoints : iwd yX6_countPoints cX6_countPoints 4 (some .int) 0 := ⟨wk_873, wk_874, wk_82, wk_875, by decide, by decide +kernel⟩
theorem iw_X6_isHolding : iwd yX6_isHolding cX6_isHolding 4 (some .boolean) 2 := ⟨wk_606, wk_607, wk_82, wk_608, by decide, by decide +kernel⟩
theorem iw_X6_isFitting : iwd yX6_isFitting cX6_isFitting 6 (some .boolean) 1 := ⟨wk_1005, wk_1006, wk_82, wk_1007, by decide, by decide +kernel⟩
theorem iw_X5_beginAs : iwd yX5_beginAs cX5_beginAs 3 none 1 := ⟨wk_568, wk_569, wk_83, wk_570, by decide, by decide +kernel⟩
theorem iw_X5_isImpossible : iwd yX5_isImpossible cX5_isImpossible 1 (some .boolean) 0 := ⟨wk_868, wk_869, wk_83, wk_870, by decide, by decide +kernel⟩
theorem iw_X5_endAll : iwd yX5_endAll cX5_endAll 2 (some .boolean) 1 := ⟨wk_611, wk_612, wk_83, wk_613, by decide, by decide +kernel⟩
theorem iw_X5_leaveOut : iwd yX5_leaveOut cX5_leaveOut 2 none 1 := ⟨wk_615, wk_616, wk_83, wk_617, by decide, by decide +kernel⟩
theorem iw_X5_noteAnew : iwd yX5_noteAnew cX5_noteAnew 2 none 1 := ⟨wk_648, wk_649, wk_83, wk_650, by decide, by decide +kernel⟩
theorem iw_X5_reach : iwd yX5_reach cX5_reach 9 (some .long) 3 := ⟨wk_670, wk_671, wk_83, wk_672, by decide, by decide +kernel⟩
theorem iw_X5_reachRest : iwd yX5_reachRest cX5_reachRest 8 (some .int) 3 := ⟨wk_674, wk_675, wk_83, wk_676, by decide, by decide +kernel⟩
theorem iw_X5_narrow : iwd yX5_narrow cX5_narrow 11 (some .boolean) 6 := ⟨wk_660, wk_661, wk_83, wk_662, by decide, by decide +kernel⟩
theorem iw_X5_turnBack : iwd yX5_turnBack cX5_turnBack 7 none 2 := ⟨wk_1000, wk_1001, wk_83, wk_1002, by decide, by decide +kernel⟩
theorem iw_X7_step : iwd yX7_step cX7_step 5 none 2 := ⟨wk_885, wk_25, wk_89, wk_886, by decide, by decide +kernel⟩
theorem iw_X7_beginAt : iwd yX7_beginAt cX7_beginAt 3 none 1 := ⟨wk_879, wk_880, wk_89, wk_881, by decide, by decide +kernel⟩
theorem iw_X7_goOn : iwd yX7_goOn cX7_goOn 2 none 0 := ⟨wk_893, wk_894, wk_89, wk_895, by decide, by decide +kernel⟩
theorem iw_X7_holdsAll : iwd yX7_holdsAll cX7_holdsAll 3 (some .boolean) 1 := ⟨wk_888, wk_889, wk_89, wk_890, by decide, by decide +kernel⟩
theorem iw_X2_termSet : iwd yX2_termSet cX2_termSet 4 (some .int) 1 := ⟨wk_935, wk_27, wk_88, wk_936, by decide, by decide +kernel⟩
theorem iw_X2_partOf : iwd yX2_partOf cX2_partOf 6 (some .int) 1 := ⟨wk_930, wk_26, wk_88, wk_931, by decide, by decide +kernel⟩
theorem iw_X2_countParts : iwd yX2_countParts cX2_countParts 4 (some .int) 0 := ⟨wk_924, wk_925, wk_88, wk_926, by decide, by decide +kernel⟩
theorem iw_X2_amount : iwd yX2_amount cX2_amount 3 (some .long) 2 := ⟨wk_955, wk_29, wk_88, wk_956, by decide, by decide +kernel⟩
theorem iw_X2_sortBinaryTerms : iwd yX2_sortBinaryTerms cX2_sortBinaryTerms 5 (some .int) 1 := ⟨wk_950, wk_28, wk_88, wk_951, by decide, by decide +kernel⟩
theorem iw_X2_findClique : iwd yX2_findClique cX2_findClique 7 (some .int) 1 := ⟨wk_945, wk_946, wk_88, wk_947, by decide, by decide +kernel⟩
theorem iw_X2_areSame : iwd yX2_areSame cX2_areSame 4 (some .boolean) 2 := ⟨wk_975, wk_976, wk_88, wk_977, by decide, by decide +kernel⟩
theorem iw_X4_leaveEmpty : iwd yX4_leaveEmpty cX4_leaveEmpty 2 (some .boolean) 1 := ⟨wk_598, wk_599, wk_86, wk_600, by decide, by decide +kernel⟩
theorem sw_X4_greatestDivisor : swd yX4_greatestDivisor cX4_greatestDivisor 11 (some .long) 2 := ⟨wk_634, wk_86, wk_635, by decide, by decide +kernel⟩
theorem iw_X4_sharedDivisor : iwd yX4_sharedDivisor cX4_sharedDivisor 5 (some .long) 1 := ⟨wk_628, wk_6, wk_86, wk_629, by decide, by decide +kernel⟩
theorem iw_X4_divide : iwd yX4_divide cX4_divide 5 none 2 := ⟨wk_638, wk_7, wk_86, wk_639, by decide, by decide +kernel⟩
theorem iw_X4_turnSigns : iwd yX4_turnSigns cX4_turnSigns 3 none 1 := ⟨wk_645, wk_8, wk_86, wk_646, by decide, by decide +kernel⟩
theorem iw_X4_divideShared : iwd yX4_divideShared cX4_divideShared 7 (some .boolean) 1 := ⟨wk_623, wk_624, wk_86, wk_625, by decide, by decide +kernel⟩
theorem iw_X4_leaveSingle : iwd yX4_leaveSingle cX4_leaveSingle 9 (some .boolean) 1 := ⟨wk_652, wk_653, wk_86, wk_654, by decide, by decide +kernel⟩
theorem iw_X4_holdAtEnd : iwd yX4_holdAtEnd cX4_holdAtEnd 10 (some .boolean) 2 := ⟨wk_679, wk_9, wk_86, wk_680, by decide, by decide +kernel⟩
theorem iw_X4_lookAtSpan : iwd yX4_lookAtSpan cX4_lookAtSpan 9 (some .boolean) 1 := ⟨wk_666, wk_667, wk_86, wk_668, by decide, by decide +kernel⟩
theorem iw_X4_tightenTerm : iwd yX4_tightenTerm cX4_tightenTerm 9 (some .boolean) 3 := ⟨wk_687, wk_10, wk_86, wk_688, by decide, by decide +kernel⟩
theorem iw_X4_tighten : iwd yX4_tighten cX4_tighten 4 (some .boolean) 1 := ⟨wk_682, wk_683, wk_86, wk_684, by decide, by decide +kernel⟩
theorem iw_X4_areTimes : iwd yX4_areTimes cX4_areTimes 5 (some .boolean) 3 := ⟨wk_706, wk_12, wk_86, wk_707, by decide, by decide +kernel⟩
theorem iw_X4_leaveAlike : iwd yX4_leaveAlike cX4_leaveAlike 8 (some .boolean) 2 := ⟨wk_710, wk_13, wk_86, wk_711, by decide, by decide +kernel⟩
theorem iw_X4_joinTurned : iwd yX4_joinTurned cX4_joinTurned 5 (some .boolean) 2 := ⟨wk_714, wk_14, wk_86, wk_715, by decide, by decide +kernel⟩
theorem iw_X4_comparePair : iwd yX4_comparePair cX4_comparePair 3 (some .boolean) 2 := ⟨wk_702, wk_11, wk_86, wk_703, by decide, by decide +kernel⟩
theorem iw_X4_leaveTwins : iwd yX4_leaveTwins cX4_leaveTwins 3 (some .boolean) 1 := ⟨wk_696, wk_697, wk_86, wk_698, by decide, by decide +kernel⟩
theorem iw_X4_makeTermLess : iwd yX4_makeTermLess cX4_makeTermLess 9 none 2 := ⟨wk_777, wk_22, wk_86, wk_778, by decide, by decide +kernel⟩
theorem iw_X4_makeLess : iwd yX4_makeLess cX4_makeLess 3 (some .boolean) 1 := ⟨wk_768, wk_769, wk_86, wk_770, by decide, by decide +kernel⟩
theorem iw_X1_fix : iwd yX1_fix cX1_fix 6 (some .boolean) 1 := ⟨wk_690, wk_691, wk_87, wk_692, by decide, by decide +kernel⟩
theorem iw_X1_hasOnlyTerms : iwd yX1_hasOnlyTerms cX1_hasOnlyTerms 6 (some .boolean) 2 := ⟨wk_722, wk_15, wk_87, wk_723, by decide, by decide +kernel⟩
theorem iw_X1_moveToSide : iwd yX1_moveToSide cX1_moveToSide 6 (some .boolean) 1 := ⟨wk_717, wk_718, wk_87, wk_719, by decide, by decide +kernel⟩
theorem sw_X8_beyond : swd yX8_beyond cX8_beyond 4 (some .boolean) 2 := ⟨wk_496, wk_81, wk_497, by decide, by decide +kernel⟩
theorem iw_X1_factorOf : iwd yX1_factorOf cX1_factorOf 4 (some .long) 3 := ⟨wk_747, wk_17, wk_87, wk_748, by decide, by decide +kernel⟩
theorem iw_X1_rowStaysWithin : iwd yX1_rowStaysWithin cX1_rowStaysWithin 9 (some .boolean) 3 := ⟨wk_752, wk_18, wk_87, wk_753, by decide, by decide +kernel⟩
theorem iw_X1_staysWithin : iwd yX1_staysWithin cX1_staysWithin 6 (some .boolean) 2 := ⟨wk_741, wk_16, wk_87, wk_742, by decide, by decide +kernel⟩
theorem iw_X1_recordPutIn : iwd yX1_recordPutIn cX1_recordPutIn 7 none 3 := ⟨wk_761, wk_20, wk_87, wk_762, by decide, by decide +kernel⟩
theorem iw_X1_putInRow : iwd yX1_putInRow cX1_putInRow 7 none 3 := ⟨wk_765, wk_21, wk_87, wk_766, by decide, by decide +kernel⟩
theorem iw_X1_putInFor : iwd yX1_putInFor cX1_putInFor 6 none 2 := ⟨wk_757, wk_19, wk_87, wk_758, by decide, by decide +kernel⟩
theorem iw_X1_putIn : iwd yX1_putIn cX1_putIn 11 (some .boolean) 1 := ⟨wk_730, wk_731, wk_87, wk_732, by decide, by decide +kernel⟩
theorem iw_X1_onlyRow : iwd yX1_onlyRow cX1_onlyRow 4 (some .int) 1 := ⟨wk_785, wk_23, wk_87, wk_786, by decide, by decide +kernel⟩
theorem iw_X1_putInFree : iwd yX1_putInFree cX1_putInFree 14 (some .boolean) 1 := ⟨wk_780, wk_781, wk_87, wk_782, by decide, by decide +kernel⟩
theorem sw_X3_isByColumns : swd yX3_isByColumns cX3_isByColumns 1 (some .boolean) 1 := ⟨wk_583, wk_85, wk_584, by decide, by decide +kernel⟩
theorem iw_X3_doRule : iwd yX3_doRule cX3_doRule 3 (some .boolean) 2 := ⟨wk_587, wk_5, wk_85, wk_588, by decide, by decide +kernel⟩
theorem iw_X3_doRound : iwd yX3_doRound cX3_doRound 5 (some .boolean) 1 := ⟨wk_579, wk_580, wk_85, wk_581, by decide, by decide +kernel⟩
theorem iw_X8_endPoints : iwd yX8_endPoints cX8_endPoints 1 none 0 := ⟨wk_411, wk_1, wk_81, wk_412, by decide, by decide +kernel⟩
theorem iw_X8_endSmall : iwd yX8_endSmall cX8_endSmall 1 none 0 := ⟨wk_407, wk_0, wk_81, wk_408, by decide, by decide +kernel⟩
theorem iw_X8_findBest : iwd yX8_findBest cX8_findBest 8 none 3 := ⟨wk_1037, wk_32, wk_81, wk_1038, by decide, by decide +kernel⟩
theorem iw_X8_clear : iwd yX8_clear cX8_clear 2 (some .int) 0 := ⟨wk_402, wk_403, wk_81, wk_404, by decide, by decide +kernel⟩
theorem iw_X9_thrown : iwd yX9_thrown cX9_thrown 1 (some .int) 0 := ⟨wk_1198, wk_1199, wk_90, wk_1200, by decide, by decide +kernel⟩
theorem sw_X9_within : swd yX9_within cX9_within 6 (some .boolean) 3 := ⟨wk_1208, wk_90, wk_1209, by decide, by decide +kernel⟩
theorem iw_X9_passes : iwd yX9_passes cX9_passes 3 (some .boolean) 2 := ⟨wk_1214, wk_34, wk_90, wk_1215, by decide, by decide +kernel⟩
theorem iw_X9_passes3 : iwd yX9_passes3 cX9_passes3 4 (some .boolean) 3 := ⟨wk_1431, wk_70, wk_90, wk_1432, by decide, by decide +kernel⟩
theorem sw_X9_down : swd yX9_down cX9_down 6 (some .long) 2 := ⟨wk_1301, wk_90, wk_1302, by decide, by decide +kernel⟩
theorem sw_X9_up : swd yX9_up cX9_up 4 (some .long) 2 := ⟨wk_1308, wk_90, wk_1309, by decide, by decide +kernel⟩
theorem iw_X9_endPoints : iwd yX9_endPoints cX9_endPoints 2 none 0 := ⟨wk_1222, wk_36, wk_90, wk_1223, by decide, by decide +kernel⟩
theorem iw_X9_endSmall : iwd yX9_endSmall cX9_endSmall 1 none 0 := ⟨wk_1218, wk_35, wk_90, wk_1219, by decide, by decide +kernel⟩
theorem iw_X9_column : iwd yX9_column cX9_column 6 (some .int) 3 := ⟨wk_1202, wk_1203, wk_90, wk_1204, by decide, by decide +kernel⟩
theorem iw_X9_row : iwd yX9_row cX9_row 4 (some .int) 2 := ⟨wk_1225, wk_1226, wk_90, wk_1227, by decide, by decide +kernel⟩
theorem iw_X9_isRow : iwd yX9_isRow cX9_isRow 2 (some .boolean) 1 := ⟨wk_1236, wk_37, wk_90, wk_1237, by decide, by decide +kernel⟩
theorem iw_X9_isColumn : iwd yX9_isColumn cX9_isColumn 2 (some .boolean) 1 := ⟨wk_1240, wk_38, wk_90, wk_1241, by decide, by decide +kernel⟩
theorem iw_X9_term : iwd yX9_term cX9_term 4 none 3 := ⟨wk_1231, wk_1232, wk_90, wk_1233, by decide, by decide +kernel⟩
theorem iw_X9_clear : iwd yX9_clear cX9_clear 2 (some .int) 0 := ⟨wk_1243, wk_1244, wk_90, wk_1245, by decide, by decide +kernel⟩
theorem iw_X9_isTerm : iwd yX9_isTerm cX9_isTerm 3 (some .boolean) 2 := ⟨wk_1278, wk_45, wk_90, wk_1279, by decide, by decide +kernel⟩
theorem iw_X9_terms : iwd yX9_terms cX9_terms 4 (some .int) 1 := ⟨wk_1274, wk_44, wk_90, wk_1275, by decide, by decide +kernel⟩
theorem iw_X9_end : iwd yX9_end cX9_end 9 (some .long) 3 := ⟨wk_1324, wk_54, wk_90, wk_1325, by decide, by decide +kernel⟩
theorem iw_X9_from : iwd yX9_from cX9_from 6 (some .int) 3 := ⟨wk_1328, wk_55, wk_90, wk_1329, by decide, by decide +kernel⟩
theorem iw_X9_act : iwd yX9_act cX9_act 7 none 5 := ⟨wk_1286, wk_47, wk_90, wk_1287, by decide, by decide +kernel⟩
theorem iw_X9_impossible : iwd yX9_impossible cX9_impossible 2 none 1 := ⟨wk_1290, wk_48, wk_90, wk_1291, by decide, by decide +kernel⟩
theorem iw_X9_goesOn : iwd yX9_goesOn cX9_goesOn 1 (some .boolean) 0 := ⟨wk_1258, wk_40, wk_90, wk_1259, by decide, by decide +kernel⟩
theorem iw_X9_narrowLow : iwd yX9_narrowLow cX9_narrowLow 7 none 5 := ⟨wk_1312, wk_51, wk_90, wk_1313, by decide, by decide +kernel⟩
theorem iw_X9_narrowHigh : iwd yX9_narrowHigh cX9_narrowHigh 7 none 5 := ⟨wk_1316, wk_52, wk_90, wk_1317, by decide, by decide +kernel⟩
theorem iw_X9_leave : iwd yX9_leave cX9_leave 3 none 2 := ⟨wk_1282, wk_46, wk_90, wk_1283, by decide, by decide +kernel⟩
theorem iw_X9_empty : iwd yX9_empty cX9_empty 2 none 1 := ⟨wk_1270, wk_43, wk_90, wk_1271, by decide, by decide +kernel⟩
theorem sw_X9_divisor : swd yX9_divisor cX9_divisor 11 (some .long) 2 := ⟨wk_1297, wk_90, wk_1298, by decide, by decide +kernel⟩
theorem iw_X9_shared : iwd yX9_shared cX9_shared 9 none 1 := ⟨wk_1294, wk_49, wk_90, wk_1295, by decide, by decide +kernel⟩
theorem iw_X9_single : iwd yX9_single cX9_single 7 none 1 := ⟨wk_1305, wk_50, wk_90, wk_1306, by decide, by decide +kernel⟩
theorem iw_X9_toEnds : iwd yX9_toEnds cX9_toEnds 5 none 2 := ⟨wk_1332, wk_56, wk_90, wk_1333, by decide, by decide +kernel⟩
theorem iw_X9_span : iwd yX9_span cX9_span 6 none 1 := ⟨wk_1320, wk_53, wk_90, wk_1321, by decide, by decide +kernel⟩
theorem iw_X9_tight : iwd yX9_tight cX9_tight 11 none 1 := ⟨wk_1336, wk_57, wk_90, wk_1337, by decide, by decide +kernel⟩
theorem iw_X9_fix : iwd yX9_fix cX9_fix 3 none 1 := ⟨wk_1386, wk_67, wk_90, wk_1387, by decide, by decide +kernel⟩
theorem iw_X9_alike : iwd yX9_alike cX9_alike 7 (some .boolean) 3 := ⟨wk_1348, wk_60, wk_90, wk_1349, by decide, by decide +kernel⟩
theorem iw_X9_twin : iwd yX9_twin cX9_twin 6 none 2 := ⟨wk_1344, wk_59, wk_90, wk_1345, by decide, by decide +kernel⟩
theorem iw_X9_twins : iwd yX9_twins cX9_twins 3 none 1 := ⟨wk_1340, wk_58, wk_90, wk_1341, by decide, by decide +kernel⟩
theorem iw_X9_side : iwd yX9_side cX9_side 5 none 1 := ⟨wk_1390, wk_68, wk_90, wk_1391, by decide, by decide +kernel⟩
theorem sw_X9_isUnit : swd yX9_isUnit cX9_isUnit 2 (some .boolean) 1 := ⟨wk_1355, wk_90, wk_1356, by decide, by decide +kernel⟩
theorem sw_X9_isCoefficient : swd yX9_isCoefficient cX9_isCoefficient 2 (some .boolean) 1 := ⟨wk_1362, wk_90, wk_1363, by decide, by decide +kernel⟩
theorem iw_X9_mayPut : iwd yX9_mayPut cX9_mayPut 12 (some .boolean) 5 := ⟨wk_1359, wk_62, wk_90, wk_1360, by decide, by decide +kernel⟩
theorem iw_X9_byBounds : iwd yX9_byBounds cX9_byBounds 14 none 5 := ⟨wk_1370, wk_63, wk_90, wk_1371, by decide, by decide +kernel⟩
theorem iw_X9_goes : iwd yX9_goes cX9_goes 6 none 4 := ⟨wk_1374, wk_64, wk_90, wk_1375, by decide, by decide +kernel⟩
theorem iw_X9_puts : iwd yX9_puts cX9_puts 15 none 1 := ⟨wk_1352, wk_61, wk_90, wk_1353, by decide, by decide +kernel⟩
theorem iw_X9_less : iwd yX9_less cX9_less 9 none 1 := ⟨wk_1378, wk_65, wk_90, wk_1379, by decide, by decide +kernel⟩
theorem iw_X9_free : iwd yX9_free cX9_free 19 none 1 := ⟨wk_1394, wk_69, wk_90, wk_1395, by decide, by decide +kernel⟩
theorem iw_X9_byRow : iwd yX9_byRow cX9_byRow 3 none 2 := ⟨wk_1266, wk_42, wk_90, wk_1267, by decide, by decide +kernel⟩
theorem iw_X9_byColumn : iwd yX9_byColumn cX9_byColumn 3 none 2 := ⟨wk_1382, wk_66, wk_90, wk_1383, by decide, by decide +kernel⟩
theorem iw_X9_rule : iwd yX9_rule cX9_rule 4 none 1 := ⟨wk_1262, wk_41, wk_90, wk_1263, by decide, by decide +kernel⟩
theorem iw_X9_makeSmall : iwd yX9_makeSmall cX9_makeSmall 3 none 0 := ⟨wk_1254, wk_39, wk_90, wk_1255, by decide, by decide +kernel⟩
theorem iw_X9_shrink : iwd yX9_shrink cX9_shrink 7 (some .int) 2 := ⟨wk_1247, wk_1248, wk_90, wk_1249, by decide, by decide +kernel⟩
theorem iw_X9_state : iwd yX9_state cX9_state 2 (some .int) 1 := ⟨wk_1397, wk_1398, wk_90, wk_1399, by decide, by decide +kernel⟩
theorem iw_X9_bound : iwd yX9_bound cX9_bound 3 (some .int) 2 := ⟨wk_1401, wk_1402, wk_90, wk_1403, by decide, by decide +kernel⟩
theorem iw_X9_cost : iwd yX9_cost cX9_cost 2 (some .int) 1 := ⟨wk_1405, wk_1406, wk_90, wk_1407, by decide, by decide +kernel⟩
theorem iw_X9_kind : iwd yX9_kind cX9_kind 2 (some .int) 1 := ⟨wk_1409, wk_1410, wk_90, wk_1411, by decide, by decide +kernel⟩
theorem iw_X9_right : iwd yX9_right cX9_right 2 (some .long) 1 := ⟨wk_1413, wk_1414, wk_90, wk_1415, by decide, by decide +kernel⟩
theorem iw_X9_coefficient : iwd yX9_coefficient cX9_coefficient 3 (some .int) 2 := ⟨wk_1417, wk_1418, wk_90, wk_1419, by decide, by decide +kernel⟩
theorem iw_X9_offset : iwd yX9_offset cX9_offset 1 (some .long) 0 := ⟨wk_1421, wk_1422, wk_90, wk_1423, by decide, by decide +kernel⟩
theorem iw_X9_rest : iwd yX9_rest cX9_rest 3 (some .int) 2 := ⟨wk_1425, wk_1426, wk_90, wk_1427, by decide, by decide +kernel⟩
theorem iw_X9_certificate : iwd yX9_certificate cX9_certificate 1 (some .int) 0 := ⟨wk_1434, wk_1435, wk_90, wk_1436, by decide, by decide +kernel⟩
theorem iw_X9_points : iwd yX9_points cX9_points 7 (some .int) 1 := ⟨wk_1443, wk_71, wk_90, wk_1444, by decide, by decide +kernel⟩
theorem iw_X9_firstPoint : iwd yX9_firstPoint cX9_firstPoint 3 none 1 := ⟨wk_1449, wk_72, wk_90, wk_1450, by decide, by decide +kernel⟩
theorem iw_X9_nextPoint : iwd yX9_nextPoint cX9_nextPoint 5 none 1 := ⟨wk_1457, wk_74, wk_90, wk_1458, by decide, by decide +kernel⟩
theorem iw_X9_holds : iwd yX9_holds cX9_holds 5 (some .boolean) 1 := ⟨wk_1453, wk_73, wk_90, wk_1454, by decide, by decide +kernel⟩
theorem iw_X9_holdsSmall : iwd yX9_holdsSmall cX9_holdsSmall 5 (some .boolean) 1 := ⟨wk_1518, wk_78, wk_90, wk_1519, by decide, by decide +kernel⟩
theorem iw_X9_certified : iwd yX9_certified cX9_certified 6 (some .int) 0 := ⟨wk_1438, wk_1439, wk_90, wk_1440, by decide, by decide +kernel⟩
theorem iw_X9_acts : iwd yX9_acts cX9_acts 1 (some .int) 0 := ⟨wk_1460, wk_1461, wk_90, wk_1462, by decide, by decide +kernel⟩
theorem iw_X9_act_ : iwd yX9_act_ cX9_act_ 4 (some .long) 2 := ⟨wk_1464, wk_1465, wk_90, wk_1466, by decide, by decide +kernel⟩
theorem iw_X9_joinParts : iwd yX9_joinParts cX9_joinParts 4 none 1 := ⟨wk_1474, wk_75, wk_90, wk_1475, by decide, by decide +kernel⟩
theorem iw_X9_parts : iwd yX9_parts cX9_parts 3 (some .int) 0 := ⟨wk_1469, wk_1470, wk_90, wk_1471, by decide, by decide +kernel⟩
theorem iw_X9_amount : iwd yX9_amount cX9_amount 5 (some .long) 2 := ⟨wk_1486, wk_77, wk_90, wk_1487, by decide, by decide +kernel⟩
theorem iw_X9_cliqueOf : iwd yX9_cliqueOf cX9_cliqueOf 7 (some .int) 1 := ⟨wk_1482, wk_76, wk_90, wk_1483, by decide, by decide +kernel⟩
theorem iw_X9_clique : iwd yX9_clique cX9_clique 2 (some .int) 1 := ⟨wk_1477, wk_1478, wk_90, wk_1479, by decide, by decide +kernel⟩
theorem iw_X9_cliqueAt : iwd yX9_cliqueAt cX9_cliqueAt 4 (some .int) 2 := ⟨wk_1489, wk_1490, wk_90, wk_1491, by decide, by decide +kernel⟩
theorem iw_X9_same : iwd yX9_same cX9_same 5 (some .boolean) 2 := ⟨wk_1493, wk_1494, wk_90, wk_1495, by decide, by decide +kernel⟩
theorem iw_X9_put : iwd yX9_put cX9_put 4 none 2 := ⟨wk_1497, wk_1498, wk_90, wk_1499, by decide, by decide +kernel⟩
theorem iw_X9_back : iwd yX9_back cX9_back 7 (some .int) 0 := ⟨wk_1501, wk_1502, wk_90, wk_1503, by decide, by decide +kernel⟩
theorem iw_X9_at : iwd yX9_at cX9_at 2 (some .int) 1 := ⟨wk_1505, wk_1506, wk_90, wk_1507, by decide, by decide +kernel⟩
theorem iw_X9_value : iwd yX9_value cX9_value 4 (some .long) 0 := ⟨wk_1509, wk_1510, wk_90, wk_1511, by decide, by decide +kernel⟩
theorem iw_X9_price : iwd yX9_price cX9_price 5 (some .long) 1 := ⟨wk_1522, wk_79, wk_90, wk_1523, by decide, by decide +kernel⟩
theorem iw_X9_best : iwd yX9_best cX9_best 8 (some .int) 1 := ⟨wk_1513, wk_1514, wk_90, wk_1515, by decide, by decide +kernel⟩
theorem iw_X9_bestValue : iwd yX9_bestValue cX9_bestValue 1 (some .long) 0 := ⟨wk_1525, wk_1526, wk_90, wk_1527, by decide, by decide +kernel⟩
theorem iw_X9_bestAt : iwd yX9_bestAt cX9_bestAt 2 (some .int) 1 := ⟨wk_1529, wk_1530, wk_90, wk_1531, by decide, by decide +kernel⟩
theorem iw_X8_column : iwd yX8_column cX8_column 5 (some .int) 3 := ⟨wk_423, wk_424, wk_81, wk_425, by decide, by decide +kernel⟩
theorem iw_X8_row : iwd yX8_row cX8_row 4 (some .int) 2 := ⟨wk_519, wk_520, wk_81, wk_521, by decide, by decide +kernel⟩
theorem iw_X8_needRow : iwd yX8_needRow cX8_needRow 2 none 1 := ⟨wk_535, wk_3, wk_81, wk_536, by decide, by decide +kernel⟩
theorem iw_X8_needColumn : iwd yX8_needColumn cX8_needColumn 2 none 1 := ⟨wk_555, wk_4, wk_81, wk_556, by decide, by decide +kernel⟩
theorem iw_X8_term : iwd yX8_term cX8_term 4 none 3 := ⟨wk_530, wk_531, wk_81, wk_532, by decide, by decide +kernel⟩
theorem iw_X8_shrink : iwd yX8_shrink cX8_shrink 6 (some .int) 2 := ⟨wk_563, wk_564, wk_81, wk_565, by decide, by decide +kernel⟩
theorem iw_X8_needSmall : iwd yX8_needSmall cX8_needSmall 1 none 0 := ⟨wk_798, wk_24, wk_81, wk_799, by decide, by decide +kernel⟩
theorem iw_X8_state : iwd yX8_state cX8_state 2 (some .int) 1 := ⟨wk_793, wk_794, wk_81, wk_795, by decide, by decide +kernel⟩
theorem iw_X8_bound : iwd yX8_bound cX8_bound 3 (some .int) 2 := ⟨wk_805, wk_806, wk_81, wk_807, by decide, by decide +kernel⟩
theorem iw_X8_cost : iwd yX8_cost cX8_cost 2 (some .int) 1 := ⟨wk_812, wk_813, wk_81, wk_814, by decide, by decide +kernel⟩
theorem iw_X8_kind : iwd yX8_kind cX8_kind 2 (some .int) 1 := ⟨wk_820, wk_821, wk_81, wk_822, by decide, by decide +kernel⟩
theorem iw_X8_right : iwd yX8_right cX8_right 2 (some .long) 1 := ⟨wk_827, wk_828, wk_81, wk_829, by decide, by decide +kernel⟩
theorem iw_X8_coefficient : iwd yX8_coefficient cX8_coefficient 3 (some .int) 2 := ⟨wk_834, wk_835, wk_81, wk_836, by decide, by decide +kernel⟩
theorem iw_X8_offset : iwd yX8_offset cX8_offset 1 (some .long) 0 := ⟨wk_842, wk_843, wk_81, wk_844, by decide, by decide +kernel⟩
theorem iw_X8_rest : iwd yX8_rest cX8_rest 3 (some .int) 2 := ⟨wk_849, wk_850, wk_81, wk_851, by decide, by decide +kernel⟩
theorem iw_X8_certificate : iwd yX8_certificate cX8_certificate 1 (some .int) 0 := ⟨wk_857, wk_858, wk_81, wk_859, by decide, by decide +kernel⟩
theorem iw_X8_certified : iwd yX8_certified cX8_certified 3 (some .int) 0 := ⟨wk_864, wk_865, wk_81, wk_866, by decide, by decide +kernel⟩
theorem iw_X8_acts : iwd yX8_acts cX8_acts 1 (some .int) 0 := ⟨wk_900, wk_901, wk_81, wk_902, by decide, by decide +kernel⟩
theorem iw_X8_act : iwd yX8_act cX8_act 3 (some .long) 2 := ⟨wk_907, wk_908, wk_81, wk_909, by decide, by decide +kernel⟩
theorem iw_X8_parts : iwd yX8_parts cX8_parts 1 (some .int) 0 := ⟨wk_920, wk_921, wk_81, wk_922, by decide, by decide +kernel⟩
theorem iw_X8_clique : iwd yX8_clique cX8_clique 2 (some .int) 1 := ⟨wk_941, wk_942, wk_81, wk_943, by decide, by decide +kernel⟩
theorem iw_X8_cliqueAt : iwd yX8_cliqueAt cX8_cliqueAt 4 (some .int) 2 := ⟨wk_963, wk_964, wk_81, wk_965, by decide, by decide +kernel⟩
theorem iw_X8_same : iwd yX8_same cX8_same 3 (some .boolean) 2 := ⟨wk_971, wk_972, wk_81, wk_973, by decide, by decide +kernel⟩
theorem iw_X8_needPossibleSmall : iwd yX8_needPossibleSmall cX8_needPossibleSmall 1 none 0 := ⟨wk_987, wk_30, wk_81, wk_988, by decide, by decide +kernel⟩
theorem iw_X8_put : iwd yX8_put cX8_put 4 none 2 := ⟨wk_982, wk_983, wk_81, wk_984, by decide, by decide +kernel⟩
theorem iw_X8_back : iwd yX8_back cX8_back 2 (some .int) 0 := ⟨wk_995, wk_996, wk_81, wk_997, by decide, by decide +kernel⟩
theorem iw_X8_needTurned : iwd yX8_needTurned cX8_needTurned 1 none 0 := ⟨wk_1018, wk_31, wk_81, wk_1019, by decide, by decide +kernel⟩
theorem iw_X8_at : iwd yX8_at cX8_at 2 (some .int) 1 := ⟨wk_1013, wk_1014, wk_81, wk_1015, by decide, by decide +kernel⟩
theorem iw_X8_value : iwd yX8_value cX8_value 4 (some .long) 0 := ⟨wk_1025, wk_1026, wk_81, wk_1027, by decide, by decide +kernel⟩
theorem iw_X8_best : iwd yX8_best cX8_best 4 (some .int) 1 := ⟨wk_1032, wk_1033, wk_81, wk_1034, by decide, by decide +kernel⟩
theorem iw_X8_needBest : iwd yX8_needBest cX8_needBest 1 none 0 := ⟨wk_1050, wk_33, wk_81, wk_1051, by decide, by decide +kernel⟩
theorem iw_X8_bestValue : iwd yX8_bestValue cX8_bestValue 1 (some .long) 0 := ⟨wk_1045, wk_1046, wk_81, wk_1047, by decide, by decide +kernel⟩
theorem iw_X8_bestAt : iwd yX8_bestAt cX8_bestAt 2 (some .int) 1 := ⟨wk_1057, wk_1058, wk_81, wk_1059, by decide, by decide +kernel⟩
theorem wk_acn : (Jvm.Cond.native ({ cls := "java/lang/System", name := "arraycopy", desc := "(Ljava/lang/Object;ILjava/lang/Object;II)V" } : Jvm.MethodName)) ∈ gtbl := wk_577
theorem wk_acs : (Jvm.Cond.static ({ cls := "java/lang/System", name := "arraycopy", desc := "(Ljava/lang/Object;ILjava/lang/Object;II)V" } : Jvm.MethodName)) ∈ gtbl := wk_576
theorem wk_aci : (Jvm.Cond.initialized "java/lang/System") ∈ gtbl := wk_97
