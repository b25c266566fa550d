set_option maxRecDepth 20000 in
theorem wk_80 : (Jvm.Cond.initialized "RowPresolveLaw") ∈ gtbl := gt1 0 rfl rfl
set_option maxRecDepth 20000 in
theorem wk_401 : (Jvm.Cond.methodLink "RowPresolveLaw" (129 : Nat) ({ cls := "RowPresolve", name := "clear", desc := "()I" } : Jvm.MethodName)) ∈ gtbl := gt2 81 rfl rfl
set_option maxRecDepth 20000 in
theorem wk_417 : (Jvm.Cond.methodLink "RowPresolveLaw" (112 : Nat) ({ cls := "RowPresolveLaw", name := "column", desc := "(LRowPresolve;III[J)I" } : Jvm.MethodName)) ∈ gtbl := gt2 97 rfl rfl
set_option maxRecDepth 20000 in
theorem wk_418 : (Jvm.Cond.static ({ cls := "RowPresolveLaw", name := "column", desc := "(LRowPresolve;III[J)I" } : Jvm.MethodName)) ∈ gtbl := gt2 98 rfl rfl
set_option maxRecDepth 20000 in
theorem wk_419 : (Jvm.Cond.codeWith ({ cls := "RowPresolveLaw", name := "column", desc := "(LRowPresolve;III[J)I" } : Jvm.MethodName) method_3_code (6 : Nat) (Option.some Jvm.ClassFile.FieldType.int) [((0 : Nat), (12 : Nat), (15 : Nat), (13 : Nat)), ((0 : Nat), (12 : Nat), (19 : Nat), (15 : Nat))]) ∈ gtbl := gt2 99 rfl rfl
set_option maxRecDepth 20000 in
theorem wk_515 : (Jvm.Cond.methodLink "RowPresolveLaw" (121 : Nat) ({ cls := "RowPresolveLaw", name := "row", desc := "(LRowPresolve;II[J)I" } : Jvm.MethodName)) ∈ gtbl := gt2 195 rfl rfl
set_option maxRecDepth 20000 in
theorem wk_516 : (Jvm.Cond.static ({ cls := "RowPresolveLaw", name := "row", desc := "(LRowPresolve;II[J)I" } : Jvm.MethodName)) ∈ gtbl := gt2 196 rfl rfl
set_option maxRecDepth 20000 in
theorem wk_517 : (Jvm.Cond.codeWith ({ cls := "RowPresolveLaw", name := "row", desc := "(LRowPresolve;II[J)I" } : Jvm.MethodName) method_4_code (5 : Nat) (Option.some Jvm.ClassFile.FieldType.int) [((0 : Nat), (10 : Nat), (13 : Nat), (13 : Nat)), ((0 : Nat), (10 : Nat), (17 : Nat), (15 : Nat))]) ∈ gtbl := gt2 197 rfl rfl
set_option maxRecDepth 20000 in
theorem wk_525 : (Jvm.Cond.methodLink "RowPresolveLaw" (125 : Nat) ({ cls := "RowPresolveLaw", name := "term", desc := "(LRowPresolve;III)I" } : Jvm.MethodName)) ∈ gtbl := gt2 205 rfl rfl
set_option maxRecDepth 20000 in
theorem wk_526 : (Jvm.Cond.static ({ cls := "RowPresolveLaw", name := "term", desc := "(LRowPresolve;III)I" } : Jvm.MethodName)) ∈ gtbl := gt2 206 rfl rfl
set_option maxRecDepth 20000 in
theorem wk_527 : (Jvm.Cond.codeWith ({ cls := "RowPresolveLaw", name := "term", desc := "(LRowPresolve;III)I" } : Jvm.MethodName) method_5_code (5 : Nat) (Option.some Jvm.ClassFile.FieldType.int) [((0 : Nat), (7 : Nat), (10 : Nat), (25 : Nat)), ((0 : Nat), (7 : Nat), (14 : Nat), (15 : Nat))]) ∈ gtbl := gt2 207 rfl rfl
set_option maxRecDepth 20000 in
theorem wk_559 : (Jvm.Cond.methodLink "RowPresolveLaw" (133 : Nat) ({ cls := "RowPresolveLaw", name := "shrink", desc := "(LRowPresolve;II[J)I" } : Jvm.MethodName)) ∈ gtbl := gt2 239 rfl rfl
set_option maxRecDepth 20000 in
theorem wk_560 : (Jvm.Cond.static ({ cls := "RowPresolveLaw", name := "shrink", desc := "(LRowPresolve;II[J)I" } : Jvm.MethodName)) ∈ gtbl := gt3 0 rfl rfl
set_option maxRecDepth 20000 in
theorem wk_561 : (Jvm.Cond.codeWith ({ cls := "RowPresolveLaw", name := "shrink", desc := "(LRowPresolve;II[J)I" } : Jvm.MethodName) method_6_code (5 : Nat) (Option.some Jvm.ClassFile.FieldType.int) [((0 : Nat), (10 : Nat), (13 : Nat), (15 : Nat))]) ∈ gtbl := gt3 1 rfl rfl
set_option maxRecDepth 20000 in
theorem wk_789 : (Jvm.Cond.methodLink "RowPresolveLaw" (136 : Nat) ({ cls := "RowPresolveLaw", name := "state", desc := "(LRowPresolve;I[J)I" } : Jvm.MethodName)) ∈ gtbl := gt3 229 rfl rfl
set_option maxRecDepth 20000 in
theorem wk_790 : (Jvm.Cond.static ({ cls := "RowPresolveLaw", name := "state", desc := "(LRowPresolve;I[J)I" } : Jvm.MethodName)) ∈ gtbl := gt3 230 rfl rfl
set_option maxRecDepth 20000 in
theorem wk_791 : (Jvm.Cond.codeWith ({ cls := "RowPresolveLaw", name := "state", desc := "(LRowPresolve;I[J)I" } : Jvm.MethodName) method_7_code (4 : Nat) (Option.some Jvm.ClassFile.FieldType.int) [((0 : Nat), (9 : Nat), (12 : Nat), (13 : Nat)), ((0 : Nat), (9 : Nat), (15 : Nat), (25 : Nat))]) ∈ gtbl := gt3 231 rfl rfl
set_option maxRecDepth 20000 in
theorem wk_801 : (Jvm.Cond.methodLink "RowPresolveLaw" (140 : Nat) ({ cls := "RowPresolveLaw", name := "bound", desc := "(LRowPresolve;IZ[J)I" } : Jvm.MethodName)) ∈ gtbl := gt4 1 rfl rfl
set_option maxRecDepth 20000 in
theorem wk_802 : (Jvm.Cond.static ({ cls := "RowPresolveLaw", name := "bound", desc := "(LRowPresolve;IZ[J)I" } : Jvm.MethodName)) ∈ gtbl := gt4 2 rfl rfl
set_option maxRecDepth 20000 in
theorem wk_803 : (Jvm.Cond.codeWith ({ cls := "RowPresolveLaw", name := "bound", desc := "(LRowPresolve;IZ[J)I" } : Jvm.MethodName) method_8_code (5 : Nat) (Option.some Jvm.ClassFile.FieldType.int) [((0 : Nat), (10 : Nat), (13 : Nat), (13 : Nat)), ((0 : Nat), (10 : Nat), (17 : Nat), (25 : Nat))]) ∈ gtbl := gt4 3 rfl rfl
set_option maxRecDepth 20000 in
theorem wk_808 : (Jvm.Cond.methodLink "RowPresolveLaw" (144 : Nat) ({ cls := "RowPresolveLaw", name := "cost", desc := "(LRowPresolve;I[J)I" } : Jvm.MethodName)) ∈ gtbl := gt4 8 rfl rfl
set_option maxRecDepth 20000 in
theorem wk_809 : (Jvm.Cond.static ({ cls := "RowPresolveLaw", name := "cost", desc := "(LRowPresolve;I[J)I" } : Jvm.MethodName)) ∈ gtbl := gt4 9 rfl rfl
set_option maxRecDepth 20000 in
theorem wk_810 : (Jvm.Cond.codeWith ({ cls := "RowPresolveLaw", name := "cost", desc := "(LRowPresolve;I[J)I" } : Jvm.MethodName) method_9_code (4 : Nat) (Option.some Jvm.ClassFile.FieldType.int) [((0 : Nat), (9 : Nat), (12 : Nat), (13 : Nat)), ((0 : Nat), (9 : Nat), (15 : Nat), (25 : Nat))]) ∈ gtbl := gt4 10 rfl rfl
set_option maxRecDepth 20000 in
theorem wk_816 : (Jvm.Cond.methodLink "RowPresolveLaw" (147 : Nat) ({ cls := "RowPresolveLaw", name := "kind", desc := "(LRowPresolve;I[J)I" } : Jvm.MethodName)) ∈ gtbl := gt4 16 rfl rfl
set_option maxRecDepth 20000 in
theorem wk_817 : (Jvm.Cond.static ({ cls := "RowPresolveLaw", name := "kind", desc := "(LRowPresolve;I[J)I" } : Jvm.MethodName)) ∈ gtbl := gt4 17 rfl rfl
set_option maxRecDepth 20000 in
theorem wk_818 : (Jvm.Cond.codeWith ({ cls := "RowPresolveLaw", name := "kind", desc := "(LRowPresolve;I[J)I" } : Jvm.MethodName) method_10_code (4 : Nat) (Option.some Jvm.ClassFile.FieldType.int) [((0 : Nat), (9 : Nat), (12 : Nat), (13 : Nat)), ((0 : Nat), (9 : Nat), (15 : Nat), (25 : Nat))]) ∈ gtbl := gt4 18 rfl rfl
set_option maxRecDepth 20000 in
theorem wk_823 : (Jvm.Cond.methodLink "RowPresolveLaw" (150 : Nat) ({ cls := "RowPresolveLaw", name := "right", desc := "(LRowPresolve;I[J)I" } : Jvm.MethodName)) ∈ gtbl := gt4 23 rfl rfl
set_option maxRecDepth 20000 in
theorem wk_824 : (Jvm.Cond.static ({ cls := "RowPresolveLaw", name := "right", desc := "(LRowPresolve;I[J)I" } : Jvm.MethodName)) ∈ gtbl := gt4 24 rfl rfl
set_option maxRecDepth 20000 in
theorem wk_825 : (Jvm.Cond.codeWith ({ cls := "RowPresolveLaw", name := "right", desc := "(LRowPresolve;I[J)I" } : Jvm.MethodName) method_11_code (4 : Nat) (Option.some Jvm.ClassFile.FieldType.int) [((0 : Nat), (8 : Nat), (11 : Nat), (13 : Nat)), ((0 : Nat), (8 : Nat), (14 : Nat), (25 : Nat))]) ∈ gtbl := gt4 25 rfl rfl
set_option maxRecDepth 20000 in
theorem wk_830 : (Jvm.Cond.methodLink "RowPresolveLaw" (153 : Nat) ({ cls := "RowPresolveLaw", name := "coefficient", desc := "(LRowPresolve;II[J)I" } : Jvm.MethodName)) ∈ gtbl := gt4 30 rfl rfl
set_option maxRecDepth 20000 in
theorem wk_831 : (Jvm.Cond.static ({ cls := "RowPresolveLaw", name := "coefficient", desc := "(LRowPresolve;II[J)I" } : Jvm.MethodName)) ∈ gtbl := gt4 31 rfl rfl
set_option maxRecDepth 20000 in
theorem wk_832 : (Jvm.Cond.codeWith ({ cls := "RowPresolveLaw", name := "coefficient", desc := "(LRowPresolve;II[J)I" } : Jvm.MethodName) method_12_code (5 : Nat) (Option.some Jvm.ClassFile.FieldType.int) [((0 : Nat), (10 : Nat), (13 : Nat), (13 : Nat)), ((0 : Nat), (10 : Nat), (17 : Nat), (25 : Nat))]) ∈ gtbl := gt4 32 rfl rfl
set_option maxRecDepth 20000 in
theorem wk_838 : (Jvm.Cond.methodLink "RowPresolveLaw" (156 : Nat) ({ cls := "RowPresolveLaw", name := "offset", desc := "(LRowPresolve;[J)I" } : Jvm.MethodName)) ∈ gtbl := gt4 38 rfl rfl
set_option maxRecDepth 20000 in
theorem wk_839 : (Jvm.Cond.static ({ cls := "RowPresolveLaw", name := "offset", desc := "(LRowPresolve;[J)I" } : Jvm.MethodName)) ∈ gtbl := gt4 39 rfl rfl
set_option maxRecDepth 20000 in
theorem wk_840 : (Jvm.Cond.codeWith ({ cls := "RowPresolveLaw", name := "offset", desc := "(LRowPresolve;[J)I" } : Jvm.MethodName) method_13_code (3 : Nat) (Option.some Jvm.ClassFile.FieldType.int) [((0 : Nat), (7 : Nat), (10 : Nat), (13 : Nat))]) ∈ gtbl := gt4 40 rfl rfl
set_option maxRecDepth 20000 in
theorem wk_845 : (Jvm.Cond.methodLink "RowPresolveLaw" (160 : Nat) ({ cls := "RowPresolveLaw", name := "rest", desc := "(LRowPresolve;II[J)I" } : Jvm.MethodName)) ∈ gtbl := gt4 45 rfl rfl
set_option maxRecDepth 20000 in
theorem wk_846 : (Jvm.Cond.static ({ cls := "RowPresolveLaw", name := "rest", desc := "(LRowPresolve;II[J)I" } : Jvm.MethodName)) ∈ gtbl := gt4 46 rfl rfl
set_option maxRecDepth 20000 in
theorem wk_847 : (Jvm.Cond.codeWith ({ cls := "RowPresolveLaw", name := "rest", desc := "(LRowPresolve;II[J)I" } : Jvm.MethodName) method_14_code (5 : Nat) (Option.some Jvm.ClassFile.FieldType.int) [((0 : Nat), (10 : Nat), (13 : Nat), (13 : Nat)), ((0 : Nat), (10 : Nat), (17 : Nat), (15 : Nat)), ((0 : Nat), (10 : Nat), (21 : Nat), (25 : Nat))]) ∈ gtbl := gt4 47 rfl rfl
set_option maxRecDepth 20000 in
theorem wk_853 : (Jvm.Cond.methodLink "RowPresolveLaw" (163 : Nat) ({ cls := "RowPresolveLaw", name := "certificate", desc := "(LRowPresolve;[J)I" } : Jvm.MethodName)) ∈ gtbl := gt4 53 rfl rfl
set_option maxRecDepth 20000 in
theorem wk_854 : (Jvm.Cond.static ({ cls := "RowPresolveLaw", name := "certificate", desc := "(LRowPresolve;[J)I" } : Jvm.MethodName)) ∈ gtbl := gt4 54 rfl rfl
set_option maxRecDepth 20000 in
theorem wk_855 : (Jvm.Cond.codeWith ({ cls := "RowPresolveLaw", name := "certificate", desc := "(LRowPresolve;[J)I" } : Jvm.MethodName) method_15_code (3 : Nat) (Option.some Jvm.ClassFile.FieldType.int) [((0 : Nat), (8 : Nat), (11 : Nat), (13 : Nat))]) ∈ gtbl := gt4 55 rfl rfl
set_option maxRecDepth 20000 in
theorem wk_860 : (Jvm.Cond.methodLink "RowPresolveLaw" (166 : Nat) ({ cls := "RowPresolveLaw", name := "certified", desc := "(LRowPresolve;[J)I" } : Jvm.MethodName)) ∈ gtbl := gt4 60 rfl rfl
set_option maxRecDepth 20000 in
theorem wk_861 : (Jvm.Cond.static ({ cls := "RowPresolveLaw", name := "certified", desc := "(LRowPresolve;[J)I" } : Jvm.MethodName)) ∈ gtbl := gt4 61 rfl rfl
set_option maxRecDepth 20000 in
theorem wk_862 : (Jvm.Cond.codeWith ({ cls := "RowPresolveLaw", name := "certified", desc := "(LRowPresolve;[J)I" } : Jvm.MethodName) method_16_code (3 : Nat) (Option.some Jvm.ClassFile.FieldType.int) [((0 : Nat), (8 : Nat), (11 : Nat), (13 : Nat))]) ∈ gtbl := gt4 62 rfl rfl
set_option maxRecDepth 20000 in
theorem wk_896 : (Jvm.Cond.methodLink "RowPresolveLaw" (169 : Nat) ({ cls := "RowPresolveLaw", name := "acts", desc := "(LRowPresolve;[J)I" } : Jvm.MethodName)) ∈ gtbl := gt4 96 rfl rfl
set_option maxRecDepth 20000 in
theorem wk_897 : (Jvm.Cond.static ({ cls := "RowPresolveLaw", name := "acts", desc := "(LRowPresolve;[J)I" } : Jvm.MethodName)) ∈ gtbl := gt4 97 rfl rfl
set_option maxRecDepth 20000 in
theorem wk_898 : (Jvm.Cond.codeWith ({ cls := "RowPresolveLaw", name := "acts", desc := "(LRowPresolve;[J)I" } : Jvm.MethodName) method_17_code (3 : Nat) (Option.some Jvm.ClassFile.FieldType.int) [((0 : Nat), (8 : Nat), (11 : Nat), (13 : Nat))]) ∈ gtbl := gt4 98 rfl rfl
set_option maxRecDepth 20000 in
theorem wk_903 : (Jvm.Cond.methodLink "RowPresolveLaw" (172 : Nat) ({ cls := "RowPresolveLaw", name := "act", desc := "(LRowPresolve;II[J)I" } : Jvm.MethodName)) ∈ gtbl := gt4 103 rfl rfl
set_option maxRecDepth 20000 in
theorem wk_904 : (Jvm.Cond.static ({ cls := "RowPresolveLaw", name := "act", desc := "(LRowPresolve;II[J)I" } : Jvm.MethodName)) ∈ gtbl := gt4 104 rfl rfl
set_option maxRecDepth 20000 in
theorem wk_905 : (Jvm.Cond.codeWith ({ cls := "RowPresolveLaw", name := "act", desc := "(LRowPresolve;II[J)I" } : Jvm.MethodName) method_18_code (5 : Nat) (Option.some Jvm.ClassFile.FieldType.int) [((0 : Nat), (9 : Nat), (12 : Nat), (13 : Nat)), ((0 : Nat), (9 : Nat), (16 : Nat), (25 : Nat)), ((0 : Nat), (9 : Nat), (20 : Nat), (15 : Nat))]) ∈ gtbl := gt4 105 rfl rfl
set_option maxRecDepth 20000 in
theorem wk_916 : (Jvm.Cond.methodLink "RowPresolveLaw" (175 : Nat) ({ cls := "RowPresolveLaw", name := "parts", desc := "(LRowPresolve;[J)I" } : Jvm.MethodName)) ∈ gtbl := gt4 116 rfl rfl
set_option maxRecDepth 20000 in
theorem wk_917 : (Jvm.Cond.static ({ cls := "RowPresolveLaw", name := "parts", desc := "(LRowPresolve;[J)I" } : Jvm.MethodName)) ∈ gtbl := gt4 117 rfl rfl
set_option maxRecDepth 20000 in
theorem wk_918 : (Jvm.Cond.codeWith ({ cls := "RowPresolveLaw", name := "parts", desc := "(LRowPresolve;[J)I" } : Jvm.MethodName) method_19_code (3 : Nat) (Option.some Jvm.ClassFile.FieldType.int) [((0 : Nat), (8 : Nat), (11 : Nat), (13 : Nat))]) ∈ gtbl := gt4 118 rfl rfl
set_option maxRecDepth 20000 in
theorem wk_937 : (Jvm.Cond.methodLink "RowPresolveLaw" (178 : Nat) ({ cls := "RowPresolveLaw", name := "clique", desc := "(LRowPresolve;I[J)I" } : Jvm.MethodName)) ∈ gtbl := gt4 137 rfl rfl
set_option maxRecDepth 20000 in
theorem wk_938 : (Jvm.Cond.static ({ cls := "RowPresolveLaw", name := "clique", desc := "(LRowPresolve;I[J)I" } : Jvm.MethodName)) ∈ gtbl := gt4 138 rfl rfl
set_option maxRecDepth 20000 in
theorem wk_939 : (Jvm.Cond.codeWith ({ cls := "RowPresolveLaw", name := "clique", desc := "(LRowPresolve;I[J)I" } : Jvm.MethodName) method_20_code (4 : Nat) (Option.some Jvm.ClassFile.FieldType.int) [((0 : Nat), (9 : Nat), (12 : Nat), (13 : Nat)), ((0 : Nat), (9 : Nat), (15 : Nat), (25 : Nat))]) ∈ gtbl := gt4 139 rfl rfl
set_option maxRecDepth 20000 in
theorem wk_959 : (Jvm.Cond.methodLink "RowPresolveLaw" (181 : Nat) ({ cls := "RowPresolveLaw", name := "cliqueAt", desc := "(LRowPresolve;II[J)I" } : Jvm.MethodName)) ∈ gtbl := gt4 159 rfl rfl
set_option maxRecDepth 20000 in
theorem wk_960 : (Jvm.Cond.static ({ cls := "RowPresolveLaw", name := "cliqueAt", desc := "(LRowPresolve;II[J)I" } : Jvm.MethodName)) ∈ gtbl := gt4 160 rfl rfl
set_option maxRecDepth 20000 in
theorem wk_961 : (Jvm.Cond.codeWith ({ cls := "RowPresolveLaw", name := "cliqueAt", desc := "(LRowPresolve;II[J)I" } : Jvm.MethodName) method_21_code (5 : Nat) (Option.some Jvm.ClassFile.FieldType.int) [((0 : Nat), (10 : Nat), (13 : Nat), (13 : Nat)), ((0 : Nat), (10 : Nat), (17 : Nat), (25 : Nat))]) ∈ gtbl := gt4 161 rfl rfl
set_option maxRecDepth 20000 in
theorem wk_967 : (Jvm.Cond.methodLink "RowPresolveLaw" (184 : Nat) ({ cls := "RowPresolveLaw", name := "same", desc := "(LRowPresolve;II[J)I" } : Jvm.MethodName)) ∈ gtbl := gt4 167 rfl rfl
set_option maxRecDepth 20000 in
theorem wk_968 : (Jvm.Cond.static ({ cls := "RowPresolveLaw", name := "same", desc := "(LRowPresolve;II[J)I" } : Jvm.MethodName)) ∈ gtbl := gt4 168 rfl rfl
set_option maxRecDepth 20000 in
theorem wk_969 : (Jvm.Cond.codeWith ({ cls := "RowPresolveLaw", name := "same", desc := "(LRowPresolve;II[J)I" } : Jvm.MethodName) method_22_code (5 : Nat) (Option.some Jvm.ClassFile.FieldType.int) [((0 : Nat), (17 : Nat), (20 : Nat), (13 : Nat)), ((0 : Nat), (17 : Nat), (24 : Nat), (25 : Nat))]) ∈ gtbl := gt4 169 rfl rfl
set_option maxRecDepth 20000 in
theorem wk_978 : (Jvm.Cond.methodLink "RowPresolveLaw" (187 : Nat) ({ cls := "RowPresolveLaw", name := "put", desc := "(LRowPresolve;II)I" } : Jvm.MethodName)) ∈ gtbl := gt4 178 rfl rfl
set_option maxRecDepth 20000 in
theorem wk_979 : (Jvm.Cond.static ({ cls := "RowPresolveLaw", name := "put", desc := "(LRowPresolve;II)I" } : Jvm.MethodName)) ∈ gtbl := gt4 179 rfl rfl
set_option maxRecDepth 20000 in
theorem wk_980 : (Jvm.Cond.codeWith ({ cls := "RowPresolveLaw", name := "put", desc := "(LRowPresolve;II)I" } : Jvm.MethodName) method_23_code (4 : Nat) (Option.some Jvm.ClassFile.FieldType.int) [((0 : Nat), (6 : Nat), (9 : Nat), (13 : Nat)), ((0 : Nat), (6 : Nat), (12 : Nat), (25 : Nat)), ((0 : Nat), (6 : Nat), (15 : Nat), (15 : Nat))]) ∈ gtbl := gt4 180 rfl rfl
set_option maxRecDepth 20000 in
theorem wk_991 : (Jvm.Cond.methodLink "RowPresolveLaw" (191 : Nat) ({ cls := "RowPresolveLaw", name := "back", desc := "(LRowPresolve;[J)I" } : Jvm.MethodName)) ∈ gtbl := gt4 191 rfl rfl
set_option maxRecDepth 20000 in
theorem wk_992 : (Jvm.Cond.static ({ cls := "RowPresolveLaw", name := "back", desc := "(LRowPresolve;[J)I" } : Jvm.MethodName)) ∈ gtbl := gt4 192 rfl rfl
set_option maxRecDepth 20000 in
theorem wk_993 : (Jvm.Cond.codeWith ({ cls := "RowPresolveLaw", name := "back", desc := "(LRowPresolve;[J)I" } : Jvm.MethodName) method_24_code (3 : Nat) (Option.some Jvm.ClassFile.FieldType.int) [((0 : Nat), (8 : Nat), (11 : Nat), (13 : Nat))]) ∈ gtbl := gt4 193 rfl rfl
set_option maxRecDepth 20000 in
theorem wk_1009 : (Jvm.Cond.methodLink "RowPresolveLaw" (194 : Nat) ({ cls := "RowPresolveLaw", name := "at", desc := "(LRowPresolve;I[J)I" } : Jvm.MethodName)) ∈ gtbl := gt4 209 rfl rfl
set_option maxRecDepth 20000 in
theorem wk_1010 : (Jvm.Cond.static ({ cls := "RowPresolveLaw", name := "at", desc := "(LRowPresolve;I[J)I" } : Jvm.MethodName)) ∈ gtbl := gt4 210 rfl rfl
set_option maxRecDepth 20000 in
theorem wk_1011 : (Jvm.Cond.codeWith ({ cls := "RowPresolveLaw", name := "at", desc := "(LRowPresolve;I[J)I" } : Jvm.MethodName) method_25_code (4 : Nat) (Option.some Jvm.ClassFile.FieldType.int) [((0 : Nat), (9 : Nat), (12 : Nat), (13 : Nat)), ((0 : Nat), (9 : Nat), (15 : Nat), (25 : Nat))]) ∈ gtbl := gt4 211 rfl rfl
set_option maxRecDepth 20000 in
theorem wk_1021 : (Jvm.Cond.methodLink "RowPresolveLaw" (197 : Nat) ({ cls := "RowPresolveLaw", name := "value", desc := "(LRowPresolve;[J)I" } : Jvm.MethodName)) ∈ gtbl := gt4 221 rfl rfl
set_option maxRecDepth 20000 in
theorem wk_1022 : (Jvm.Cond.static ({ cls := "RowPresolveLaw", name := "value", desc := "(LRowPresolve;[J)I" } : Jvm.MethodName)) ∈ gtbl := gt4 222 rfl rfl
set_option maxRecDepth 20000 in
theorem wk_1023 : (Jvm.Cond.codeWith ({ cls := "RowPresolveLaw", name := "value", desc := "(LRowPresolve;[J)I" } : Jvm.MethodName) method_26_code (3 : Nat) (Option.some Jvm.ClassFile.FieldType.int) [((0 : Nat), (7 : Nat), (10 : Nat), (13 : Nat))]) ∈ gtbl := gt4 223 rfl rfl
set_option maxRecDepth 20000 in
theorem wk_1028 : (Jvm.Cond.methodLink "RowPresolveLaw" (200 : Nat) ({ cls := "RowPresolveLaw", name := "best", desc := "(LRowPresolve;Z[J)I" } : Jvm.MethodName)) ∈ gtbl := gt4 228 rfl rfl
set_option maxRecDepth 20000 in
theorem wk_1029 : (Jvm.Cond.static ({ cls := "RowPresolveLaw", name := "best", desc := "(LRowPresolve;Z[J)I" } : Jvm.MethodName)) ∈ gtbl := gt4 229 rfl rfl
set_option maxRecDepth 20000 in
theorem wk_1030 : (Jvm.Cond.codeWith ({ cls := "RowPresolveLaw", name := "best", desc := "(LRowPresolve;Z[J)I" } : Jvm.MethodName) method_27_code (4 : Nat) (Option.some Jvm.ClassFile.FieldType.int) [((0 : Nat), (9 : Nat), (12 : Nat), (13 : Nat))]) ∈ gtbl := gt4 230 rfl rfl
set_option maxRecDepth 20000 in
theorem wk_1041 : (Jvm.Cond.methodLink "RowPresolveLaw" (204 : Nat) ({ cls := "RowPresolveLaw", name := "bestValue", desc := "(LRowPresolve;[J)I" } : Jvm.MethodName)) ∈ gtbl := gt5 1 rfl rfl
set_option maxRecDepth 20000 in
theorem wk_1042 : (Jvm.Cond.static ({ cls := "RowPresolveLaw", name := "bestValue", desc := "(LRowPresolve;[J)I" } : Jvm.MethodName)) ∈ gtbl := gt5 2 rfl rfl
set_option maxRecDepth 20000 in
theorem wk_1043 : (Jvm.Cond.codeWith ({ cls := "RowPresolveLaw", name := "bestValue", desc := "(LRowPresolve;[J)I" } : Jvm.MethodName) method_28_code (3 : Nat) (Option.some Jvm.ClassFile.FieldType.int) [((0 : Nat), (7 : Nat), (10 : Nat), (13 : Nat))]) ∈ gtbl := gt5 3 rfl rfl
set_option maxRecDepth 20000 in
theorem wk_1053 : (Jvm.Cond.methodLink "RowPresolveLaw" (207 : Nat) ({ cls := "RowPresolveLaw", name := "bestAt", desc := "(LRowPresolve;I[J)I" } : Jvm.MethodName)) ∈ gtbl := gt5 13 rfl rfl
set_option maxRecDepth 20000 in
theorem wk_1054 : (Jvm.Cond.static ({ cls := "RowPresolveLaw", name := "bestAt", desc := "(LRowPresolve;I[J)I" } : Jvm.MethodName)) ∈ gtbl := gt5 14 rfl rfl
set_option maxRecDepth 20000 in
theorem wk_1055 : (Jvm.Cond.codeWith ({ cls := "RowPresolveLaw", name := "bestAt", desc := "(LRowPresolve;I[J)I" } : Jvm.MethodName) method_29_code (4 : Nat) (Option.some Jvm.ClassFile.FieldType.int) [((0 : Nat), (9 : Nat), (12 : Nat), (13 : Nat)), ((0 : Nat), (9 : Nat), (15 : Nat), (25 : Nat))]) ∈ gtbl := gt5 15 rfl rfl
set_option maxRecDepth 20000 in
theorem wk_1197 : (Jvm.Cond.methodLink "RowPresolveLaw" (118 : Nat) ({ cls := "RowPresolveModel", name := "thrown", desc := "()I" } : Jvm.MethodName)) ∈ gtbl := gt5 157 rfl rfl
set_option maxRecDepth 20000 in
theorem wk_1201 : (Jvm.Cond.methodLink "RowPresolveLaw" (117 : Nat) ({ cls := "RowPresolveModel", name := "column", desc := "(III)I" } : Jvm.MethodName)) ∈ gtbl := gt5 161 rfl rfl
set_option maxRecDepth 20000 in
theorem wk_1224 : (Jvm.Cond.methodLink "RowPresolveLaw" (124 : Nat) ({ cls := "RowPresolveModel", name := "row", desc := "(II)I" } : Jvm.MethodName)) ∈ gtbl := gt5 184 rfl rfl
set_option maxRecDepth 20000 in
theorem wk_1230 : (Jvm.Cond.methodLink "RowPresolveLaw" (128 : Nat) ({ cls := "RowPresolveModel", name := "term", desc := "(III)V" } : Jvm.MethodName)) ∈ gtbl := gt5 190 rfl rfl
set_option maxRecDepth 20000 in
theorem wk_1242 : (Jvm.Cond.methodLink "RowPresolveLaw" (132 : Nat) ({ cls := "RowPresolveModel", name := "clear", desc := "()I" } : Jvm.MethodName)) ∈ gtbl := gt5 202 rfl rfl
set_option maxRecDepth 20000 in
theorem wk_1246 : (Jvm.Cond.methodLink "RowPresolveLaw" (135 : Nat) ({ cls := "RowPresolveModel", name := "shrink", desc := "(II)I" } : Jvm.MethodName)) ∈ gtbl := gt5 206 rfl rfl
set_option maxRecDepth 20000 in
theorem wk_1396 : (Jvm.Cond.methodLink "RowPresolveLaw" (139 : Nat) ({ cls := "RowPresolveModel", name := "state", desc := "(I)I" } : Jvm.MethodName)) ∈ gtbl := gt6 116 rfl rfl
set_option maxRecDepth 20000 in
theorem wk_1400 : (Jvm.Cond.methodLink "RowPresolveLaw" (143 : Nat) ({ cls := "RowPresolveModel", name := "bound", desc := "(IZ)I" } : Jvm.MethodName)) ∈ gtbl := gt6 120 rfl rfl
set_option maxRecDepth 20000 in
theorem wk_1404 : (Jvm.Cond.methodLink "RowPresolveLaw" (146 : Nat) ({ cls := "RowPresolveModel", name := "cost", desc := "(I)I" } : Jvm.MethodName)) ∈ gtbl := gt6 124 rfl rfl
set_option maxRecDepth 20000 in
theorem wk_1408 : (Jvm.Cond.methodLink "RowPresolveLaw" (149 : Nat) ({ cls := "RowPresolveModel", name := "kind", desc := "(I)I" } : Jvm.MethodName)) ∈ gtbl := gt6 128 rfl rfl
set_option maxRecDepth 20000 in
theorem wk_1412 : (Jvm.Cond.methodLink "RowPresolveLaw" (152 : Nat) ({ cls := "RowPresolveModel", name := "right", desc := "(I)J" } : Jvm.MethodName)) ∈ gtbl := gt6 132 rfl rfl
set_option maxRecDepth 20000 in
theorem wk_1416 : (Jvm.Cond.methodLink "RowPresolveLaw" (155 : Nat) ({ cls := "RowPresolveModel", name := "coefficient", desc := "(II)I" } : Jvm.MethodName)) ∈ gtbl := gt6 136 rfl rfl
set_option maxRecDepth 20000 in
theorem wk_1420 : (Jvm.Cond.methodLink "RowPresolveLaw" (159 : Nat) ({ cls := "RowPresolveModel", name := "offset", desc := "()J" } : Jvm.MethodName)) ∈ gtbl := gt6 140 rfl rfl
set_option maxRecDepth 20000 in
theorem wk_1424 : (Jvm.Cond.methodLink "RowPresolveLaw" (162 : Nat) ({ cls := "RowPresolveModel", name := "rest", desc := "(II)I" } : Jvm.MethodName)) ∈ gtbl := gt6 144 rfl rfl
set_option maxRecDepth 20000 in
theorem wk_1433 : (Jvm.Cond.methodLink "RowPresolveLaw" (165 : Nat) ({ cls := "RowPresolveModel", name := "certificate", desc := "()I" } : Jvm.MethodName)) ∈ gtbl := gt6 153 rfl rfl
set_option maxRecDepth 20000 in
theorem wk_1437 : (Jvm.Cond.methodLink "RowPresolveLaw" (168 : Nat) ({ cls := "RowPresolveModel", name := "certified", desc := "()I" } : Jvm.MethodName)) ∈ gtbl := gt6 157 rfl rfl
set_option maxRecDepth 20000 in
theorem wk_1459 : (Jvm.Cond.methodLink "RowPresolveLaw" (171 : Nat) ({ cls := "RowPresolveModel", name := "acts", desc := "()I" } : Jvm.MethodName)) ∈ gtbl := gt6 179 rfl rfl
set_option maxRecDepth 20000 in
theorem wk_1463 : (Jvm.Cond.methodLink "RowPresolveLaw" (174 : Nat) ({ cls := "RowPresolveModel", name := "act", desc := "(II)J" } : Jvm.MethodName)) ∈ gtbl := gt6 183 rfl rfl
set_option maxRecDepth 20000 in
theorem wk_1468 : (Jvm.Cond.methodLink "RowPresolveLaw" (177 : Nat) ({ cls := "RowPresolveModel", name := "parts", desc := "()I" } : Jvm.MethodName)) ∈ gtbl := gt6 188 rfl rfl
set_option maxRecDepth 20000 in
theorem wk_1476 : (Jvm.Cond.methodLink "RowPresolveLaw" (180 : Nat) ({ cls := "RowPresolveModel", name := "clique", desc := "(I)I" } : Jvm.MethodName)) ∈ gtbl := gt6 196 rfl rfl
set_option maxRecDepth 20000 in
theorem wk_1488 : (Jvm.Cond.methodLink "RowPresolveLaw" (183 : Nat) ({ cls := "RowPresolveModel", name := "cliqueAt", desc := "(II)I" } : Jvm.MethodName)) ∈ gtbl := gt6 208 rfl rfl
set_option maxRecDepth 20000 in
theorem wk_1492 : (Jvm.Cond.methodLink "RowPresolveLaw" (186 : Nat) ({ cls := "RowPresolveModel", name := "same", desc := "(II)Z" } : Jvm.MethodName)) ∈ gtbl := gt6 212 rfl rfl
set_option maxRecDepth 20000 in
theorem wk_1496 : (Jvm.Cond.methodLink "RowPresolveLaw" (190 : Nat) ({ cls := "RowPresolveModel", name := "put", desc := "(II)V" } : Jvm.MethodName)) ∈ gtbl := gt6 216 rfl rfl
set_option maxRecDepth 20000 in
theorem wk_1500 : (Jvm.Cond.methodLink "RowPresolveLaw" (193 : Nat) ({ cls := "RowPresolveModel", name := "back", desc := "()I" } : Jvm.MethodName)) ∈ gtbl := gt6 220 rfl rfl
set_option maxRecDepth 20000 in
theorem wk_1504 : (Jvm.Cond.methodLink "RowPresolveLaw" (196 : Nat) ({ cls := "RowPresolveModel", name := "at", desc := "(I)I" } : Jvm.MethodName)) ∈ gtbl := gt6 224 rfl rfl
set_option maxRecDepth 20000 in
theorem wk_1508 : (Jvm.Cond.methodLink "RowPresolveLaw" (199 : Nat) ({ cls := "RowPresolveModel", name := "value", desc := "()J" } : Jvm.MethodName)) ∈ gtbl := gt6 228 rfl rfl
set_option maxRecDepth 20000 in
theorem wk_1512 : (Jvm.Cond.methodLink "RowPresolveLaw" (203 : Nat) ({ cls := "RowPresolveModel", name := "best", desc := "(Z)I" } : Jvm.MethodName)) ∈ gtbl := gt6 232 rfl rfl
set_option maxRecDepth 20000 in
theorem wk_1524 : (Jvm.Cond.methodLink "RowPresolveLaw" (206 : Nat) ({ cls := "RowPresolveModel", name := "bestValue", desc := "()J" } : Jvm.MethodName)) ∈ gtbl := gt7 4 rfl rfl
set_option maxRecDepth 20000 in
theorem wk_1528 : (Jvm.Cond.methodLink "RowPresolveLaw" (209 : Nat) ({ cls := "RowPresolveModel", name := "bestAt", desc := "(I)I" } : Jvm.MethodName)) ∈ gtbl := gt7 8 rfl rfl
theorem ww_L_bestAt : wwd yL_bestAt cL_bestAt 4 (some .int) [(0, 9, 12, 13), (0, 9, 15, 25)] 3 := ⟨wk_1054, wk_80, wk_1055, by decide, by decide +kernel⟩
theorem ww_L_bestValue : wwd yL_bestValue cL_bestValue 3 (some .int) [(0, 7, 10, 13)] 2 := ⟨wk_1042, wk_80, wk_1043, by decide, by decide +kernel⟩
theorem ww_L_best : wwd yL_best cL_best 4 (some .int) [(0, 9, 12, 13)] 3 := ⟨wk_1029, wk_80, wk_1030, by decide, by decide +kernel⟩
theorem ww_L_value : wwd yL_value cL_value 3 (some .int) [(0, 7, 10, 13)] 2 := ⟨wk_1022, wk_80, wk_1023, by decide, by decide +kernel⟩
theorem ww_L_at : wwd yL_at cL_at 4 (some .int) [(0, 9, 12, 13), (0, 9, 15, 25)] 3 := ⟨wk_1010, wk_80, wk_1011, by decide, by decide +kernel⟩
theorem ww_L_back : wwd yL_back cL_back 3 (some .int) [(0, 8, 11, 13)] 2 := ⟨wk_992, wk_80, wk_993, by decide, by decide +kernel⟩
theorem ww_L_put : wwd yL_put cL_put 4 (some .int) [(0, 6, 9, 13), (0, 6, 12, 25), (0, 6, 15, 15)] 3 := ⟨wk_979, wk_80, wk_980, by decide, by decide +kernel⟩
theorem ww_L_same : wwd yL_same cL_same 5 (some .int) [(0, 17, 20, 13), (0, 17, 24, 25)] 4 := ⟨wk_968, wk_80, wk_969, by decide, by decide +kernel⟩
theorem ww_L_cliqueAt : wwd yL_cliqueAt cL_cliqueAt 5 (some .int) [(0, 10, 13, 13), (0, 10, 17, 25)] 4 := ⟨wk_960, wk_80, wk_961, by decide, by decide +kernel⟩
theorem ww_L_clique : wwd yL_clique cL_clique 4 (some .int) [(0, 9, 12, 13), (0, 9, 15, 25)] 3 := ⟨wk_938, wk_80, wk_939, by decide, by decide +kernel⟩
theorem ww_L_parts : wwd yL_parts cL_parts 3 (some .int) [(0, 8, 11, 13)] 2 := ⟨wk_917, wk_80, wk_918, by decide, by decide +kernel⟩
theorem ww_L_act : wwd yL_act cL_act 5 (some .int) [(0, 9, 12, 13), (0, 9, 16, 25), (0, 9, 20, 15)] 4 := ⟨wk_904, wk_80, wk_905, by decide, by decide +kernel⟩
theorem ww_L_acts : wwd yL_acts cL_acts 3 (some .int) [(0, 8, 11, 13)] 2 := ⟨wk_897, wk_80, wk_898, by decide, by decide +kernel⟩
theorem ww_L_certified : wwd yL_certified cL_certified 3 (some .int) [(0, 8, 11, 13)] 2 := ⟨wk_861, wk_80, wk_862, by decide, by decide +kernel⟩
theorem ww_L_certificate : wwd yL_certificate cL_certificate 3 (some .int) [(0, 8, 11, 13)] 2 := ⟨wk_854, wk_80, wk_855, by decide, by decide +kernel⟩
theorem ww_L_rest : wwd yL_rest cL_rest 5 (some .int) [(0, 10, 13, 13), (0, 10, 17, 15), (0, 10, 21, 25)] 4 := ⟨wk_846, wk_80, wk_847, by decide, by decide +kernel⟩
theorem ww_L_offset : wwd yL_offset cL_offset 3 (some .int) [(0, 7, 10, 13)] 2 := ⟨wk_839, wk_80, wk_840, by decide, by decide +kernel⟩
theorem ww_L_coefficient : wwd yL_coefficient cL_coefficient 5 (some .int) [(0, 10, 13, 13), (0, 10, 17, 25)] 4 := ⟨wk_831, wk_80, wk_832, by decide, by decide +kernel⟩
theorem ww_L_right : wwd yL_right cL_right 4 (some .int) [(0, 8, 11, 13), (0, 8, 14, 25)] 3 := ⟨wk_824, wk_80, wk_825, by decide, by decide +kernel⟩
theorem ww_L_kind : wwd yL_kind cL_kind 4 (some .int) [(0, 9, 12, 13), (0, 9, 15, 25)] 3 := ⟨wk_817, wk_80, wk_818, by decide, by decide +kernel⟩
theorem ww_L_cost : wwd yL_cost cL_cost 4 (some .int) [(0, 9, 12, 13), (0, 9, 15, 25)] 3 := ⟨wk_809, wk_80, wk_810, by decide, by decide +kernel⟩
theorem ww_L_bound : wwd yL_bound cL_bound 5 (some .int) [(0, 10, 13, 13), (0, 10, 17, 25)] 4 := ⟨wk_802, wk_80, wk_803, by decide, by decide +kernel⟩
theorem ww_L_state : wwd yL_state cL_state 4 (some .int) [(0, 9, 12, 13), (0, 9, 15, 25)] 3 := ⟨wk_790, wk_80, wk_791, by decide, by decide +kernel⟩
theorem ww_L_shrink : wwd yL_shrink cL_shrink 5 (some .int) [(0, 10, 13, 15)] 4 := ⟨wk_560, wk_80, wk_561, by decide, by decide +kernel⟩
theorem ww_L_term : wwd yL_term cL_term 5 (some .int) [(0, 7, 10, 25), (0, 7, 14, 15)] 4 := ⟨wk_526, wk_80, wk_527, by decide, by decide +kernel⟩
theorem ww_L_row : wwd yL_row cL_row 5 (some .int) [(0, 10, 13, 13), (0, 10, 17, 15)] 4 := ⟨wk_516, wk_80, wk_517, by decide, by decide +kernel⟩
theorem ww_L_column : wwd yL_column cL_column 6 (some .int) [(0, 12, 15, 13), (0, 12, 19, 15)] 5 := ⟨wk_418, wk_80, wk_419, by decide, by decide +kernel⟩
def law_C0 (x1 x2 x3 : Int32) (w : ZW) : Option ZW := ((L_column w.1 x1 x2 x3).bind (fun r184 : Int32 × LW => ((X9_column (r184.2, w.2).2 x1 x2 x3).bind (fun r208 : Int32 × MW => ((X9_thrown ((r184.2, w.2).1, r208.2).2 ).bind (fun r214 : Int32 => (if r214 = r184.1 then (if r184.1 = 0 then (if inR 0 1 = true then (if (((r184.2, w.2).1, r208.2).1.2 (0 : Int32).toNatClampNeg) = r208.1.toInt64 then (some ((r184.2, w.2).1, r208.2)) else none) else none) else (some ((r184.2, w.2).1, r208.2))) else none)))))))
def law_C1 (x1 x2 x3 : Int32) (w : ZW) : Option ZW := ((L_row w.1 x1 x2).bind (fun r258 : Int32 × LW => ((X9_row (r258.2, w.2).2 x1 x2).bind (fun r276 : Int32 × MW => ((X9_thrown ((r258.2, w.2).1, r276.2).2 ).bind (fun r282 : Int32 => (if r282 = r258.1 then (if r258.1 = 0 then (if inR 0 1 = true then (if (((r258.2, w.2).1, r276.2).1.2 (0 : Int32).toNatClampNeg) = r276.1.toInt64 then (some ((r258.2, w.2).1, r276.2)) else none) else none) else (some ((r258.2, w.2).1, r276.2))) else none)))))))
def law_C2 (x1 x2 x3 : Int32) (w : ZW) : Option ZW := ((L_term w.1 x1 x2 x3).bind (fun r331 : Int32 × LW => ((X9_term (r331.2, w.2).2 x1 x2 x3).bind (fun r355 : MW => ((X9_thrown ((r331.2, w.2).1, r355).2 ).bind (fun r359 : Int32 => (if r359 = r331.1 then (some ((r331.2, w.2).1, r355)) else none)))))))
def law_C3 (x1 x2 x3 : Int32) (w : ZW) : Option ZW := ((X8_clear w.1.1).bind (fun r373 : Int32 × CW => ((X9_clear ((r373.2, w.1.2), w.2).2 ).bind (fun r377 : Int32 × MW => (if r373.1 = r377.1 then (some (((r373.2, w.1.2), w.2).1, r377.2)) else none)))))
def law_C4 (x1 x2 x3 : Int32) (w : ZW) : Option ZW := ((L_shrink w.1 x1 x2).bind (fun r399 : Int32 × LW => ((X9_shrink (r399.2, w.2).2 x1 x2).bind (fun r417 : Int32 × MW => ((X9_thrown ((r399.2, w.2).1, r417.2).2 ).bind (fun r423 : Int32 => (if r423 = r399.1 then (if r399.1 = 0 then (if inR 0 1 = true then (if (((r399.2, w.2).1, r417.2).1.2 (0 : Int32).toNatClampNeg) = r417.1.toInt64 then (some ((r399.2, w.2).1, r417.2)) else none) else none) else (some ((r399.2, w.2).1, r417.2))) else none)))))))
def law_C5 (x1 x2 x3 : Int32) (w : ZW) : Option ZW := ((L_state w.1 x1).bind (fun r461 : Int32 × LW => ((X9_state (r461.2, w.2).2 x1).bind (fun r473 : Int32 × MW => ((X9_thrown ((r461.2, w.2).1, r473.2).2 ).bind (fun r479 : Int32 => (if r479 = r461.1 then (if r461.1 = 0 then (if inR 0 1 = true then (if (((r461.2, w.2).1, r473.2).1.2 (0 : Int32).toNatClampNeg) = r473.1.toInt64 then (some ((r461.2, w.2).1, r473.2)) else none) else none) else (some ((r461.2, w.2).1, r473.2))) else none)))))))
def L_law_J557  (j557_0 : ZW) (j557_1 : Int32) (j557_2 : Int32) (j557_3 : Int32) : Option (ZW) := ((X9_bound j557_0.2 j557_2 j557_3).bind (fun r557 : Int32 × MW => ((X9_thrown (j557_0.1, r557.2).2 ).bind (fun r563 : Int32 => (if r563 = j557_1 then (if j557_1 = 0 then (if inR 0 1 = true then (if ((j557_0.1, r557.2).1.2 (0 : Int32).toNatClampNeg) = r557.1.toInt64 then (some (j557_0.1, r557.2)) else none) else none) else (some (j557_0.1, r557.2))) else none)))))
def L_law_J530 (x1 : Int32) (x2 : Int32) (j530_0 : ZW) (j530_1 : Int32) (j530_2 : Int32) : Option (ZW) := ((L_bound j530_0.1 j530_1 j530_2).bind (fun r531 : Int32 × LW => (if x2 = 0 then (L_law_J557 (r531.2, j530_0.2) r531.1 x1 0) else (L_law_J557 (r531.2, j530_0.2) r531.1 x1 1))))
def law_C6 (x1 x2 x3 : Int32) (w : ZW) : Option ZW := (if x2 = 0 then (L_law_J530 x1 x2 w x1 0) else (L_law_J530 x1 x2 w x1 1))
def law_C7 (x1 x2 x3 : Int32) (w : ZW) : Option ZW := ((L_cost w.1 x1).bind (fun r601 : Int32 × LW => ((X9_cost (r601.2, w.2).2 x1).bind (fun r613 : Int32 × MW => ((X9_thrown ((r601.2, w.2).1, r613.2).2 ).bind (fun r619 : Int32 => (if r619 = r601.1 then (if r601.1 = 0 then (if inR 0 1 = true then (if (((r601.2, w.2).1, r613.2).1.2 (0 : Int32).toNatClampNeg) = r613.1.toInt64 then (some ((r601.2, w.2).1, r613.2)) else none) else none) else (some ((r601.2, w.2).1, r613.2))) else none)))))))
def law_C8 (x1 x2 x3 : Int32) (w : ZW) : Option ZW := ((L_kind w.1 x1).bind (fun r657 : Int32 × LW => ((X9_kind (r657.2, w.2).2 x1).bind (fun r669 : Int32 × MW => ((X9_thrown ((r657.2, w.2).1, r669.2).2 ).bind (fun r675 : Int32 => (if r675 = r657.1 then (if r657.1 = 0 then (if inR 0 1 = true then (if (((r657.2, w.2).1, r669.2).1.2 (0 : Int32).toNatClampNeg) = r669.1.toInt64 then (some ((r657.2, w.2).1, r669.2)) else none) else none) else (some ((r657.2, w.2).1, r669.2))) else none)))))))
def law_C9 (x1 x2 x3 : Int32) (w : ZW) : Option ZW := ((L_right w.1 x1).bind (fun r713 : Int32 × LW => ((X9_right (r713.2, w.2).2 x1).bind (fun r725 : Int64 × MW => ((X9_thrown ((r713.2, w.2).1, r725.2).2 ).bind (fun r731 : Int32 => (if r731 = r713.1 then (if r713.1 = 0 then (if inR 0 1 = true then (if (((r713.2, w.2).1, r725.2).1.2 (0 : Int32).toNatClampNeg) = r725.1 then (some ((r713.2, w.2).1, r725.2)) else none) else none) else (some ((r713.2, w.2).1, r725.2))) else none)))))))
def law_C10 (x1 x2 x3 : Int32) (w : ZW) : Option ZW := ((L_coefficient w.1 x1 x2).bind (fun r774 : Int32 × LW => ((X9_coefficient (r774.2, w.2).2 x1 x2).bind (fun r792 : Int32 × MW => ((X9_thrown ((r774.2, w.2).1, r792.2).2 ).bind (fun r798 : Int32 => (if r798 = r774.1 then (if r774.1 = 0 then (if inR 0 1 = true then (if (((r774.2, w.2).1, r792.2).1.2 (0 : Int32).toNatClampNeg) = r792.1.toInt64 then (some ((r774.2, w.2).1, r792.2)) else none) else none) else (some ((r774.2, w.2).1, r792.2))) else none)))))))
def law_C11 (x1 x2 x3 : Int32) (w : ZW) : Option ZW := ((L_offset w.1 ).bind (fun r830 : Int32 × LW => ((X9_offset (r830.2, w.2).2 ).bind (fun r836 : Int64 × MW => ((X9_thrown ((r830.2, w.2).1, r836.2).2 ).bind (fun r842 : Int32 => (if r842 = r830.1 then (if r830.1 = 0 then (if inR 0 1 = true then (if (((r830.2, w.2).1, r836.2).1.2 (0 : Int32).toNatClampNeg) = r836.1 then (some ((r830.2, w.2).1, r836.2)) else none) else none) else (some ((r830.2, w.2).1, r836.2))) else none)))))))
def law_C12 (x1 x2 x3 : Int32) (w : ZW) : Option ZW := ((L_rest w.1 x1 x2).bind (fun r885 : Int32 × LW => ((X9_rest (r885.2, w.2).2 x1 x2).bind (fun r903 : Int32 × MW => ((X9_thrown ((r885.2, w.2).1, r903.2).2 ).bind (fun r909 : Int32 => (if r909 = r885.1 then (if r885.1 = 0 then (if inR 0 1 = true then (if (((r885.2, w.2).1, r903.2).1.2 (0 : Int32).toNatClampNeg) = r903.1.toInt64 then (some ((r885.2, w.2).1, r903.2)) else none) else none) else (some ((r885.2, w.2).1, r903.2))) else none)))))))
def law_C13 (x1 x2 x3 : Int32) (w : ZW) : Option ZW := ((L_certificate w.1 ).bind (fun r941 : Int32 × LW => ((X9_certificate (r941.2, w.2).2 ).bind (fun r947 : Int32 × MW => ((X9_thrown ((r941.2, w.2).1, r947.2).2 ).bind (fun r953 : Int32 => (if r953 = r941.1 then (if r941.1 = 0 then (if inR 0 1 = true then (if (((r941.2, w.2).1, r947.2).1.2 (0 : Int32).toNatClampNeg) = r947.1.toInt64 then (some ((r941.2, w.2).1, r947.2)) else none) else none) else (some ((r941.2, w.2).1, r947.2))) else none)))))))
def law_C14 (x1 x2 x3 : Int32) (w : ZW) : Option ZW := ((L_certified w.1 ).bind (fun r985 : Int32 × LW => ((X9_certified (r985.2, w.2).2 ).bind (fun r991 : Int32 × MW => ((X9_thrown ((r985.2, w.2).1, r991.2).2 ).bind (fun r997 : Int32 => (if r997 = r985.1 then (if r985.1 = 0 then (if inR 0 1 = true then (if (((r985.2, w.2).1, r991.2).1.2 (0 : Int32).toNatClampNeg) = r991.1.toInt64 then (some ((r985.2, w.2).1, r991.2)) else none) else none) else (some ((r985.2, w.2).1, r991.2))) else none)))))))
def law_C15 (x1 x2 x3 : Int32) (w : ZW) : Option ZW := ((L_acts w.1 ).bind (fun r1029 : Int32 × LW => ((X9_acts (r1029.2, w.2).2 ).bind (fun r1035 : Int32 × MW => ((X9_thrown ((r1029.2, w.2).1, r1035.2).2 ).bind (fun r1041 : Int32 => (if r1041 = r1029.1 then (if r1029.1 = 0 then (if inR 0 1 = true then (if (((r1029.2, w.2).1, r1035.2).1.2 (0 : Int32).toNatClampNeg) = r1035.1.toInt64 then (some ((r1029.2, w.2).1, r1035.2)) else none) else none) else (some ((r1029.2, w.2).1, r1035.2))) else none)))))))
def law_C16 (x1 x2 x3 : Int32) (w : ZW) : Option ZW := ((L_act w.1 x1 x2).bind (fun r1085 : Int32 × LW => ((X9_act_ (r1085.2, w.2).2 x1 x2).bind (fun r1103 : Int64 × MW => ((X9_thrown ((r1085.2, w.2).1, r1103.2).2 ).bind (fun r1109 : Int32 => (if r1109 = r1085.1 then (if r1085.1 = 0 then (if inR 0 1 = true then (if (((r1085.2, w.2).1, r1103.2).1.2 (0 : Int32).toNatClampNeg) = r1103.1 then (some ((r1085.2, w.2).1, r1103.2)) else none) else none) else (some ((r1085.2, w.2).1, r1103.2))) else none)))))))
def law_C17 (x1 x2 x3 : Int32) (w : ZW) : Option ZW := ((L_parts w.1 ).bind (fun r1140 : Int32 × LW => ((X9_parts (r1140.2, w.2).2 ).bind (fun r1146 : Int32 × MW => ((X9_thrown ((r1140.2, w.2).1, r1146.2).2 ).bind (fun r1152 : Int32 => (if r1152 = r1140.1 then (if r1140.1 = 0 then (if inR 0 1 = true then (if (((r1140.2, w.2).1, r1146.2).1.2 (0 : Int32).toNatClampNeg) = r1146.1.toInt64 then (some ((r1140.2, w.2).1, r1146.2)) else none) else none) else (some ((r1140.2, w.2).1, r1146.2))) else none)))))))
def law_C18 (x1 x2 x3 : Int32) (w : ZW) : Option ZW := ((L_clique w.1 x1).bind (fun r1190 : Int32 × LW => ((X9_clique (r1190.2, w.2).2 x1).bind (fun r1202 : Int32 × MW => ((X9_thrown ((r1190.2, w.2).1, r1202.2).2 ).bind (fun r1208 : Int32 => (if r1208 = r1190.1 then (if r1190.1 = 0 then (if inR 0 1 = true then (if (((r1190.2, w.2).1, r1202.2).1.2 (0 : Int32).toNatClampNeg) = r1202.1.toInt64 then (some ((r1190.2, w.2).1, r1202.2)) else none) else none) else (some ((r1190.2, w.2).1, r1202.2))) else none)))))))
def law_C19 (x1 x2 x3 : Int32) (w : ZW) : Option ZW := ((L_cliqueAt w.1 x1 x2).bind (fun r1252 : Int32 × LW => ((X9_cliqueAt (r1252.2, w.2).2 x1 x2).bind (fun r1270 : Int32 × MW => ((X9_thrown ((r1252.2, w.2).1, r1270.2).2 ).bind (fun r1276 : Int32 => (if r1276 = r1252.1 then (if r1252.1 = 0 then (if inR 0 1 = true then (if (((r1252.2, w.2).1, r1270.2).1.2 (0 : Int32).toNatClampNeg) = r1270.1.toInt64 then (some ((r1252.2, w.2).1, r1270.2)) else none) else none) else (some ((r1252.2, w.2).1, r1270.2))) else none)))))))
def L_law_J1372  (j1372_0 : ZW) (j1372_1 : Int64) (j1372_2 : Int64) : Option (ZW) := (if j1372_1 = j1372_2 then (some j1372_0) else none)
def law_C20 (x1 x2 x3 : Int32) (w : ZW) : Option ZW := ((L_same w.1 x1 x2).bind (fun r1320 : Int32 × LW => ((X9_same (r1320.2, w.2).2 x1 x2).bind (fun r1338 : Int32 × MW => ((X9_thrown ((r1320.2, w.2).1, r1338.2).2 ).bind (fun r1344 : Int32 => (if r1344 = r1320.1 then (if r1320.1 = 0 then (if inR 0 1 = true then (if r1338.1 = 0 then (L_law_J1372 ((r1320.2, w.2).1, r1338.2) (((r1320.2, w.2).1, r1338.2).1.2 (0 : Int32).toNatClampNeg) 0) else (L_law_J1372 ((r1320.2, w.2).1, r1338.2) (((r1320.2, w.2).1, r1338.2).1.2 (0 : Int32).toNatClampNeg) 1)) else none) else (some ((r1320.2, w.2).1, r1338.2))) else none)))))))
def law_C21 (x1 x2 x3 : Int32) (w : ZW) : Option ZW := ((L_put w.1 x1 x2).bind (fun r1394 : Int32 × LW => ((X9_put (r1394.2, w.2).2 x1 x2).bind (fun r1412 : MW => ((X9_thrown ((r1394.2, w.2).1, r1412).2 ).bind (fun r1416 : Int32 => (if r1416 = r1394.1 then (some ((r1394.2, w.2).1, r1412)) else none)))))))
def law_C22 (x1 x2 x3 : Int32) (w : ZW) : Option ZW := ((L_back w.1 ).bind (fun r1431 : Int32 × LW => ((X9_back (r1431.2, w.2).2 ).bind (fun r1437 : Int32 × MW => ((X9_thrown ((r1431.2, w.2).1, r1437.2).2 ).bind (fun r1443 : Int32 => (if r1443 = r1431.1 then (if r1431.1 = 0 then (if inR 0 1 = true then (if (((r1431.2, w.2).1, r1437.2).1.2 (0 : Int32).toNatClampNeg) = r1437.1.toInt64 then (some ((r1431.2, w.2).1, r1437.2)) else none) else none) else (some ((r1431.2, w.2).1, r1437.2))) else none)))))))
def law_C23 (x1 x2 x3 : Int32) (w : ZW) : Option ZW := ((L_at w.1 x1).bind (fun r1481 : Int32 × LW => ((X9_at (r1481.2, w.2).2 x1).bind (fun r1493 : Int32 × MW => ((X9_thrown ((r1481.2, w.2).1, r1493.2).2 ).bind (fun r1499 : Int32 => (if r1499 = r1481.1 then (if r1481.1 = 0 then (if inR 0 1 = true then (if (((r1481.2, w.2).1, r1493.2).1.2 (0 : Int32).toNatClampNeg) = r1493.1.toInt64 then (some ((r1481.2, w.2).1, r1493.2)) else none) else none) else (some ((r1481.2, w.2).1, r1493.2))) else none)))))))
def law_C24 (x1 x2 x3 : Int32) (w : ZW) : Option ZW := ((L_value w.1 ).bind (fun r1531 : Int32 × LW => ((X9_value (r1531.2, w.2).2 ).bind (fun r1537 : Int64 × MW => ((X9_thrown ((r1531.2, w.2).1, r1537.2).2 ).bind (fun r1543 : Int32 => (if r1543 = r1531.1 then (if r1531.1 = 0 then (if inR 0 1 = true then (if (((r1531.2, w.2).1, r1537.2).1.2 (0 : Int32).toNatClampNeg) = r1537.1 then (some ((r1531.2, w.2).1, r1537.2)) else none) else none) else (some ((r1531.2, w.2).1, r1537.2))) else none)))))))
def L_law_J1608  (j1608_0 : ZW) (j1608_1 : Int32) (j1608_2 : Int32) : Option (ZW) := ((X9_best j1608_0.2 j1608_2).bind (fun r1608 : Int32 × MW => ((X9_thrown (j1608_0.1, r1608.2).2 ).bind (fun r1614 : Int32 => (if r1614 = j1608_1 then (if j1608_1 = 0 then (if inR 0 1 = true then (if ((j1608_0.1, r1608.2).1.2 (0 : Int32).toNatClampNeg) = r1608.1.toInt64 then (some (j1608_0.1, r1608.2)) else none) else none) else (some (j1608_0.1, r1608.2))) else none)))))
def L_law_J1587 (x1 : Int32) (j1587_0 : ZW) (j1587_1 : Int32) : Option (ZW) := ((L_best j1587_0.1 j1587_1).bind (fun r1588 : Int32 × LW => (if x1 = 0 then (L_law_J1608 (r1588.2, j1587_0.2) r1588.1 0) else (L_law_J1608 (r1588.2, j1587_0.2) r1588.1 1))))
def law_C25 (x1 x2 x3 : Int32) (w : ZW) : Option ZW := (if x1 = 0 then (L_law_J1587 x1 w 0) else (L_law_J1587 x1 w 1))
def law_C26 (x1 x2 x3 : Int32) (w : ZW) : Option ZW := ((L_bestValue w.1 ).bind (fun r1646 : Int32 × LW => ((X9_bestValue (r1646.2, w.2).2 ).bind (fun r1652 : Int64 × MW => ((X9_thrown ((r1646.2, w.2).1, r1652.2).2 ).bind (fun r1658 : Int32 => (if r1658 = r1646.1 then (if r1646.1 = 0 then (if inR 0 1 = true then (if (((r1646.2, w.2).1, r1652.2).1.2 (0 : Int32).toNatClampNeg) = r1652.1 then (some ((r1646.2, w.2).1, r1652.2)) else none) else none) else (some ((r1646.2, w.2).1, r1652.2))) else none)))))))
def law_C27 (x1 x2 x3 : Int32) (w : ZW) : Option ZW := ((L_bestAt w.1 x1).bind (fun r1695 : Int32 × LW => ((X9_bestAt (r1695.2, w.2).2 x1).bind (fun r1707 : Int32 × MW => ((X9_thrown ((r1695.2, w.2).1, r1707.2).2 ).bind (fun r1713 : Int32 => (if r1713 = r1695.1 then (if r1695.1 = 0 then (if inR 0 1 = true then (if (((r1695.2, w.2).1, r1707.2).1.2 (0 : Int32).toNatClampNeg) = r1707.1.toInt64 then (some ((r1695.2, w.2).1, r1707.2)) else none) else none) else (some ((r1695.2, w.2).1, r1707.2))) else none)))))))
set_option maxRecDepth 100000 in
set_option maxHeartbeats 4000000 in
theorem lc_0 {p : Program} {l : Launch} {e : Env} {s : State} {m : MethodId} {args : Array Value} {below : List Frame} {meth : Method} {c : Code} {A : Nat → Prop} {Q : State → Prop} {g : wG} {ad am : Nat → Nat} {b L k n : Nat} {xs : Nat → Int32} (hl : l.stackTraces = false) (hG : vG p s m args meth c A g cL_law RL 8) (hZ : vZ s A) (hX : va_X b L xs s s.heap ∧ b < s.heap.size ∧ ¬ A b) (i x1 x2 x3 : Int32) (h1 : vp_in (i + 1) L) (h2 : vp_in (i + 2) L) (h3 : vp_in (i + 3) L) (e1 : xs (i + 1).toNatClampNeg = x1) (e2 : xs (i + 2).toNatClampNeg = x2) (e3 : xs (i + 3).toNatClampNeg = x3) (hk : k + 3 ≤ room_1.cells ∧ n + 18 ≤ room_1.slots) (w w' : ZW) (hf : law_C0 x1 x2 x3 w = some w') (kk : V p l e room_1 s m args below meth c A Q g 8 (zcells g ad am w') (k + 3) (n + 18) 1743 [(0, .ref b), (1, .ref (ad 0)), (2, .ref (am 0)), (3, .ref (ad 73)), (4, .int i)] []) : V p l e room_1 s m args below meth c A Q g 8 (zcells g ad am w) k n 164 [(0, .ref b), (1, .ref (ad 0)), (2, .ref (am 0)), (3, .ref (ad 73)), (4, .int i)] [] := by
  obtain ⟨hk1, hk2⟩ := hk
  unfold law_C0 at hf
  refine v_aload_n hG 1 rfl rfl dL_law_164 ?_
  refine v_aload_n hG 0 rfl rfl dL_law_165 ?_
  refine v_iload hG 4 rfl dL_law_166 ?_
  refine v_iconst hG (v := 1) (by decide) dL_law_168 ?_
  refine v_iadd hG dL_law_169 ?_
  refine v_sld hG hX h1 e1 dL_law_170 ?_
  refine v_aload_n hG 0 rfl rfl dL_law_171 ?_
  refine v_iload hG 4 rfl dL_law_172 ?_
  refine v_iconst hG (v := 2) (by decide) dL_law_174 ?_
  refine v_iadd hG dL_law_175 ?_
  refine v_sld hG hX h2 e2 dL_law_176 ?_
  refine v_aload_n hG 0 rfl rfl dL_law_177 ?_
  refine v_iload hG 4 rfl dL_law_178 ?_
  refine v_iconst hG (v := 3) (by decide) dL_law_180 ?_
  refine v_iadd hG dL_law_181 ?_
  refine v_sld hG hX h3 e3 dL_law_182 ?_
  refine v_aload_n hG 3 rfl rfl dL_law_183 ?_
  obtain ⟨r184, hr184, hf⟩ := bd_some hf
  refine z_callW (wc := lcells g ad w.1) (ext := mcells g am w.2) (st := []) hG hZ (ct_L_column l hl g ad w.1 x1 x2 x3 r184 hr184) ww_L_column wk_417 ⟨rfl, rfl, Nat.le_of_ble_eq_true rfl, Nat.le_of_ble_eq_true rfl⟩ ⟨by omega, by omega⟩ rfl rfl (Nat.le_of_ble_eq_true rfl) rfl dL_law_184 ?_
  refine (show V p l e room_1 s m args below meth c A Q g 8 (zcells g ad am (r184.2, w.2)) (k + 1) (n + 6) 187 [(0, .ref b), (1, .ref (ad 0)), (2, .ref (am 0)), (3, .ref (ad 73)), (4, .int i)] [.int r184.1] from ?_)
  refine v_istore hG [(5, _), (0, _), (1, _), (2, _), (3, _), (4, _)] dL_law_187 (by decide) rfl ?_
  refine v_aload_n hG 3 rfl rfl dL_law_189 ?_
  refine v_aload_n hG 1 rfl rfl dL_law_190 ?_
  refine v_iload hG 5 rfl dL_law_191 ?_
  refine v_iconst hG (v := 1) (by decide) dL_law_193 ?_
  refine v_iadd hG dL_law_194 ?_
  refine v_sld hG hX h1 e1 dL_law_195 ?_
  refine v_aload_n hG 1 rfl rfl dL_law_196 ?_
  refine v_iload hG 5 rfl dL_law_197 ?_
  refine v_iconst hG (v := 2) (by decide) dL_law_199 ?_
  refine v_iadd hG dL_law_200 ?_
  refine v_sld hG hX h2 e2 dL_law_201 ?_
  refine v_aload_n hG 1 rfl rfl dL_law_202 ?_
  refine v_iload hG 5 rfl dL_law_203 ?_
  refine v_iconst hG (v := 3) (by decide) dL_law_205 ?_
  refine v_iadd hG dL_law_206 ?_
  refine v_sld hG hX h3 e3 dL_law_207 ?_
  obtain ⟨r208, hr208, hf⟩ := bd_some hf
  refine z_callM (lc := lcells g ad (r184.2, w.2).1) (st := []) hG (ct_X9_column l g am (r184.2, w.2).2 x1 x2 x3 r208 hr208) iw_X9_column wk_1201 rfl ⟨rfl, rfl, Nat.le_of_ble_eq_true rfl, Nat.le_of_ble_eq_true rfl⟩ ⟨by omega, by omega⟩ rfl rfl (Nat.le_of_ble_eq_true rfl) dL_law_208 ?_
  refine (show V p l e room_1 s m args below meth c A Q g 8 (zcells g ad am ((r184.2, w.2).1, r208.2)) (k + 1) (n + 6) 211 [(5, .int r184.1), (0, .ref b), (1, .ref (ad 0)), (2, .ref (am 0)), (3, .ref (ad 73)), (4, .int i)] [.int r208.1] from ?_)
  refine v_istore hG [(6, _), (5, _), (0, _), (1, _), (2, _), (3, _), (4, _)] dL_law_211 (by decide) rfl ?_
  refine v_aload_n hG 4 rfl rfl dL_law_213 ?_
  obtain ⟨r214, hr214, hf⟩ := bd_some hf
  refine z_callM (lc := lcells g ad ((r184.2, w.2).1, r208.2).1) (st := []) hG (ct_X9_thrown l g am ((r184.2, w.2).1, r208.2).2  r214 hr214) iw_X9_thrown wk_1197 rfl ⟨rfl, rfl, Nat.le_of_ble_eq_true rfl, Nat.le_of_ble_eq_true rfl⟩ ⟨by omega, by omega⟩ rfl rfl (Nat.le_of_ble_eq_true rfl) dL_law_214 ?_
  refine (show V p l e room_1 s m args below meth c A Q g 8 (zcells g ad am ((r184.2, w.2).1, r208.2)) (k + 1) (n + 6) 217 [(6, .int r208.1), (5, .int r184.1), (0, .ref b), (1, .ref (ad 0)), (2, .ref (am 0)), (3, .ref (ad 73)), (4, .int i)] [.int r214] from ?_)
  refine v_iload hG 1 rfl dL_law_217 ?_
  refine v_icmp_eq hG 224 dL_law_219 rfl hf (fun hf => ?_) (fun hf => ?_)
  · refine v_iload hG 1 rfl dL_law_224 ?_
    refine v_if_ne hG 241 dL_law_226 rfl hf (fun hf => ?_) (fun hf => ?_)
    · refine v_goto hG 1743 dL_law_241 rfl ?_
      cases hf
      refine v_widen (k9 := k + 3) (n9 := n + 18) ⟨by omega, by omega⟩ ?_
      refine v_sub [(0, _), (1, _), (2, _), (3, _), (4, _)] [2, 3, 4, 5, 6] rfl ?_
      exact kk
    · refine v_aload_n hG 5 rfl rfl dL_law_229 ?_
      refine v_iconst hG (v := 0) (by decide) dL_law_230 ?_
      refine z_l_out (w := ((r184.2, w.2).1, r208.2)) hG dL_law_231 hf (fun hf => ?_)
      refine v_iload hG 0 rfl dL_law_232 ?_
      refine v_i2l hG dL_law_234 ?_
      refine v_lcmp_eq hG 241 dL_law_235 dL_law_236 rfl hf (fun hf => ?_) (fun hf => ?_)
      · refine v_goto hG 1743 dL_law_241 rfl ?_
        cases hf
        refine v_widen (k9 := k + 3) (n9 := n + 18) ⟨by omega, by omega⟩ ?_
        refine v_sub [(0, _), (1, _), (2, _), (3, _), (4, _)] [2, 3, 4, 5, 6] rfl ?_
        exact kk
      · refine v_iconst hG (v := 0) (by decide) dL_law_239 ?_
        cases hf
  · refine v_iconst hG (v := 0) (by decide) dL_law_222 ?_
    cases hf
set_option maxRecDepth 100000 in
set_option maxHeartbeats 4000000 in
theorem lc_1 {p : Program} {l : Launch} {e : Env} {s : State} {m : MethodId} {args : Array Value} {below : List Frame} {meth : Method} {c : Code} {A : Nat → Prop} {Q : State → Prop} {g : wG} {ad am : Nat → Nat} {b L k n : Nat} {xs : Nat → Int32} (hl : l.stackTraces = false) (hG : vG p s m args meth c A g cL_law RL 8) (hZ : vZ s A) (hX : va_X b L xs s s.heap ∧ b < s.heap.size ∧ ¬ A b) (i x1 x2 x3 : Int32) (h1 : vp_in (i + 1) L) (h2 : vp_in (i + 2) L) (h3 : vp_in (i + 3) L) (e1 : xs (i + 1).toNatClampNeg = x1) (e2 : xs (i + 2).toNatClampNeg = x2) (e3 : xs (i + 3).toNatClampNeg = x3) (hk : k + 3 ≤ room_1.cells ∧ n + 18 ≤ room_1.slots) (w w' : ZW) (hf : law_C1 x1 x2 x3 w = some w') (kk : V p l e room_1 s m args below meth c A Q g 8 (zcells g ad am w') (k + 3) (n + 18) 1743 [(0, .ref b), (1, .ref (ad 0)), (2, .ref (am 0)), (3, .ref (ad 73)), (4, .int i)] []) : V p l e room_1 s m args below meth c A Q g 8 (zcells g ad am w) k n 244 [(0, .ref b), (1, .ref (ad 0)), (2, .ref (am 0)), (3, .ref (ad 73)), (4, .int i)] [] := by
  obtain ⟨hk1, hk2⟩ := hk
  unfold law_C1 at hf
  refine v_aload_n hG 1 rfl rfl dL_law_244 ?_
  refine v_aload_n hG 0 rfl rfl dL_law_245 ?_
  refine v_iload hG 4 rfl dL_law_246 ?_
  refine v_iconst hG (v := 1) (by decide) dL_law_248 ?_
  refine v_iadd hG dL_law_249 ?_
  refine v_sld hG hX h1 e1 dL_law_250 ?_
  refine v_aload_n hG 0 rfl rfl dL_law_251 ?_
  refine v_iload hG 4 rfl dL_law_252 ?_
  refine v_iconst hG (v := 2) (by decide) dL_law_254 ?_
  refine v_iadd hG dL_law_255 ?_
  refine v_sld hG hX h2 e2 dL_law_256 ?_
  refine v_aload_n hG 3 rfl rfl dL_law_257 ?_
  obtain ⟨r258, hr258, hf⟩ := bd_some hf
  refine z_callW (wc := lcells g ad w.1) (ext := mcells g am w.2) (st := []) hG hZ (ct_L_row l hl g ad w.1 x1 x2 r258 hr258) ww_L_row wk_515 ⟨rfl, rfl, Nat.le_of_ble_eq_true rfl, Nat.le_of_ble_eq_true rfl⟩ ⟨by omega, by omega⟩ rfl rfl (Nat.le_of_ble_eq_true rfl) rfl dL_law_258 ?_
  refine (show V p l e room_1 s m args below meth c A Q g 8 (zcells g ad am (r258.2, w.2)) (k + 1) (n + 6) 261 [(0, .ref b), (1, .ref (ad 0)), (2, .ref (am 0)), (3, .ref (ad 73)), (4, .int i)] [.int r258.1] from ?_)
  refine v_istore hG [(5, _), (0, _), (1, _), (2, _), (3, _), (4, _)] dL_law_261 (by decide) rfl ?_
  refine v_aload_n hG 3 rfl rfl dL_law_263 ?_
  refine v_aload_n hG 1 rfl rfl dL_law_264 ?_
  refine v_iload hG 5 rfl dL_law_265 ?_
  refine v_iconst hG (v := 1) (by decide) dL_law_267 ?_
  refine v_iadd hG dL_law_268 ?_
  refine v_sld hG hX h1 e1 dL_law_269 ?_
  refine v_aload_n hG 1 rfl rfl dL_law_270 ?_
  refine v_iload hG 5 rfl dL_law_271 ?_
  refine v_iconst hG (v := 2) (by decide) dL_law_273 ?_
  refine v_iadd hG dL_law_274 ?_
  refine v_sld hG hX h2 e2 dL_law_275 ?_
  obtain ⟨r276, hr276, hf⟩ := bd_some hf
  refine z_callM (lc := lcells g ad (r258.2, w.2).1) (st := []) hG (ct_X9_row l g am (r258.2, w.2).2 x1 x2 r276 hr276) iw_X9_row wk_1224 rfl ⟨rfl, rfl, Nat.le_of_ble_eq_true rfl, Nat.le_of_ble_eq_true rfl⟩ ⟨by omega, by omega⟩ rfl rfl (Nat.le_of_ble_eq_true rfl) dL_law_276 ?_
  refine (show V p l e room_1 s m args below meth c A Q g 8 (zcells g ad am ((r258.2, w.2).1, r276.2)) (k + 1) (n + 6) 279 [(5, .int r258.1), (0, .ref b), (1, .ref (ad 0)), (2, .ref (am 0)), (3, .ref (ad 73)), (4, .int i)] [.int r276.1] from ?_)
  refine v_istore hG [(6, _), (5, _), (0, _), (1, _), (2, _), (3, _), (4, _)] dL_law_279 (by decide) rfl ?_
  refine v_aload_n hG 4 rfl rfl dL_law_281 ?_
  obtain ⟨r282, hr282, hf⟩ := bd_some hf
  refine z_callM (lc := lcells g ad ((r258.2, w.2).1, r276.2).1) (st := []) hG (ct_X9_thrown l g am ((r258.2, w.2).1, r276.2).2  r282 hr282) iw_X9_thrown wk_1197 rfl ⟨rfl, rfl, Nat.le_of_ble_eq_true rfl, Nat.le_of_ble_eq_true rfl⟩ ⟨by omega, by omega⟩ rfl rfl (Nat.le_of_ble_eq_true rfl) dL_law_282 ?_
  refine (show V p l e room_1 s m args below meth c A Q g 8 (zcells g ad am ((r258.2, w.2).1, r276.2)) (k + 1) (n + 6) 285 [(6, .int r276.1), (5, .int r258.1), (0, .ref b), (1, .ref (ad 0)), (2, .ref (am 0)), (3, .ref (ad 73)), (4, .int i)] [.int r282] from ?_)
  refine v_iload hG 1 rfl dL_law_285 ?_
  refine v_icmp_eq hG 292 dL_law_287 rfl hf (fun hf => ?_) (fun hf => ?_)
  · refine v_iload hG 1 rfl dL_law_292 ?_
    refine v_if_ne hG 309 dL_law_294 rfl hf (fun hf => ?_) (fun hf => ?_)
    · refine v_goto hG 1743 dL_law_309 rfl ?_
      cases hf
      refine v_widen (k9 := k + 3) (n9 := n + 18) ⟨by omega, by omega⟩ ?_
      refine v_sub [(0, _), (1, _), (2, _), (3, _), (4, _)] [2, 3, 4, 5, 6] rfl ?_
      exact kk
    · refine v_aload_n hG 5 rfl rfl dL_law_297 ?_
      refine v_iconst hG (v := 0) (by decide) dL_law_298 ?_
      refine z_l_out (w := ((r258.2, w.2).1, r276.2)) hG dL_law_299 hf (fun hf => ?_)
      refine v_iload hG 0 rfl dL_law_300 ?_
      refine v_i2l hG dL_law_302 ?_
      refine v_lcmp_eq hG 309 dL_law_303 dL_law_304 rfl hf (fun hf => ?_) (fun hf => ?_)
      · refine v_goto hG 1743 dL_law_309 rfl ?_
        cases hf
        refine v_widen (k9 := k + 3) (n9 := n + 18) ⟨by omega, by omega⟩ ?_
        refine v_sub [(0, _), (1, _), (2, _), (3, _), (4, _)] [2, 3, 4, 5, 6] rfl ?_
        exact kk
      · refine v_iconst hG (v := 0) (by decide) dL_law_307 ?_
        cases hf
  · refine v_iconst hG (v := 0) (by decide) dL_law_290 ?_
    cases hf
set_option maxRecDepth 100000 in
set_option maxHeartbeats 4000000 in
theorem lc_2 {p : Program} {l : Launch} {e : Env} {s : State} {m : MethodId} {args : Array Value} {below : List Frame} {meth : Method} {c : Code} {A : Nat → Prop} {Q : State → Prop} {g : wG} {ad am : Nat → Nat} {b L k n : Nat} {xs : Nat → Int32} (hl : l.stackTraces = false) (hG : vG p s m args meth c A g cL_law RL 8) (hZ : vZ s A) (hX : va_X b L xs s s.heap ∧ b < s.heap.size ∧ ¬ A b) (i x1 x2 x3 : Int32) (h1 : vp_in (i + 1) L) (h2 : vp_in (i + 2) L) (h3 : vp_in (i + 3) L) (e1 : xs (i + 1).toNatClampNeg = x1) (e2 : xs (i + 2).toNatClampNeg = x2) (e3 : xs (i + 3).toNatClampNeg = x3) (hk : k + 3 ≤ room_1.cells ∧ n + 18 ≤ room_1.slots) (w w' : ZW) (hf : law_C2 x1 x2 x3 w = some w') (kk : V p l e room_1 s m args below meth c A Q g 8 (zcells g ad am w') (k + 3) (n + 18) 1743 [(0, .ref b), (1, .ref (ad 0)), (2, .ref (am 0)), (3, .ref (ad 73)), (4, .int i)] []) : V p l e room_1 s m args below meth c A Q g 8 (zcells g ad am w) k n 312 [(0, .ref b), (1, .ref (ad 0)), (2, .ref (am 0)), (3, .ref (ad 73)), (4, .int i)] [] := by
  obtain ⟨hk1, hk2⟩ := hk
  unfold law_C2 at hf
  refine v_aload_n hG 1 rfl rfl dL_law_312 ?_
  refine v_aload_n hG 0 rfl rfl dL_law_313 ?_
  refine v_iload hG 4 rfl dL_law_314 ?_
  refine v_iconst hG (v := 1) (by decide) dL_law_316 ?_
  refine v_iadd hG dL_law_317 ?_
  refine v_sld hG hX h1 e1 dL_law_318 ?_
  refine v_aload_n hG 0 rfl rfl dL_law_319 ?_
  refine v_iload hG 4 rfl dL_law_320 ?_
  refine v_iconst hG (v := 2) (by decide) dL_law_322 ?_
  refine v_iadd hG dL_law_323 ?_
  refine v_sld hG hX h2 e2 dL_law_324 ?_
  refine v_aload_n hG 0 rfl rfl dL_law_325 ?_
  refine v_iload hG 4 rfl dL_law_326 ?_
  refine v_iconst hG (v := 3) (by decide) dL_law_328 ?_
  refine v_iadd hG dL_law_329 ?_
  refine v_sld hG hX h3 e3 dL_law_330 ?_
  obtain ⟨r331, hr331, hf⟩ := bd_some hf
  refine z_callW (wc := lcells g ad w.1) (ext := mcells g am w.2) (st := []) hG hZ (ct_L_term l hl g ad w.1 x1 x2 x3 r331 hr331) ww_L_term wk_525 ⟨rfl, rfl, Nat.le_of_ble_eq_true rfl, Nat.le_of_ble_eq_true rfl⟩ ⟨by omega, by omega⟩ rfl rfl (Nat.le_of_ble_eq_true rfl) rfl dL_law_331 ?_
  refine (show V p l e room_1 s m args below meth c A Q g 8 (zcells g ad am (r331.2, w.2)) (k + 3) (n + 18) 334 [(0, .ref b), (1, .ref (ad 0)), (2, .ref (am 0)), (3, .ref (ad 73)), (4, .int i)] [.int r331.1] from ?_)
  refine v_istore hG [(5, _), (0, _), (1, _), (2, _), (3, _), (4, _)] dL_law_334 (by decide) rfl ?_
  refine v_aload_n hG 3 rfl rfl dL_law_336 ?_
  refine v_aload_n hG 1 rfl rfl dL_law_337 ?_
  refine v_iload hG 5 rfl dL_law_338 ?_
  refine v_iconst hG (v := 1) (by decide) dL_law_340 ?_
  refine v_iadd hG dL_law_341 ?_
  refine v_sld hG hX h1 e1 dL_law_342 ?_
  refine v_aload_n hG 1 rfl rfl dL_law_343 ?_
  refine v_iload hG 5 rfl dL_law_344 ?_
  refine v_iconst hG (v := 2) (by decide) dL_law_346 ?_
  refine v_iadd hG dL_law_347 ?_
  refine v_sld hG hX h2 e2 dL_law_348 ?_
  refine v_aload_n hG 1 rfl rfl dL_law_349 ?_
  refine v_iload hG 5 rfl dL_law_350 ?_
  refine v_iconst hG (v := 3) (by decide) dL_law_352 ?_
  refine v_iadd hG dL_law_353 ?_
  refine v_sld hG hX h3 e3 dL_law_354 ?_
  obtain ⟨r355, hr355, hf⟩ := bd_some hf
  refine z_callM (lc := lcells g ad (r331.2, w.2).1) (st := []) hG (ct_X9_term l g am (r331.2, w.2).2 x1 x2 x3 r355 hr355) iw_X9_term wk_1230 rfl ⟨rfl, rfl, Nat.le_of_ble_eq_true rfl, Nat.le_of_ble_eq_true rfl⟩ ⟨by omega, by omega⟩ rfl rfl (Nat.le_of_ble_eq_true rfl) dL_law_355 ?_
  refine (show V p l e room_1 s m args below meth c A Q g 8 (zcells g ad am ((r331.2, w.2).1, r355)) (k + 3) (n + 18) 358 [(5, .int r331.1), (0, .ref b), (1, .ref (ad 0)), (2, .ref (am 0)), (3, .ref (ad 73)), (4, .int i)] [] from ?_)
  refine v_aload_n hG 3 rfl rfl dL_law_358 ?_
  obtain ⟨r359, hr359, hf⟩ := bd_some hf
  refine z_callM (lc := lcells g ad ((r331.2, w.2).1, r355).1) (st := []) hG (ct_X9_thrown l g am ((r331.2, w.2).1, r355).2  r359 hr359) iw_X9_thrown wk_1197 rfl ⟨rfl, rfl, Nat.le_of_ble_eq_true rfl, Nat.le_of_ble_eq_true rfl⟩ ⟨by omega, by omega⟩ rfl rfl (Nat.le_of_ble_eq_true rfl) dL_law_359 ?_
  refine (show V p l e room_1 s m args below meth c A Q g 8 (zcells g ad am ((r331.2, w.2).1, r355)) (k + 3) (n + 18) 362 [(5, .int r331.1), (0, .ref b), (1, .ref (ad 0)), (2, .ref (am 0)), (3, .ref (ad 73)), (4, .int i)] [.int r359] from ?_)
  refine v_iload hG 0 rfl dL_law_362 ?_
  refine v_icmp_eq hG 369 dL_law_364 rfl hf (fun hf => ?_) (fun hf => ?_)
  · refine v_goto hG 1743 dL_law_369 rfl ?_
    cases hf
    refine v_sub [(0, _), (1, _), (2, _), (3, _), (4, _)] [1, 2, 3, 4, 5] rfl ?_
    exact kk
  · refine v_iconst hG (v := 0) (by decide) dL_law_367 ?_
    cases hf
set_option maxRecDepth 100000 in
set_option maxHeartbeats 4000000 in
theorem lc_3 {p : Program} {l : Launch} {e : Env} {s : State} {m : MethodId} {args : Array Value} {below : List Frame} {meth : Method} {c : Code} {A : Nat → Prop} {Q : State → Prop} {g : wG} {ad am : Nat → Nat} {b L k n : Nat} {xs : Nat → Int32} (hl : l.stackTraces = false) (hG : vG p s m args meth c A g cL_law RL 8) (hZ : vZ s A) (hX : va_X b L xs s s.heap ∧ b < s.heap.size ∧ ¬ A b) (i x1 x2 x3 : Int32) (h1 : vp_in (i + 1) L) (h2 : vp_in (i + 2) L) (h3 : vp_in (i + 3) L) (e1 : xs (i + 1).toNatClampNeg = x1) (e2 : xs (i + 2).toNatClampNeg = x2) (e3 : xs (i + 3).toNatClampNeg = x3) (hk : k + 3 ≤ room_1.cells ∧ n + 18 ≤ room_1.slots) (w w' : ZW) (hf : law_C3 x1 x2 x3 w = some w') (kk : V p l e room_1 s m args below meth c A Q g 8 (zcells g ad am w') (k + 3) (n + 18) 1743 [(0, .ref b), (1, .ref (ad 0)), (2, .ref (am 0)), (3, .ref (ad 73)), (4, .int i)] []) : V p l e room_1 s m args below meth c A Q g 8 (zcells g ad am w) k n 372 [(0, .ref b), (1, .ref (ad 0)), (2, .ref (am 0)), (3, .ref (ad 73)), (4, .int i)] [] := by
  obtain ⟨hk1, hk2⟩ := hk
  unfold law_C3 at hf
  refine v_aload_n hG 1 rfl rfl dL_law_372 ?_
  obtain ⟨r373, hr373, hf⟩ := bd_some hf
  refine z_callC (wc := ccells g ad w.1.1) (ext := oCell g ad w.1.2 ++ mcells g am w.2) (st := []) hG 0 8 (ct_X8_clear l g ad w.1.1 r373 hr373) iw_X8_clear wk_401 rfl rfl ⟨rfl, rfl, Nat.le_of_ble_eq_true rfl, Nat.le_of_ble_eq_true rfl⟩ ⟨by omega, by omega⟩ rfl rfl (Nat.le_of_ble_eq_true rfl) rfl dL_law_373 ?_
  refine (show V p l e room_1 s m args below meth c A Q g 8 (zcells g ad am ((r373.2, w.1.2), w.2)) k n 376 [(0, .ref b), (1, .ref (ad 0)), (2, .ref (am 0)), (3, .ref (ad 73)), (4, .int i)] [.int r373.1] from ?_)
  refine v_aload_n hG 2 rfl rfl dL_law_376 ?_
  obtain ⟨r377, hr377, hf⟩ := bd_some hf
  refine z_callM (lc := lcells g ad ((r373.2, w.1.2), w.2).1) (st := [.int r373.1]) hG (ct_X9_clear l g am ((r373.2, w.1.2), w.2).2  r377 hr377) iw_X9_clear wk_1242 rfl ⟨rfl, rfl, Nat.le_of_ble_eq_true rfl, Nat.le_of_ble_eq_true rfl⟩ ⟨by omega, by omega⟩ rfl rfl (Nat.le_of_ble_eq_true rfl) dL_law_377 ?_
  refine (show V p l e room_1 s m args below meth c A Q g 8 (zcells g ad am (((r373.2, w.1.2), w.2).1, r377.2)) k n 380 [(0, .ref b), (1, .ref (ad 0)), (2, .ref (am 0)), (3, .ref (ad 73)), (4, .int i)] [.int r377.1, .int r373.1] from ?_)
  refine v_icmp_eq hG 1743 dL_law_380 rfl hf (fun hf => ?_) (fun hf => ?_)
  · cases hf
    refine v_widen (k9 := k + 3) (n9 := n + 18) ⟨by omega, by omega⟩ ?_
    exact kk
  · refine v_iconst hG (v := 0) (by decide) dL_law_383 ?_
    cases hf
set_option maxRecDepth 100000 in
set_option maxHeartbeats 4000000 in
theorem lc_4 {p : Program} {l : Launch} {e : Env} {s : State} {m : MethodId} {args : Array Value} {below : List Frame} {meth : Method} {c : Code} {A : Nat → Prop} {Q : State → Prop} {g : wG} {ad am : Nat → Nat} {b L k n : Nat} {xs : Nat → Int32} (hl : l.stackTraces = false) (hG : vG p s m args meth c A g cL_law RL 8) (hZ : vZ s A) (hX : va_X b L xs s s.heap ∧ b < s.heap.size ∧ ¬ A b) (i x1 x2 x3 : Int32) (h1 : vp_in (i + 1) L) (h2 : vp_in (i + 2) L) (h3 : vp_in (i + 3) L) (e1 : xs (i + 1).toNatClampNeg = x1) (e2 : xs (i + 2).toNatClampNeg = x2) (e3 : xs (i + 3).toNatClampNeg = x3) (hk : k + 3 ≤ room_1.cells ∧ n + 18 ≤ room_1.slots) (w w' : ZW) (hf : law_C4 x1 x2 x3 w = some w') (kk : V p l e room_1 s m args below meth c A Q g 8 (zcells g ad am w') (k + 3) (n + 18) 1743 [(0, .ref b), (1, .ref (ad 0)), (2, .ref (am 0)), (3, .ref (ad 73)), (4, .int i)] []) : V p l e room_1 s m args below meth c A Q g 8 (zcells g ad am w) k n 385 [(0, .ref b), (1, .ref (ad 0)), (2, .ref (am 0)), (3, .ref (ad 73)), (4, .int i)] [] := by
  obtain ⟨hk1, hk2⟩ := hk
  unfold law_C4 at hf
  refine v_aload_n hG 1 rfl rfl dL_law_385 ?_
  refine v_aload_n hG 0 rfl rfl dL_law_386 ?_
  refine v_iload hG 4 rfl dL_law_387 ?_
  refine v_iconst hG (v := 1) (by decide) dL_law_389 ?_
  refine v_iadd hG dL_law_390 ?_
  refine v_sld hG hX h1 e1 dL_law_391 ?_
  refine v_aload_n hG 0 rfl rfl dL_law_392 ?_
  refine v_iload hG 4 rfl dL_law_393 ?_
  refine v_iconst hG (v := 2) (by decide) dL_law_395 ?_
  refine v_iadd hG dL_law_396 ?_
  refine v_sld hG hX h2 e2 dL_law_397 ?_
  refine v_aload_n hG 3 rfl rfl dL_law_398 ?_
  obtain ⟨r399, hr399, hf⟩ := bd_some hf
  refine z_callW (wc := lcells g ad w.1) (ext := mcells g am w.2) (st := []) hG hZ (ct_L_shrink l hl g ad w.1 x1 x2 r399 hr399) ww_L_shrink wk_559 ⟨rfl, rfl, Nat.le_of_ble_eq_true rfl, Nat.le_of_ble_eq_true rfl⟩ ⟨by omega, by omega⟩ rfl rfl (Nat.le_of_ble_eq_true rfl) rfl dL_law_399 ?_
  refine (show V p l e room_1 s m args below meth c A Q g 8 (zcells g ad am (r399.2, w.2)) (k + 1) (n + 6) 402 [(0, .ref b), (1, .ref (ad 0)), (2, .ref (am 0)), (3, .ref (ad 73)), (4, .int i)] [.int r399.1] from ?_)
  refine v_istore hG [(5, _), (0, _), (1, _), (2, _), (3, _), (4, _)] dL_law_402 (by decide) rfl ?_
  refine v_aload_n hG 3 rfl rfl dL_law_404 ?_
  refine v_aload_n hG 1 rfl rfl dL_law_405 ?_
  refine v_iload hG 5 rfl dL_law_406 ?_
  refine v_iconst hG (v := 1) (by decide) dL_law_408 ?_
  refine v_iadd hG dL_law_409 ?_
  refine v_sld hG hX h1 e1 dL_law_410 ?_
  refine v_aload_n hG 1 rfl rfl dL_law_411 ?_
  refine v_iload hG 5 rfl dL_law_412 ?_
  refine v_iconst hG (v := 2) (by decide) dL_law_414 ?_
  refine v_iadd hG dL_law_415 ?_
  refine v_sld hG hX h2 e2 dL_law_416 ?_
  obtain ⟨r417, hr417, hf⟩ := bd_some hf
  refine z_callM (lc := lcells g ad (r399.2, w.2).1) (st := []) hG (ct_X9_shrink l g am (r399.2, w.2).2 x1 x2 r417 hr417) iw_X9_shrink wk_1246 rfl ⟨rfl, rfl, Nat.le_of_ble_eq_true rfl, Nat.le_of_ble_eq_true rfl⟩ ⟨by omega, by omega⟩ rfl rfl (Nat.le_of_ble_eq_true rfl) dL_law_417 ?_
  refine (show V p l e room_1 s m args below meth c A Q g 8 (zcells g ad am ((r399.2, w.2).1, r417.2)) (k + 1) (n + 6) 420 [(5, .int r399.1), (0, .ref b), (1, .ref (ad 0)), (2, .ref (am 0)), (3, .ref (ad 73)), (4, .int i)] [.int r417.1] from ?_)
  refine v_istore hG [(6, _), (5, _), (0, _), (1, _), (2, _), (3, _), (4, _)] dL_law_420 (by decide) rfl ?_
  refine v_aload_n hG 4 rfl rfl dL_law_422 ?_
  obtain ⟨r423, hr423, hf⟩ := bd_some hf
  refine z_callM (lc := lcells g ad ((r399.2, w.2).1, r417.2).1) (st := []) hG (ct_X9_thrown l g am ((r399.2, w.2).1, r417.2).2  r423 hr423) iw_X9_thrown wk_1197 rfl ⟨rfl, rfl, Nat.le_of_ble_eq_true rfl, Nat.le_of_ble_eq_true rfl⟩ ⟨by omega, by omega⟩ rfl rfl (Nat.le_of_ble_eq_true rfl) dL_law_423 ?_
  refine (show V p l e room_1 s m args below meth c A Q g 8 (zcells g ad am ((r399.2, w.2).1, r417.2)) (k + 1) (n + 6) 426 [(6, .int r417.1), (5, .int r399.1), (0, .ref b), (1, .ref (ad 0)), (2, .ref (am 0)), (3, .ref (ad 73)), (4, .int i)] [.int r423] from ?_)
  refine v_iload hG 1 rfl dL_law_426 ?_
  refine v_icmp_eq hG 433 dL_law_428 rfl hf (fun hf => ?_) (fun hf => ?_)
  · refine v_iload hG 1 rfl dL_law_433 ?_
    refine v_if_ne hG 450 dL_law_435 rfl hf (fun hf => ?_) (fun hf => ?_)
    · refine v_goto hG 1743 dL_law_450 rfl ?_
      cases hf
      refine v_widen (k9 := k + 3) (n9 := n + 18) ⟨by omega, by omega⟩ ?_
      refine v_sub [(0, _), (1, _), (2, _), (3, _), (4, _)] [2, 3, 4, 5, 6] rfl ?_
      exact kk
    · refine v_aload_n hG 5 rfl rfl dL_law_438 ?_
      refine v_iconst hG (v := 0) (by decide) dL_law_439 ?_
      refine z_l_out (w := ((r399.2, w.2).1, r417.2)) hG dL_law_440 hf (fun hf => ?_)
      refine v_iload hG 0 rfl dL_law_441 ?_
      refine v_i2l hG dL_law_443 ?_
      refine v_lcmp_eq hG 450 dL_law_444 dL_law_445 rfl hf (fun hf => ?_) (fun hf => ?_)
      · refine v_goto hG 1743 dL_law_450 rfl ?_
        cases hf
        refine v_widen (k9 := k + 3) (n9 := n + 18) ⟨by omega, by omega⟩ ?_
        refine v_sub [(0, _), (1, _), (2, _), (3, _), (4, _)] [2, 3, 4, 5, 6] rfl ?_
        exact kk
      · refine v_iconst hG (v := 0) (by decide) dL_law_448 ?_
        cases hf
  · refine v_iconst hG (v := 0) (by decide) dL_law_431 ?_
    cases hf
set_option maxRecDepth 100000 in
set_option maxHeartbeats 4000000 in
theorem lc_5 {p : Program} {l : Launch} {e : Env} {s : State} {m : MethodId} {args : Array Value} {below : List Frame} {meth : Method} {c : Code} {A : Nat → Prop} {Q : State → Prop} {g : wG} {ad am : Nat → Nat} {b L k n : Nat} {xs : Nat → Int32} (hl : l.stackTraces = false) (hG : vG p s m args meth c A g cL_law RL 8) (hZ : vZ s A) (hX : va_X b L xs s s.heap ∧ b < s.heap.size ∧ ¬ A b) (i x1 x2 x3 : Int32) (h1 : vp_in (i + 1) L) (h2 : vp_in (i + 2) L) (h3 : vp_in (i + 3) L) (e1 : xs (i + 1).toNatClampNeg = x1) (e2 : xs (i + 2).toNatClampNeg = x2) (e3 : xs (i + 3).toNatClampNeg = x3) (hk : k + 3 ≤ room_1.cells ∧ n + 18 ≤ room_1.slots) (w w' : ZW) (hf : law_C5 x1 x2 x3 w = some w') (kk : V p l e room_1 s m args below meth c A Q g 8 (zcells g ad am w') (k + 3) (n + 18) 1743 [(0, .ref b), (1, .ref (ad 0)), (2, .ref (am 0)), (3, .ref (ad 73)), (4, .int i)] []) : V p l e room_1 s m args below meth c A Q g 8 (zcells g ad am w) k n 453 [(0, .ref b), (1, .ref (ad 0)), (2, .ref (am 0)), (3, .ref (ad 73)), (4, .int i)] [] := by
  obtain ⟨hk1, hk2⟩ := hk
  unfold law_C5 at hf
  refine v_aload_n hG 1 rfl rfl dL_law_453 ?_
  refine v_aload_n hG 0 rfl rfl dL_law_454 ?_
  refine v_iload hG 4 rfl dL_law_455 ?_
  refine v_iconst hG (v := 1) (by decide) dL_law_457 ?_
  refine v_iadd hG dL_law_458 ?_
  refine v_sld hG hX h1 e1 dL_law_459 ?_
  refine v_aload_n hG 3 rfl rfl dL_law_460 ?_
  obtain ⟨r461, hr461, hf⟩ := bd_some hf
  refine z_callW (wc := lcells g ad w.1) (ext := mcells g am w.2) (st := []) hG hZ (ct_L_state l hl g ad w.1 x1 r461 hr461) ww_L_state wk_789 ⟨rfl, rfl, Nat.le_of_ble_eq_true rfl, Nat.le_of_ble_eq_true rfl⟩ ⟨by omega, by omega⟩ rfl rfl (Nat.le_of_ble_eq_true rfl) rfl dL_law_461 ?_
  refine (show V p l e room_1 s m args below meth c A Q g 8 (zcells g ad am (r461.2, w.2)) (k + 2) (n + 12) 464 [(0, .ref b), (1, .ref (ad 0)), (2, .ref (am 0)), (3, .ref (ad 73)), (4, .int i)] [.int r461.1] from ?_)
  refine v_istore hG [(5, _), (0, _), (1, _), (2, _), (3, _), (4, _)] dL_law_464 (by decide) rfl ?_
  refine v_aload_n hG 3 rfl rfl dL_law_466 ?_
  refine v_aload_n hG 1 rfl rfl dL_law_467 ?_
  refine v_iload hG 5 rfl dL_law_468 ?_
  refine v_iconst hG (v := 1) (by decide) dL_law_470 ?_
  refine v_iadd hG dL_law_471 ?_
  refine v_sld hG hX h1 e1 dL_law_472 ?_
  obtain ⟨r473, hr473, hf⟩ := bd_some hf
  refine z_callM (lc := lcells g ad (r461.2, w.2).1) (st := []) hG (ct_X9_state l g am (r461.2, w.2).2 x1 r473 hr473) iw_X9_state wk_1396 rfl ⟨rfl, rfl, Nat.le_of_ble_eq_true rfl, Nat.le_of_ble_eq_true rfl⟩ ⟨by omega, by omega⟩ rfl rfl (Nat.le_of_ble_eq_true rfl) dL_law_473 ?_
  refine (show V p l e room_1 s m args below meth c A Q g 8 (zcells g ad am ((r461.2, w.2).1, r473.2)) (k + 2) (n + 12) 476 [(5, .int r461.1), (0, .ref b), (1, .ref (ad 0)), (2, .ref (am 0)), (3, .ref (ad 73)), (4, .int i)] [.int r473.1] from ?_)
  refine v_istore hG [(6, _), (5, _), (0, _), (1, _), (2, _), (3, _), (4, _)] dL_law_476 (by decide) rfl ?_
  refine v_aload_n hG 4 rfl rfl dL_law_478 ?_
  obtain ⟨r479, hr479, hf⟩ := bd_some hf
  refine z_callM (lc := lcells g ad ((r461.2, w.2).1, r473.2).1) (st := []) hG (ct_X9_thrown l g am ((r461.2, w.2).1, r473.2).2  r479 hr479) iw_X9_thrown wk_1197 rfl ⟨rfl, rfl, Nat.le_of_ble_eq_true rfl, Nat.le_of_ble_eq_true rfl⟩ ⟨by omega, by omega⟩ rfl rfl (Nat.le_of_ble_eq_true rfl) dL_law_479 ?_
  refine (show V p l e room_1 s m args below meth c A Q g 8 (zcells g ad am ((r461.2, w.2).1, r473.2)) (k + 2) (n + 12) 482 [(6, .int r473.1), (5, .int r461.1), (0, .ref b), (1, .ref (ad 0)), (2, .ref (am 0)), (3, .ref (ad 73)), (4, .int i)] [.int r479] from ?_)
  refine v_iload hG 1 rfl dL_law_482 ?_
  refine v_icmp_eq hG 489 dL_law_484 rfl hf (fun hf => ?_) (fun hf => ?_)
  · refine v_iload hG 1 rfl dL_law_489 ?_
    refine v_if_ne hG 506 dL_law_491 rfl hf (fun hf => ?_) (fun hf => ?_)
    · refine v_goto hG 1743 dL_law_506 rfl ?_
      cases hf
      refine v_widen (k9 := k + 3) (n9 := n + 18) ⟨by omega, by omega⟩ ?_
      refine v_sub [(0, _), (1, _), (2, _), (3, _), (4, _)] [2, 3, 4, 5, 6] rfl ?_
      exact kk
    · refine v_aload_n hG 5 rfl rfl dL_law_494 ?_
      refine v_iconst hG (v := 0) (by decide) dL_law_495 ?_
      refine z_l_out (w := ((r461.2, w.2).1, r473.2)) hG dL_law_496 hf (fun hf => ?_)
      refine v_iload hG 0 rfl dL_law_497 ?_
      refine v_i2l hG dL_law_499 ?_
      refine v_lcmp_eq hG 506 dL_law_500 dL_law_501 rfl hf (fun hf => ?_) (fun hf => ?_)
      · refine v_goto hG 1743 dL_law_506 rfl ?_
        cases hf
        refine v_widen (k9 := k + 3) (n9 := n + 18) ⟨by omega, by omega⟩ ?_
        refine v_sub [(0, _), (1, _), (2, _), (3, _), (4, _)] [2, 3, 4, 5, 6] rfl ?_
        exact kk
      · refine v_iconst hG (v := 0) (by decide) dL_law_504 ?_
        cases hf
  · refine v_iconst hG (v := 0) (by decide) dL_law_487 ?_
    cases hf
set_option maxRecDepth 100000 in
set_option maxHeartbeats 4000000 in
theorem lc_6 {p : Program} {l : Launch} {e : Env} {s : State} {m : MethodId} {args : Array Value} {below : List Frame} {meth : Method} {c : Code} {A : Nat → Prop} {Q : State → Prop} {g : wG} {ad am : Nat → Nat} {b L k n : Nat} {xs : Nat → Int32} (hl : l.stackTraces = false) (hG : vG p s m args meth c A g cL_law RL 8) (hZ : vZ s A) (hX : va_X b L xs s s.heap ∧ b < s.heap.size ∧ ¬ A b) (i x1 x2 x3 : Int32) (h1 : vp_in (i + 1) L) (h2 : vp_in (i + 2) L) (h3 : vp_in (i + 3) L) (e1 : xs (i + 1).toNatClampNeg = x1) (e2 : xs (i + 2).toNatClampNeg = x2) (e3 : xs (i + 3).toNatClampNeg = x3) (hk : k + 3 ≤ room_1.cells ∧ n + 18 ≤ room_1.slots) (w w' : ZW) (hf : law_C6 x1 x2 x3 w = some w') (kk : V p l e room_1 s m args below meth c A Q g 8 (zcells g ad am w') (k + 3) (n + 18) 1743 [(0, .ref b), (1, .ref (ad 0)), (2, .ref (am 0)), (3, .ref (ad 73)), (4, .int i)] []) : V p l e room_1 s m args below meth c A Q g 8 (zcells g ad am w) k n 509 [(0, .ref b), (1, .ref (ad 0)), (2, .ref (am 0)), (3, .ref (ad 73)), (4, .int i)] [] := by
  obtain ⟨hk1, hk2⟩ := hk
  unfold law_C6 at hf
  have j557 : ∀ (j557_0 : ZW) (j557_1 : Int32) (j557_2 : Int32) (j557_3 : Int32), L_law_J557 j557_0 j557_1 j557_2 j557_3 = some w' → V p l e room_1 s m args below meth c A Q g 8 (zcells g ad am j557_0) (k + 2) (n + 12) 557 [(0, .ref b), (1, .ref (ad 0)), (2, .ref (am 0)), (3, .ref (ad 73)), (4, .int i), (5, .int j557_1)] [.int j557_3, .int j557_2, .ref (am 0)] := by
    intro j557_0 j557_1 j557_2 j557_3 hf
    unfold L_law_J557 at hf
    obtain ⟨r557, hr557, hf⟩ := bd_some hf
    refine z_callM (lc := lcells g ad j557_0.1) (st := []) hG (ct_X9_bound l g am j557_0.2 j557_2 j557_3 r557 hr557) iw_X9_bound wk_1400 rfl ⟨rfl, rfl, Nat.le_of_ble_eq_true rfl, Nat.le_of_ble_eq_true rfl⟩ ⟨by omega, by omega⟩ rfl rfl (Nat.le_of_ble_eq_true rfl) dL_law_557 ?_
    refine (show V p l e room_1 s m args below meth c A Q g 8 (zcells g ad am (j557_0.1, r557.2)) (k + 2) (n + 12) 560 [(0, .ref b), (1, .ref (ad 0)), (2, .ref (am 0)), (3, .ref (ad 73)), (4, .int i), (5, .int j557_1)] [.int r557.1] from ?_)
    refine v_istore hG [(6, _), (0, _), (1, _), (2, _), (3, _), (4, _), (5, _)] dL_law_560 (by decide) rfl ?_
    refine v_aload_n hG 3 rfl rfl dL_law_562 ?_
    obtain ⟨r563, hr563, hf⟩ := bd_some hf
    refine z_callM (lc := lcells g ad (j557_0.1, r557.2).1) (st := []) hG (ct_X9_thrown l g am (j557_0.1, r557.2).2  r563 hr563) iw_X9_thrown wk_1197 rfl ⟨rfl, rfl, Nat.le_of_ble_eq_true rfl, Nat.le_of_ble_eq_true rfl⟩ ⟨by omega, by omega⟩ rfl rfl (Nat.le_of_ble_eq_true rfl) dL_law_563 ?_
    refine (show V p l e room_1 s m args below meth c A Q g 8 (zcells g ad am (j557_0.1, r557.2)) (k + 2) (n + 12) 566 [(6, .int r557.1), (0, .ref b), (1, .ref (ad 0)), (2, .ref (am 0)), (3, .ref (ad 73)), (4, .int i), (5, .int j557_1)] [.int r563] from ?_)
    refine v_iload hG 6 rfl dL_law_566 ?_
    refine v_icmp_eq hG 573 dL_law_568 rfl hf (fun hf => ?_) (fun hf => ?_)
    · refine v_iload hG 6 rfl dL_law_573 ?_
      refine v_if_ne hG 590 dL_law_575 rfl hf (fun hf => ?_) (fun hf => ?_)
      · refine v_goto hG 1743 dL_law_590 rfl ?_
        cases hf
        refine v_widen (k9 := k + 3) (n9 := n + 18) ⟨by omega, by omega⟩ ?_
        refine v_sub [(0, _), (1, _), (2, _), (3, _), (4, _)] [1, 2, 3, 4, 5] rfl ?_
        exact kk
      · refine v_aload_n hG 4 rfl rfl dL_law_578 ?_
        refine v_iconst hG (v := 0) (by decide) dL_law_579 ?_
        refine z_l_out (w := (j557_0.1, r557.2)) hG dL_law_580 hf (fun hf => ?_)
        refine v_iload hG 0 rfl dL_law_581 ?_
        refine v_i2l hG dL_law_583 ?_
        refine v_lcmp_eq hG 590 dL_law_584 dL_law_585 rfl hf (fun hf => ?_) (fun hf => ?_)
        · refine v_goto hG 1743 dL_law_590 rfl ?_
          cases hf
          refine v_widen (k9 := k + 3) (n9 := n + 18) ⟨by omega, by omega⟩ ?_
          refine v_sub [(0, _), (1, _), (2, _), (3, _), (4, _)] [1, 2, 3, 4, 5] rfl ?_
          exact kk
        · refine v_iconst hG (v := 0) (by decide) dL_law_588 ?_
          cases hf
    · refine v_iconst hG (v := 0) (by decide) dL_law_571 ?_
      cases hf
  have j530 : ∀ (j530_0 : ZW) (j530_1 : Int32) (j530_2 : Int32), L_law_J530 x1 x2 j530_0 j530_1 j530_2 = some w' → V p l e room_1 s m args below meth c A Q g 8 (zcells g ad am j530_0) k n 530 [(0, .ref b), (1, .ref (ad 0)), (2, .ref (am 0)), (3, .ref (ad 73)), (4, .int i)] [.int j530_2, .int j530_1, .ref (ad 0)] := by
    intro j530_0 j530_1 j530_2 hf
    unfold L_law_J530 at hf
    refine v_aload_n hG 3 rfl rfl dL_law_530 ?_
    obtain ⟨r531, hr531, hf⟩ := bd_some hf
    refine z_callW (wc := lcells g ad j530_0.1) (ext := mcells g am j530_0.2) (st := []) hG hZ (ct_L_bound l hl g ad j530_0.1 j530_1 j530_2 r531 hr531) ww_L_bound wk_801 ⟨rfl, rfl, Nat.le_of_ble_eq_true rfl, Nat.le_of_ble_eq_true rfl⟩ ⟨by omega, by omega⟩ rfl rfl (Nat.le_of_ble_eq_true rfl) rfl dL_law_531 ?_
    refine (show V p l e room_1 s m args below meth c A Q g 8 (zcells g ad am (r531.2, j530_0.2)) (k + 2) (n + 12) 534 [(0, .ref b), (1, .ref (ad 0)), (2, .ref (am 0)), (3, .ref (ad 73)), (4, .int i)] [.int r531.1] from ?_)
    refine v_istore hG [(5, _), (0, _), (1, _), (2, _), (3, _), (4, _)] dL_law_534 (by decide) rfl ?_
    refine v_aload_n hG 3 rfl rfl dL_law_536 ?_
    refine v_aload_n hG 1 rfl rfl dL_law_537 ?_
    refine v_iload hG 5 rfl dL_law_538 ?_
    refine v_iconst hG (v := 1) (by decide) dL_law_540 ?_
    refine v_iadd hG dL_law_541 ?_
    refine v_sld hG hX h1 e1 dL_law_542 ?_
    refine v_aload_n hG 1 rfl rfl dL_law_543 ?_
    refine v_iload hG 5 rfl dL_law_544 ?_
    refine v_iconst hG (v := 2) (by decide) dL_law_546 ?_
    refine v_iadd hG dL_law_547 ?_
    refine v_sld hG hX h2 e2 dL_law_548 ?_
    refine v_if_eq hG 556 dL_law_549 rfl hf (fun hf => ?_) (fun hf => ?_)
    · refine v_iconst hG (v := 0) (by decide) dL_law_556 ?_
      refine v_sub [(0, _), (1, _), (2, _), (3, _), (4, _), (5, _)] [1, 2, 3, 4, 5, 0] rfl ?_
      exact j557 (r531.2, j530_0.2) r531.1 x1 0 hf
    · refine v_iconst hG (v := 1) (by decide) dL_law_552 ?_
      refine v_goto hG 557 dL_law_553 rfl ?_
      refine v_sub [(0, _), (1, _), (2, _), (3, _), (4, _), (5, _)] [1, 2, 3, 4, 5, 0] rfl ?_
      exact j557 (r531.2, j530_0.2) r531.1 x1 1 hf
  refine v_aload_n hG 1 rfl rfl dL_law_509 ?_
  refine v_aload_n hG 0 rfl rfl dL_law_510 ?_
  refine v_iload hG 4 rfl dL_law_511 ?_
  refine v_iconst hG (v := 1) (by decide) dL_law_513 ?_
  refine v_iadd hG dL_law_514 ?_
  refine v_sld hG hX h1 e1 dL_law_515 ?_
  refine v_aload_n hG 0 rfl rfl dL_law_516 ?_
  refine v_iload hG 4 rfl dL_law_517 ?_
  refine v_iconst hG (v := 2) (by decide) dL_law_519 ?_
  refine v_iadd hG dL_law_520 ?_
  refine v_sld hG hX h2 e2 dL_law_521 ?_
  refine v_if_eq hG 529 dL_law_522 rfl hf (fun hf => ?_) (fun hf => ?_)
  · refine v_iconst hG (v := 0) (by decide) dL_law_529 ?_
    exact j530 w x1 0 hf
  · refine v_iconst hG (v := 1) (by decide) dL_law_525 ?_
    refine v_goto hG 530 dL_law_526 rfl ?_
    exact j530 w x1 1 hf
set_option maxRecDepth 100000 in
set_option maxHeartbeats 4000000 in
theorem lc_7 {p : Program} {l : Launch} {e : Env} {s : State} {m : MethodId} {args : Array Value} {below : List Frame} {meth : Method} {c : Code} {A : Nat → Prop} {Q : State → Prop} {g : wG} {ad am : Nat → Nat} {b L k n : Nat} {xs : Nat → Int32} (hl : l.stackTraces = false) (hG : vG p s m args meth c A g cL_law RL 8) (hZ : vZ s A) (hX : va_X b L xs s s.heap ∧ b < s.heap.size ∧ ¬ A b) (i x1 x2 x3 : Int32) (h1 : vp_in (i + 1) L) (h2 : vp_in (i + 2) L) (h3 : vp_in (i + 3) L) (e1 : xs (i + 1).toNatClampNeg = x1) (e2 : xs (i + 2).toNatClampNeg = x2) (e3 : xs (i + 3).toNatClampNeg = x3) (hk : k + 3 ≤ room_1.cells ∧ n + 18 ≤ room_1.slots) (w w' : ZW) (hf : law_C7 x1 x2 x3 w = some w') (kk : V p l e room_1 s m args below meth c A Q g 8 (zcells g ad am w') (k + 3) (n + 18) 1743 [(0, .ref b), (1, .ref (ad 0)), (2, .ref (am 0)), (3, .ref (ad 73)), (4, .int i)] []) : V p l e room_1 s m args below meth c A Q g 8 (zcells g ad am w) k n 593 [(0, .ref b), (1, .ref (ad 0)), (2, .ref (am 0)), (3, .ref (ad 73)), (4, .int i)] [] := by
  obtain ⟨hk1, hk2⟩ := hk
  unfold law_C7 at hf
  refine v_aload_n hG 1 rfl rfl dL_law_593 ?_
  refine v_aload_n hG 0 rfl rfl dL_law_594 ?_
  refine v_iload hG 4 rfl dL_law_595 ?_
  refine v_iconst hG (v := 1) (by decide) dL_law_597 ?_
  refine v_iadd hG dL_law_598 ?_
  refine v_sld hG hX h1 e1 dL_law_599 ?_
  refine v_aload_n hG 3 rfl rfl dL_law_600 ?_
  obtain ⟨r601, hr601, hf⟩ := bd_some hf
  refine z_callW (wc := lcells g ad w.1) (ext := mcells g am w.2) (st := []) hG hZ (ct_L_cost l hl g ad w.1 x1 r601 hr601) ww_L_cost wk_808 ⟨rfl, rfl, Nat.le_of_ble_eq_true rfl, Nat.le_of_ble_eq_true rfl⟩ ⟨by omega, by omega⟩ rfl rfl (Nat.le_of_ble_eq_true rfl) rfl dL_law_601 ?_
  refine (show V p l e room_1 s m args below meth c A Q g 8 (zcells g ad am (r601.2, w.2)) (k + 2) (n + 12) 604 [(0, .ref b), (1, .ref (ad 0)), (2, .ref (am 0)), (3, .ref (ad 73)), (4, .int i)] [.int r601.1] from ?_)
  refine v_istore hG [(5, _), (0, _), (1, _), (2, _), (3, _), (4, _)] dL_law_604 (by decide) rfl ?_
  refine v_aload_n hG 3 rfl rfl dL_law_606 ?_
  refine v_aload_n hG 1 rfl rfl dL_law_607 ?_
  refine v_iload hG 5 rfl dL_law_608 ?_
  refine v_iconst hG (v := 1) (by decide) dL_law_610 ?_
  refine v_iadd hG dL_law_611 ?_
  refine v_sld hG hX h1 e1 dL_law_612 ?_
  obtain ⟨r613, hr613, hf⟩ := bd_some hf
  refine z_callM (lc := lcells g ad (r601.2, w.2).1) (st := []) hG (ct_X9_cost l g am (r601.2, w.2).2 x1 r613 hr613) iw_X9_cost wk_1404 rfl ⟨rfl, rfl, Nat.le_of_ble_eq_true rfl, Nat.le_of_ble_eq_true rfl⟩ ⟨by omega, by omega⟩ rfl rfl (Nat.le_of_ble_eq_true rfl) dL_law_613 ?_
  refine (show V p l e room_1 s m args below meth c A Q g 8 (zcells g ad am ((r601.2, w.2).1, r613.2)) (k + 2) (n + 12) 616 [(5, .int r601.1), (0, .ref b), (1, .ref (ad 0)), (2, .ref (am 0)), (3, .ref (ad 73)), (4, .int i)] [.int r613.1] from ?_)
  refine v_istore hG [(6, _), (5, _), (0, _), (1, _), (2, _), (3, _), (4, _)] dL_law_616 (by decide) rfl ?_
  refine v_aload_n hG 4 rfl rfl dL_law_618 ?_
  obtain ⟨r619, hr619, hf⟩ := bd_some hf
  refine z_callM (lc := lcells g ad ((r601.2, w.2).1, r613.2).1) (st := []) hG (ct_X9_thrown l g am ((r601.2, w.2).1, r613.2).2  r619 hr619) iw_X9_thrown wk_1197 rfl ⟨rfl, rfl, Nat.le_of_ble_eq_true rfl, Nat.le_of_ble_eq_true rfl⟩ ⟨by omega, by omega⟩ rfl rfl (Nat.le_of_ble_eq_true rfl) dL_law_619 ?_
  refine (show V p l e room_1 s m args below meth c A Q g 8 (zcells g ad am ((r601.2, w.2).1, r613.2)) (k + 2) (n + 12) 622 [(6, .int r613.1), (5, .int r601.1), (0, .ref b), (1, .ref (ad 0)), (2, .ref (am 0)), (3, .ref (ad 73)), (4, .int i)] [.int r619] from ?_)
  refine v_iload hG 1 rfl dL_law_622 ?_
  refine v_icmp_eq hG 629 dL_law_624 rfl hf (fun hf => ?_) (fun hf => ?_)
  · refine v_iload hG 1 rfl dL_law_629 ?_
    refine v_if_ne hG 646 dL_law_631 rfl hf (fun hf => ?_) (fun hf => ?_)
    · refine v_goto hG 1743 dL_law_646 rfl ?_
      cases hf
      refine v_widen (k9 := k + 3) (n9 := n + 18) ⟨by omega, by omega⟩ ?_
      refine v_sub [(0, _), (1, _), (2, _), (3, _), (4, _)] [2, 3, 4, 5, 6] rfl ?_
      exact kk
    · refine v_aload_n hG 5 rfl rfl dL_law_634 ?_
      refine v_iconst hG (v := 0) (by decide) dL_law_635 ?_
      refine z_l_out (w := ((r601.2, w.2).1, r613.2)) hG dL_law_636 hf (fun hf => ?_)
      refine v_iload hG 0 rfl dL_law_637 ?_
      refine v_i2l hG dL_law_639 ?_
      refine v_lcmp_eq hG 646 dL_law_640 dL_law_641 rfl hf (fun hf => ?_) (fun hf => ?_)
      · refine v_goto hG 1743 dL_law_646 rfl ?_
        cases hf
        refine v_widen (k9 := k + 3) (n9 := n + 18) ⟨by omega, by omega⟩ ?_
        refine v_sub [(0, _), (1, _), (2, _), (3, _), (4, _)] [2, 3, 4, 5, 6] rfl ?_
        exact kk
      · refine v_iconst hG (v := 0) (by decide) dL_law_644 ?_
        cases hf
  · refine v_iconst hG (v := 0) (by decide) dL_law_627 ?_
    cases hf
set_option maxRecDepth 100000 in
set_option maxHeartbeats 4000000 in
theorem lc_8 {p : Program} {l : Launch} {e : Env} {s : State} {m : MethodId} {args : Array Value} {below : List Frame} {meth : Method} {c : Code} {A : Nat → Prop} {Q : State → Prop} {g : wG} {ad am : Nat → Nat} {b L k n : Nat} {xs : Nat → Int32} (hl : l.stackTraces = false) (hG : vG p s m args meth c A g cL_law RL 8) (hZ : vZ s A) (hX : va_X b L xs s s.heap ∧ b < s.heap.size ∧ ¬ A b) (i x1 x2 x3 : Int32) (h1 : vp_in (i + 1) L) (h2 : vp_in (i + 2) L) (h3 : vp_in (i + 3) L) (e1 : xs (i + 1).toNatClampNeg = x1) (e2 : xs (i + 2).toNatClampNeg = x2) (e3 : xs (i + 3).toNatClampNeg = x3) (hk : k + 3 ≤ room_1.cells ∧ n + 18 ≤ room_1.slots) (w w' : ZW) (hf : law_C8 x1 x2 x3 w = some w') (kk : V p l e room_1 s m args below meth c A Q g 8 (zcells g ad am w') (k + 3) (n + 18) 1743 [(0, .ref b), (1, .ref (ad 0)), (2, .ref (am 0)), (3, .ref (ad 73)), (4, .int i)] []) : V p l e room_1 s m args below meth c A Q g 8 (zcells g ad am w) k n 649 [(0, .ref b), (1, .ref (ad 0)), (2, .ref (am 0)), (3, .ref (ad 73)), (4, .int i)] [] := by
  obtain ⟨hk1, hk2⟩ := hk
  unfold law_C8 at hf
  refine v_aload_n hG 1 rfl rfl dL_law_649 ?_
  refine v_aload_n hG 0 rfl rfl dL_law_650 ?_
  refine v_iload hG 4 rfl dL_law_651 ?_
  refine v_iconst hG (v := 1) (by decide) dL_law_653 ?_
  refine v_iadd hG dL_law_654 ?_
  refine v_sld hG hX h1 e1 dL_law_655 ?_
  refine v_aload_n hG 3 rfl rfl dL_law_656 ?_
  obtain ⟨r657, hr657, hf⟩ := bd_some hf
  refine z_callW (wc := lcells g ad w.1) (ext := mcells g am w.2) (st := []) hG hZ (ct_L_kind l hl g ad w.1 x1 r657 hr657) ww_L_kind wk_816 ⟨rfl, rfl, Nat.le_of_ble_eq_true rfl, Nat.le_of_ble_eq_true rfl⟩ ⟨by omega, by omega⟩ rfl rfl (Nat.le_of_ble_eq_true rfl) rfl dL_law_657 ?_
  refine (show V p l e room_1 s m args below meth c A Q g 8 (zcells g ad am (r657.2, w.2)) (k + 2) (n + 12) 660 [(0, .ref b), (1, .ref (ad 0)), (2, .ref (am 0)), (3, .ref (ad 73)), (4, .int i)] [.int r657.1] from ?_)
  refine v_istore hG [(5, _), (0, _), (1, _), (2, _), (3, _), (4, _)] dL_law_660 (by decide) rfl ?_
  refine v_aload_n hG 3 rfl rfl dL_law_662 ?_
  refine v_aload_n hG 1 rfl rfl dL_law_663 ?_
  refine v_iload hG 5 rfl dL_law_664 ?_
  refine v_iconst hG (v := 1) (by decide) dL_law_666 ?_
  refine v_iadd hG dL_law_667 ?_
  refine v_sld hG hX h1 e1 dL_law_668 ?_
  obtain ⟨r669, hr669, hf⟩ := bd_some hf
  refine z_callM (lc := lcells g ad (r657.2, w.2).1) (st := []) hG (ct_X9_kind l g am (r657.2, w.2).2 x1 r669 hr669) iw_X9_kind wk_1408 rfl ⟨rfl, rfl, Nat.le_of_ble_eq_true rfl, Nat.le_of_ble_eq_true rfl⟩ ⟨by omega, by omega⟩ rfl rfl (Nat.le_of_ble_eq_true rfl) dL_law_669 ?_
  refine (show V p l e room_1 s m args below meth c A Q g 8 (zcells g ad am ((r657.2, w.2).1, r669.2)) (k + 2) (n + 12) 672 [(5, .int r657.1), (0, .ref b), (1, .ref (ad 0)), (2, .ref (am 0)), (3, .ref (ad 73)), (4, .int i)] [.int r669.1] from ?_)
  refine v_istore hG [(6, _), (5, _), (0, _), (1, _), (2, _), (3, _), (4, _)] dL_law_672 (by decide) rfl ?_
  refine v_aload_n hG 4 rfl rfl dL_law_674 ?_
  obtain ⟨r675, hr675, hf⟩ := bd_some hf
  refine z_callM (lc := lcells g ad ((r657.2, w.2).1, r669.2).1) (st := []) hG (ct_X9_thrown l g am ((r657.2, w.2).1, r669.2).2  r675 hr675) iw_X9_thrown wk_1197 rfl ⟨rfl, rfl, Nat.le_of_ble_eq_true rfl, Nat.le_of_ble_eq_true rfl⟩ ⟨by omega, by omega⟩ rfl rfl (Nat.le_of_ble_eq_true rfl) dL_law_675 ?_
  refine (show V p l e room_1 s m args below meth c A Q g 8 (zcells g ad am ((r657.2, w.2).1, r669.2)) (k + 2) (n + 12) 678 [(6, .int r669.1), (5, .int r657.1), (0, .ref b), (1, .ref (ad 0)), (2, .ref (am 0)), (3, .ref (ad 73)), (4, .int i)] [.int r675] from ?_)
  refine v_iload hG 1 rfl dL_law_678 ?_
  refine v_icmp_eq hG 685 dL_law_680 rfl hf (fun hf => ?_) (fun hf => ?_)
  · refine v_iload hG 1 rfl dL_law_685 ?_
    refine v_if_ne hG 702 dL_law_687 rfl hf (fun hf => ?_) (fun hf => ?_)
    · refine v_goto hG 1743 dL_law_702 rfl ?_
      cases hf
      refine v_widen (k9 := k + 3) (n9 := n + 18) ⟨by omega, by omega⟩ ?_
      refine v_sub [(0, _), (1, _), (2, _), (3, _), (4, _)] [2, 3, 4, 5, 6] rfl ?_
      exact kk
    · refine v_aload_n hG 5 rfl rfl dL_law_690 ?_
      refine v_iconst hG (v := 0) (by decide) dL_law_691 ?_
      refine z_l_out (w := ((r657.2, w.2).1, r669.2)) hG dL_law_692 hf (fun hf => ?_)
      refine v_iload hG 0 rfl dL_law_693 ?_
      refine v_i2l hG dL_law_695 ?_
      refine v_lcmp_eq hG 702 dL_law_696 dL_law_697 rfl hf (fun hf => ?_) (fun hf => ?_)
      · refine v_goto hG 1743 dL_law_702 rfl ?_
        cases hf
        refine v_widen (k9 := k + 3) (n9 := n + 18) ⟨by omega, by omega⟩ ?_
        refine v_sub [(0, _), (1, _), (2, _), (3, _), (4, _)] [2, 3, 4, 5, 6] rfl ?_
        exact kk
      · refine v_iconst hG (v := 0) (by decide) dL_law_700 ?_
        cases hf
  · refine v_iconst hG (v := 0) (by decide) dL_law_683 ?_
    cases hf
set_option maxRecDepth 100000 in
set_option maxHeartbeats 4000000 in
theorem lc_9 {p : Program} {l : Launch} {e : Env} {s : State} {m : MethodId} {args : Array Value} {below : List Frame} {meth : Method} {c : Code} {A : Nat → Prop} {Q : State → Prop} {g : wG} {ad am : Nat → Nat} {b L k n : Nat} {xs : Nat → Int32} (hl : l.stackTraces = false) (hG : vG p s m args meth c A g cL_law RL 8) (hZ : vZ s A) (hX : va_X b L xs s s.heap ∧ b < s.heap.size ∧ ¬ A b) (i x1 x2 x3 : Int32) (h1 : vp_in (i + 1) L) (h2 : vp_in (i + 2) L) (h3 : vp_in (i + 3) L) (e1 : xs (i + 1).toNatClampNeg = x1) (e2 : xs (i + 2).toNatClampNeg = x2) (e3 : xs (i + 3).toNatClampNeg = x3) (hk : k + 3 ≤ room_1.cells ∧ n + 18 ≤ room_1.slots) (w w' : ZW) (hf : law_C9 x1 x2 x3 w = some w') (kk : V p l e room_1 s m args below meth c A Q g 8 (zcells g ad am w') (k + 3) (n + 18) 1743 [(0, .ref b), (1, .ref (ad 0)), (2, .ref (am 0)), (3, .ref (ad 73)), (4, .int i)] []) : V p l e room_1 s m args below meth c A Q g 8 (zcells g ad am w) k n 705 [(0, .ref b), (1, .ref (ad 0)), (2, .ref (am 0)), (3, .ref (ad 73)), (4, .int i)] [] := by
  obtain ⟨hk1, hk2⟩ := hk
  unfold law_C9 at hf
  refine v_aload_n hG 1 rfl rfl dL_law_705 ?_
  refine v_aload_n hG 0 rfl rfl dL_law_706 ?_
  refine v_iload hG 4 rfl dL_law_707 ?_
  refine v_iconst hG (v := 1) (by decide) dL_law_709 ?_
  refine v_iadd hG dL_law_710 ?_
  refine v_sld hG hX h1 e1 dL_law_711 ?_
  refine v_aload_n hG 3 rfl rfl dL_law_712 ?_
  obtain ⟨r713, hr713, hf⟩ := bd_some hf
  refine z_callW (wc := lcells g ad w.1) (ext := mcells g am w.2) (st := []) hG hZ (ct_L_right l hl g ad w.1 x1 r713 hr713) ww_L_right wk_823 ⟨rfl, rfl, Nat.le_of_ble_eq_true rfl, Nat.le_of_ble_eq_true rfl⟩ ⟨by omega, by omega⟩ rfl rfl (Nat.le_of_ble_eq_true rfl) rfl dL_law_713 ?_
  refine (show V p l e room_1 s m args below meth c A Q g 8 (zcells g ad am (r713.2, w.2)) (k + 2) (n + 12) 716 [(0, .ref b), (1, .ref (ad 0)), (2, .ref (am 0)), (3, .ref (ad 73)), (4, .int i)] [.int r713.1] from ?_)
  refine v_istore hG [(5, _), (0, _), (1, _), (2, _), (3, _), (4, _)] dL_law_716 (by decide) rfl ?_
  refine v_aload_n hG 3 rfl rfl dL_law_718 ?_
  refine v_aload_n hG 1 rfl rfl dL_law_719 ?_
  refine v_iload hG 5 rfl dL_law_720 ?_
  refine v_iconst hG (v := 1) (by decide) dL_law_722 ?_
  refine v_iadd hG dL_law_723 ?_
  refine v_sld hG hX h1 e1 dL_law_724 ?_
  obtain ⟨r725, hr725, hf⟩ := bd_some hf
  refine z_callM (lc := lcells g ad (r713.2, w.2).1) (st := []) hG (ct_X9_right l g am (r713.2, w.2).2 x1 r725 hr725) iw_X9_right wk_1412 rfl ⟨rfl, rfl, Nat.le_of_ble_eq_true rfl, Nat.le_of_ble_eq_true rfl⟩ ⟨by omega, by omega⟩ rfl rfl (Nat.le_of_ble_eq_true rfl) dL_law_725 ?_
  refine (show V p l e room_1 s m args below meth c A Q g 8 (zcells g ad am ((r713.2, w.2).1, r725.2)) (k + 2) (n + 12) 728 [(5, .int r713.1), (0, .ref b), (1, .ref (ad 0)), (2, .ref (am 0)), (3, .ref (ad 73)), (4, .int i)] [.long r725.1] from ?_)
  refine v_lstore hG [(6, _), (5, _), (0, _), (1, _), (2, _), (3, _), (4, _)] dL_law_728 (by decide) rfl ?_
  refine v_aload_n hG 4 rfl rfl dL_law_730 ?_
  obtain ⟨r731, hr731, hf⟩ := bd_some hf
  refine z_callM (lc := lcells g ad ((r713.2, w.2).1, r725.2).1) (st := []) hG (ct_X9_thrown l g am ((r713.2, w.2).1, r725.2).2  r731 hr731) iw_X9_thrown wk_1197 rfl ⟨rfl, rfl, Nat.le_of_ble_eq_true rfl, Nat.le_of_ble_eq_true rfl⟩ ⟨by omega, by omega⟩ rfl rfl (Nat.le_of_ble_eq_true rfl) dL_law_731 ?_
  refine (show V p l e room_1 s m args below meth c A Q g 8 (zcells g ad am ((r713.2, w.2).1, r725.2)) (k + 2) (n + 12) 734 [(6, .long r725.1), (5, .int r713.1), (0, .ref b), (1, .ref (ad 0)), (2, .ref (am 0)), (3, .ref (ad 73)), (4, .int i)] [.int r731] from ?_)
  refine v_iload hG 1 rfl dL_law_734 ?_
  refine v_icmp_eq hG 741 dL_law_736 rfl hf (fun hf => ?_) (fun hf => ?_)
  · refine v_iload hG 1 rfl dL_law_741 ?_
    refine v_if_ne hG 757 dL_law_743 rfl hf (fun hf => ?_) (fun hf => ?_)
    · refine v_goto hG 1743 dL_law_757 rfl ?_
      cases hf
      refine v_widen (k9 := k + 3) (n9 := n + 18) ⟨by omega, by omega⟩ ?_
      refine v_sub [(0, _), (1, _), (2, _), (3, _), (4, _)] [2, 3, 4, 5, 6] rfl ?_
      exact kk
    · refine v_aload_n hG 5 rfl rfl dL_law_746 ?_
      refine v_iconst hG (v := 0) (by decide) dL_law_747 ?_
      refine z_l_out (w := ((r713.2, w.2).1, r725.2)) hG dL_law_748 hf (fun hf => ?_)
      refine v_lload hG 0 rfl dL_law_749 ?_
      refine v_lcmp_eq hG 757 dL_law_751 dL_law_752 rfl hf (fun hf => ?_) (fun hf => ?_)
      · refine v_goto hG 1743 dL_law_757 rfl ?_
        cases hf
        refine v_widen (k9 := k + 3) (n9 := n + 18) ⟨by omega, by omega⟩ ?_
        refine v_sub [(0, _), (1, _), (2, _), (3, _), (4, _)] [2, 3, 4, 5, 6] rfl ?_
        exact kk
      · refine v_iconst hG (v := 0) (by decide) dL_law_755 ?_
        cases hf
  · refine v_iconst hG (v := 0) (by decide) dL_law_739 ?_
    cases hf
set_option maxRecDepth 100000 in
set_option maxHeartbeats 4000000 in
theorem lc_10 {p : Program} {l : Launch} {e : Env} {s : State} {m : MethodId} {args : Array Value} {below : List Frame} {meth : Method} {c : Code} {A : Nat → Prop} {Q : State → Prop} {g : wG} {ad am : Nat → Nat} {b L k n : Nat} {xs : Nat → Int32} (hl : l.stackTraces = false) (hG : vG p s m args meth c A g cL_law RL 8) (hZ : vZ s A) (hX : va_X b L xs s s.heap ∧ b < s.heap.size ∧ ¬ A b) (i x1 x2 x3 : Int32) (h1 : vp_in (i + 1) L) (h2 : vp_in (i + 2) L) (h3 : vp_in (i + 3) L) (e1 : xs (i + 1).toNatClampNeg = x1) (e2 : xs (i + 2).toNatClampNeg = x2) (e3 : xs (i + 3).toNatClampNeg = x3) (hk : k + 3 ≤ room_1.cells ∧ n + 18 ≤ room_1.slots) (w w' : ZW) (hf : law_C10 x1 x2 x3 w = some w') (kk : V p l e room_1 s m args below meth c A Q g 8 (zcells g ad am w') (k + 3) (n + 18) 1743 [(0, .ref b), (1, .ref (ad 0)), (2, .ref (am 0)), (3, .ref (ad 73)), (4, .int i)] []) : V p l e room_1 s m args below meth c A Q g 8 (zcells g ad am w) k n 760 [(0, .ref b), (1, .ref (ad 0)), (2, .ref (am 0)), (3, .ref (ad 73)), (4, .int i)] [] := by
  obtain ⟨hk1, hk2⟩ := hk
  unfold law_C10 at hf
  refine v_aload_n hG 1 rfl rfl dL_law_760 ?_
  refine v_aload_n hG 0 rfl rfl dL_law_761 ?_
  refine v_iload hG 4 rfl dL_law_762 ?_
  refine v_iconst hG (v := 1) (by decide) dL_law_764 ?_
  refine v_iadd hG dL_law_765 ?_
  refine v_sld hG hX h1 e1 dL_law_766 ?_
  refine v_aload_n hG 0 rfl rfl dL_law_767 ?_
  refine v_iload hG 4 rfl dL_law_768 ?_
  refine v_iconst hG (v := 2) (by decide) dL_law_770 ?_
  refine v_iadd hG dL_law_771 ?_
  refine v_sld hG hX h2 e2 dL_law_772 ?_
  refine v_aload_n hG 3 rfl rfl dL_law_773 ?_
  obtain ⟨r774, hr774, hf⟩ := bd_some hf
  refine z_callW (wc := lcells g ad w.1) (ext := mcells g am w.2) (st := []) hG hZ (ct_L_coefficient l hl g ad w.1 x1 x2 r774 hr774) ww_L_coefficient wk_830 ⟨rfl, rfl, Nat.le_of_ble_eq_true rfl, Nat.le_of_ble_eq_true rfl⟩ ⟨by omega, by omega⟩ rfl rfl (Nat.le_of_ble_eq_true rfl) rfl dL_law_774 ?_
  refine (show V p l e room_1 s m args below meth c A Q g 8 (zcells g ad am (r774.2, w.2)) (k + 3) (n + 18) 777 [(0, .ref b), (1, .ref (ad 0)), (2, .ref (am 0)), (3, .ref (ad 73)), (4, .int i)] [.int r774.1] from ?_)
  refine v_istore hG [(5, _), (0, _), (1, _), (2, _), (3, _), (4, _)] dL_law_777 (by decide) rfl ?_
  refine v_aload_n hG 3 rfl rfl dL_law_779 ?_
  refine v_aload_n hG 1 rfl rfl dL_law_780 ?_
  refine v_iload hG 5 rfl dL_law_781 ?_
  refine v_iconst hG (v := 1) (by decide) dL_law_783 ?_
  refine v_iadd hG dL_law_784 ?_
  refine v_sld hG hX h1 e1 dL_law_785 ?_
  refine v_aload_n hG 1 rfl rfl dL_law_786 ?_
  refine v_iload hG 5 rfl dL_law_787 ?_
  refine v_iconst hG (v := 2) (by decide) dL_law_789 ?_
  refine v_iadd hG dL_law_790 ?_
  refine v_sld hG hX h2 e2 dL_law_791 ?_
  obtain ⟨r792, hr792, hf⟩ := bd_some hf
  refine z_callM (lc := lcells g ad (r774.2, w.2).1) (st := []) hG (ct_X9_coefficient l g am (r774.2, w.2).2 x1 x2 r792 hr792) iw_X9_coefficient wk_1416 rfl ⟨rfl, rfl, Nat.le_of_ble_eq_true rfl, Nat.le_of_ble_eq_true rfl⟩ ⟨by omega, by omega⟩ rfl rfl (Nat.le_of_ble_eq_true rfl) dL_law_792 ?_
  refine (show V p l e room_1 s m args below meth c A Q g 8 (zcells g ad am ((r774.2, w.2).1, r792.2)) (k + 3) (n + 18) 795 [(5, .int r774.1), (0, .ref b), (1, .ref (ad 0)), (2, .ref (am 0)), (3, .ref (ad 73)), (4, .int i)] [.int r792.1] from ?_)
  refine v_istore hG [(6, _), (5, _), (0, _), (1, _), (2, _), (3, _), (4, _)] dL_law_795 (by decide) rfl ?_
  refine v_aload_n hG 4 rfl rfl dL_law_797 ?_
  obtain ⟨r798, hr798, hf⟩ := bd_some hf
  refine z_callM (lc := lcells g ad ((r774.2, w.2).1, r792.2).1) (st := []) hG (ct_X9_thrown l g am ((r774.2, w.2).1, r792.2).2  r798 hr798) iw_X9_thrown wk_1197 rfl ⟨rfl, rfl, Nat.le_of_ble_eq_true rfl, Nat.le_of_ble_eq_true rfl⟩ ⟨by omega, by omega⟩ rfl rfl (Nat.le_of_ble_eq_true rfl) dL_law_798 ?_
  refine (show V p l e room_1 s m args below meth c A Q g 8 (zcells g ad am ((r774.2, w.2).1, r792.2)) (k + 3) (n + 18) 801 [(6, .int r792.1), (5, .int r774.1), (0, .ref b), (1, .ref (ad 0)), (2, .ref (am 0)), (3, .ref (ad 73)), (4, .int i)] [.int r798] from ?_)
  refine v_iload hG 1 rfl dL_law_801 ?_
  refine v_icmp_eq hG 808 dL_law_803 rfl hf (fun hf => ?_) (fun hf => ?_)
  · refine v_iload hG 1 rfl dL_law_808 ?_
    refine v_if_ne hG 825 dL_law_810 rfl hf (fun hf => ?_) (fun hf => ?_)
    · refine v_goto hG 1743 dL_law_825 rfl ?_
      cases hf
      refine v_sub [(0, _), (1, _), (2, _), (3, _), (4, _)] [2, 3, 4, 5, 6] rfl ?_
      exact kk
    · refine v_aload_n hG 5 rfl rfl dL_law_813 ?_
      refine v_iconst hG (v := 0) (by decide) dL_law_814 ?_
      refine z_l_out (w := ((r774.2, w.2).1, r792.2)) hG dL_law_815 hf (fun hf => ?_)
      refine v_iload hG 0 rfl dL_law_816 ?_
      refine v_i2l hG dL_law_818 ?_
      refine v_lcmp_eq hG 825 dL_law_819 dL_law_820 rfl hf (fun hf => ?_) (fun hf => ?_)
      · refine v_goto hG 1743 dL_law_825 rfl ?_
        cases hf
        refine v_sub [(0, _), (1, _), (2, _), (3, _), (4, _)] [2, 3, 4, 5, 6] rfl ?_
        exact kk
      · refine v_iconst hG (v := 0) (by decide) dL_law_823 ?_
        cases hf
  · refine v_iconst hG (v := 0) (by decide) dL_law_806 ?_
    cases hf
set_option maxRecDepth 100000 in
set_option maxHeartbeats 4000000 in
theorem lc_11 {p : Program} {l : Launch} {e : Env} {s : State} {m : MethodId} {args : Array Value} {below : List Frame} {meth : Method} {c : Code} {A : Nat → Prop} {Q : State → Prop} {g : wG} {ad am : Nat → Nat} {b L k n : Nat} {xs : Nat → Int32} (hl : l.stackTraces = false) (hG : vG p s m args meth c A g cL_law RL 8) (hZ : vZ s A) (hX : va_X b L xs s s.heap ∧ b < s.heap.size ∧ ¬ A b) (i x1 x2 x3 : Int32) (h1 : vp_in (i + 1) L) (h2 : vp_in (i + 2) L) (h3 : vp_in (i + 3) L) (e1 : xs (i + 1).toNatClampNeg = x1) (e2 : xs (i + 2).toNatClampNeg = x2) (e3 : xs (i + 3).toNatClampNeg = x3) (hk : k + 3 ≤ room_1.cells ∧ n + 18 ≤ room_1.slots) (w w' : ZW) (hf : law_C11 x1 x2 x3 w = some w') (kk : V p l e room_1 s m args below meth c A Q g 8 (zcells g ad am w') (k + 3) (n + 18) 1743 [(0, .ref b), (1, .ref (ad 0)), (2, .ref (am 0)), (3, .ref (ad 73)), (4, .int i)] []) : V p l e room_1 s m args below meth c A Q g 8 (zcells g ad am w) k n 828 [(0, .ref b), (1, .ref (ad 0)), (2, .ref (am 0)), (3, .ref (ad 73)), (4, .int i)] [] := by
  obtain ⟨hk1, hk2⟩ := hk
  unfold law_C11 at hf
  refine v_aload_n hG 1 rfl rfl dL_law_828 ?_
  refine v_aload_n hG 3 rfl rfl dL_law_829 ?_
  obtain ⟨r830, hr830, hf⟩ := bd_some hf
  refine z_callW (wc := lcells g ad w.1) (ext := mcells g am w.2) (st := []) hG hZ (ct_L_offset l hl g ad w.1  r830 hr830) ww_L_offset wk_838 ⟨rfl, rfl, Nat.le_of_ble_eq_true rfl, Nat.le_of_ble_eq_true rfl⟩ ⟨by omega, by omega⟩ rfl rfl (Nat.le_of_ble_eq_true rfl) rfl dL_law_830 ?_
  refine (show V p l e room_1 s m args below meth c A Q g 8 (zcells g ad am (r830.2, w.2)) (k + 1) (n + 6) 833 [(0, .ref b), (1, .ref (ad 0)), (2, .ref (am 0)), (3, .ref (ad 73)), (4, .int i)] [.int r830.1] from ?_)
  refine v_istore hG [(5, _), (0, _), (1, _), (2, _), (3, _), (4, _)] dL_law_833 (by decide) rfl ?_
  refine v_aload_n hG 3 rfl rfl dL_law_835 ?_
  obtain ⟨r836, hr836, hf⟩ := bd_some hf
  refine z_callM (lc := lcells g ad (r830.2, w.2).1) (st := []) hG (ct_X9_offset l g am (r830.2, w.2).2  r836 hr836) iw_X9_offset wk_1420 rfl ⟨rfl, rfl, Nat.le_of_ble_eq_true rfl, Nat.le_of_ble_eq_true rfl⟩ ⟨by omega, by omega⟩ rfl rfl (Nat.le_of_ble_eq_true rfl) dL_law_836 ?_
  refine (show V p l e room_1 s m args below meth c A Q g 8 (zcells g ad am ((r830.2, w.2).1, r836.2)) (k + 1) (n + 6) 839 [(5, .int r830.1), (0, .ref b), (1, .ref (ad 0)), (2, .ref (am 0)), (3, .ref (ad 73)), (4, .int i)] [.long r836.1] from ?_)
  refine v_lstore hG [(6, _), (5, _), (0, _), (1, _), (2, _), (3, _), (4, _)] dL_law_839 (by decide) rfl ?_
  refine v_aload_n hG 4 rfl rfl dL_law_841 ?_
  obtain ⟨r842, hr842, hf⟩ := bd_some hf
  refine z_callM (lc := lcells g ad ((r830.2, w.2).1, r836.2).1) (st := []) hG (ct_X9_thrown l g am ((r830.2, w.2).1, r836.2).2  r842 hr842) iw_X9_thrown wk_1197 rfl ⟨rfl, rfl, Nat.le_of_ble_eq_true rfl, Nat.le_of_ble_eq_true rfl⟩ ⟨by omega, by omega⟩ rfl rfl (Nat.le_of_ble_eq_true rfl) dL_law_842 ?_
  refine (show V p l e room_1 s m args below meth c A Q g 8 (zcells g ad am ((r830.2, w.2).1, r836.2)) (k + 1) (n + 6) 845 [(6, .long r836.1), (5, .int r830.1), (0, .ref b), (1, .ref (ad 0)), (2, .ref (am 0)), (3, .ref (ad 73)), (4, .int i)] [.int r842] from ?_)
  refine v_iload hG 1 rfl dL_law_845 ?_
  refine v_icmp_eq hG 852 dL_law_847 rfl hf (fun hf => ?_) (fun hf => ?_)
  · refine v_iload hG 1 rfl dL_law_852 ?_
    refine v_if_ne hG 868 dL_law_854 rfl hf (fun hf => ?_) (fun hf => ?_)
    · refine v_goto hG 1743 dL_law_868 rfl ?_
      cases hf
      refine v_widen (k9 := k + 3) (n9 := n + 18) ⟨by omega, by omega⟩ ?_
      refine v_sub [(0, _), (1, _), (2, _), (3, _), (4, _)] [2, 3, 4, 5, 6] rfl ?_
      exact kk
    · refine v_aload_n hG 5 rfl rfl dL_law_857 ?_
      refine v_iconst hG (v := 0) (by decide) dL_law_858 ?_
      refine z_l_out (w := ((r830.2, w.2).1, r836.2)) hG dL_law_859 hf (fun hf => ?_)
      refine v_lload hG 0 rfl dL_law_860 ?_
      refine v_lcmp_eq hG 868 dL_law_862 dL_law_863 rfl hf (fun hf => ?_) (fun hf => ?_)
      · refine v_goto hG 1743 dL_law_868 rfl ?_
        cases hf
        refine v_widen (k9 := k + 3) (n9 := n + 18) ⟨by omega, by omega⟩ ?_
        refine v_sub [(0, _), (1, _), (2, _), (3, _), (4, _)] [2, 3, 4, 5, 6] rfl ?_
        exact kk
      · refine v_iconst hG (v := 0) (by decide) dL_law_866 ?_
        cases hf
  · refine v_iconst hG (v := 0) (by decide) dL_law_850 ?_
    cases hf
set_option maxRecDepth 100000 in
set_option maxHeartbeats 4000000 in
theorem lc_12 {p : Program} {l : Launch} {e : Env} {s : State} {m : MethodId} {args : Array Value} {below : List Frame} {meth : Method} {c : Code} {A : Nat → Prop} {Q : State → Prop} {g : wG} {ad am : Nat → Nat} {b L k n : Nat} {xs : Nat → Int32} (hl : l.stackTraces = false) (hG : vG p s m args meth c A g cL_law RL 8) (hZ : vZ s A) (hX : va_X b L xs s s.heap ∧ b < s.heap.size ∧ ¬ A b) (i x1 x2 x3 : Int32) (h1 : vp_in (i + 1) L) (h2 : vp_in (i + 2) L) (h3 : vp_in (i + 3) L) (e1 : xs (i + 1).toNatClampNeg = x1) (e2 : xs (i + 2).toNatClampNeg = x2) (e3 : xs (i + 3).toNatClampNeg = x3) (hk : k + 3 ≤ room_1.cells ∧ n + 18 ≤ room_1.slots) (w w' : ZW) (hf : law_C12 x1 x2 x3 w = some w') (kk : V p l e room_1 s m args below meth c A Q g 8 (zcells g ad am w') (k + 3) (n + 18) 1743 [(0, .ref b), (1, .ref (ad 0)), (2, .ref (am 0)), (3, .ref (ad 73)), (4, .int i)] []) : V p l e room_1 s m args below meth c A Q g 8 (zcells g ad am w) k n 871 [(0, .ref b), (1, .ref (ad 0)), (2, .ref (am 0)), (3, .ref (ad 73)), (4, .int i)] [] := by
  obtain ⟨hk1, hk2⟩ := hk
  unfold law_C12 at hf
  refine v_aload_n hG 1 rfl rfl dL_law_871 ?_
  refine v_aload_n hG 0 rfl rfl dL_law_872 ?_
  refine v_iload hG 4 rfl dL_law_873 ?_
  refine v_iconst hG (v := 1) (by decide) dL_law_875 ?_
  refine v_iadd hG dL_law_876 ?_
  refine v_sld hG hX h1 e1 dL_law_877 ?_
  refine v_aload_n hG 0 rfl rfl dL_law_878 ?_
  refine v_iload hG 4 rfl dL_law_879 ?_
  refine v_iconst hG (v := 2) (by decide) dL_law_881 ?_
  refine v_iadd hG dL_law_882 ?_
  refine v_sld hG hX h2 e2 dL_law_883 ?_
  refine v_aload_n hG 3 rfl rfl dL_law_884 ?_
  obtain ⟨r885, hr885, hf⟩ := bd_some hf
  refine z_callW (wc := lcells g ad w.1) (ext := mcells g am w.2) (st := []) hG hZ (ct_L_rest l hl g ad w.1 x1 x2 r885 hr885) ww_L_rest wk_845 ⟨rfl, rfl, Nat.le_of_ble_eq_true rfl, Nat.le_of_ble_eq_true rfl⟩ ⟨by omega, by omega⟩ rfl rfl (Nat.le_of_ble_eq_true rfl) rfl dL_law_885 ?_
  refine (show V p l e room_1 s m args below meth c A Q g 8 (zcells g ad am (r885.2, w.2)) (k + 2) (n + 12) 888 [(0, .ref b), (1, .ref (ad 0)), (2, .ref (am 0)), (3, .ref (ad 73)), (4, .int i)] [.int r885.1] from ?_)
  refine v_istore hG [(5, _), (0, _), (1, _), (2, _), (3, _), (4, _)] dL_law_888 (by decide) rfl ?_
  refine v_aload_n hG 3 rfl rfl dL_law_890 ?_
  refine v_aload_n hG 1 rfl rfl dL_law_891 ?_
  refine v_iload hG 5 rfl dL_law_892 ?_
  refine v_iconst hG (v := 1) (by decide) dL_law_894 ?_
  refine v_iadd hG dL_law_895 ?_
  refine v_sld hG hX h1 e1 dL_law_896 ?_
  refine v_aload_n hG 1 rfl rfl dL_law_897 ?_
  refine v_iload hG 5 rfl dL_law_898 ?_
  refine v_iconst hG (v := 2) (by decide) dL_law_900 ?_
  refine v_iadd hG dL_law_901 ?_
  refine v_sld hG hX h2 e2 dL_law_902 ?_
  obtain ⟨r903, hr903, hf⟩ := bd_some hf
  refine z_callM (lc := lcells g ad (r885.2, w.2).1) (st := []) hG (ct_X9_rest l g am (r885.2, w.2).2 x1 x2 r903 hr903) iw_X9_rest wk_1424 rfl ⟨rfl, rfl, Nat.le_of_ble_eq_true rfl, Nat.le_of_ble_eq_true rfl⟩ ⟨by omega, by omega⟩ rfl rfl (Nat.le_of_ble_eq_true rfl) dL_law_903 ?_
  refine (show V p l e room_1 s m args below meth c A Q g 8 (zcells g ad am ((r885.2, w.2).1, r903.2)) (k + 2) (n + 12) 906 [(5, .int r885.1), (0, .ref b), (1, .ref (ad 0)), (2, .ref (am 0)), (3, .ref (ad 73)), (4, .int i)] [.int r903.1] from ?_)
  refine v_istore hG [(6, _), (5, _), (0, _), (1, _), (2, _), (3, _), (4, _)] dL_law_906 (by decide) rfl ?_
  refine v_aload_n hG 4 rfl rfl dL_law_908 ?_
  obtain ⟨r909, hr909, hf⟩ := bd_some hf
  refine z_callM (lc := lcells g ad ((r885.2, w.2).1, r903.2).1) (st := []) hG (ct_X9_thrown l g am ((r885.2, w.2).1, r903.2).2  r909 hr909) iw_X9_thrown wk_1197 rfl ⟨rfl, rfl, Nat.le_of_ble_eq_true rfl, Nat.le_of_ble_eq_true rfl⟩ ⟨by omega, by omega⟩ rfl rfl (Nat.le_of_ble_eq_true rfl) dL_law_909 ?_
  refine (show V p l e room_1 s m args below meth c A Q g 8 (zcells g ad am ((r885.2, w.2).1, r903.2)) (k + 2) (n + 12) 912 [(6, .int r903.1), (5, .int r885.1), (0, .ref b), (1, .ref (ad 0)), (2, .ref (am 0)), (3, .ref (ad 73)), (4, .int i)] [.int r909] from ?_)
  refine v_iload hG 1 rfl dL_law_912 ?_
  refine v_icmp_eq hG 919 dL_law_914 rfl hf (fun hf => ?_) (fun hf => ?_)
  · refine v_iload hG 1 rfl dL_law_919 ?_
    refine v_if_ne hG 936 dL_law_921 rfl hf (fun hf => ?_) (fun hf => ?_)
    · refine v_goto hG 1743 dL_law_936 rfl ?_
      cases hf
      refine v_widen (k9 := k + 3) (n9 := n + 18) ⟨by omega, by omega⟩ ?_
      refine v_sub [(0, _), (1, _), (2, _), (3, _), (4, _)] [2, 3, 4, 5, 6] rfl ?_
      exact kk
    · refine v_aload_n hG 5 rfl rfl dL_law_924 ?_
      refine v_iconst hG (v := 0) (by decide) dL_law_925 ?_
      refine z_l_out (w := ((r885.2, w.2).1, r903.2)) hG dL_law_926 hf (fun hf => ?_)
      refine v_iload hG 0 rfl dL_law_927 ?_
      refine v_i2l hG dL_law_929 ?_
      refine v_lcmp_eq hG 936 dL_law_930 dL_law_931 rfl hf (fun hf => ?_) (fun hf => ?_)
      · refine v_goto hG 1743 dL_law_936 rfl ?_
        cases hf
        refine v_widen (k9 := k + 3) (n9 := n + 18) ⟨by omega, by omega⟩ ?_
        refine v_sub [(0, _), (1, _), (2, _), (3, _), (4, _)] [2, 3, 4, 5, 6] rfl ?_
        exact kk
      · refine v_iconst hG (v := 0) (by decide) dL_law_934 ?_
        cases hf
  · refine v_iconst hG (v := 0) (by decide) dL_law_917 ?_
    cases hf
set_option maxRecDepth 100000 in
set_option maxHeartbeats 4000000 in
theorem lc_13 {p : Program} {l : Launch} {e : Env} {s : State} {m : MethodId} {args : Array Value} {below : List Frame} {meth : Method} {c : Code} {A : Nat → Prop} {Q : State → Prop} {g : wG} {ad am : Nat → Nat} {b L k n : Nat} {xs : Nat → Int32} (hl : l.stackTraces = false) (hG : vG p s m args meth c A g cL_law RL 8) (hZ : vZ s A) (hX : va_X b L xs s s.heap ∧ b < s.heap.size ∧ ¬ A b) (i x1 x2 x3 : Int32) (h1 : vp_in (i + 1) L) (h2 : vp_in (i + 2) L) (h3 : vp_in (i + 3) L) (e1 : xs (i + 1).toNatClampNeg = x1) (e2 : xs (i + 2).toNatClampNeg = x2) (e3 : xs (i + 3).toNatClampNeg = x3) (hk : k + 3 ≤ room_1.cells ∧ n + 18 ≤ room_1.slots) (w w' : ZW) (hf : law_C13 x1 x2 x3 w = some w') (kk : V p l e room_1 s m args below meth c A Q g 8 (zcells g ad am w') (k + 3) (n + 18) 1743 [(0, .ref b), (1, .ref (ad 0)), (2, .ref (am 0)), (3, .ref (ad 73)), (4, .int i)] []) : V p l e room_1 s m args below meth c A Q g 8 (zcells g ad am w) k n 939 [(0, .ref b), (1, .ref (ad 0)), (2, .ref (am 0)), (3, .ref (ad 73)), (4, .int i)] [] := by
  obtain ⟨hk1, hk2⟩ := hk
  unfold law_C13 at hf
  refine v_aload_n hG 1 rfl rfl dL_law_939 ?_
  refine v_aload_n hG 3 rfl rfl dL_law_940 ?_
  obtain ⟨r941, hr941, hf⟩ := bd_some hf
  refine z_callW (wc := lcells g ad w.1) (ext := mcells g am w.2) (st := []) hG hZ (ct_L_certificate l hl g ad w.1  r941 hr941) ww_L_certificate wk_853 ⟨rfl, rfl, Nat.le_of_ble_eq_true rfl, Nat.le_of_ble_eq_true rfl⟩ ⟨by omega, by omega⟩ rfl rfl (Nat.le_of_ble_eq_true rfl) rfl dL_law_941 ?_
  refine (show V p l e room_1 s m args below meth c A Q g 8 (zcells g ad am (r941.2, w.2)) (k + 1) (n + 6) 944 [(0, .ref b), (1, .ref (ad 0)), (2, .ref (am 0)), (3, .ref (ad 73)), (4, .int i)] [.int r941.1] from ?_)
  refine v_istore hG [(5, _), (0, _), (1, _), (2, _), (3, _), (4, _)] dL_law_944 (by decide) rfl ?_
  refine v_aload_n hG 3 rfl rfl dL_law_946 ?_
  obtain ⟨r947, hr947, hf⟩ := bd_some hf
  refine z_callM (lc := lcells g ad (r941.2, w.2).1) (st := []) hG (ct_X9_certificate l g am (r941.2, w.2).2  r947 hr947) iw_X9_certificate wk_1433 rfl ⟨rfl, rfl, Nat.le_of_ble_eq_true rfl, Nat.le_of_ble_eq_true rfl⟩ ⟨by omega, by omega⟩ rfl rfl (Nat.le_of_ble_eq_true rfl) dL_law_947 ?_
  refine (show V p l e room_1 s m args below meth c A Q g 8 (zcells g ad am ((r941.2, w.2).1, r947.2)) (k + 1) (n + 6) 950 [(5, .int r941.1), (0, .ref b), (1, .ref (ad 0)), (2, .ref (am 0)), (3, .ref (ad 73)), (4, .int i)] [.int r947.1] from ?_)
  refine v_istore hG [(6, _), (5, _), (0, _), (1, _), (2, _), (3, _), (4, _)] dL_law_950 (by decide) rfl ?_
  refine v_aload_n hG 4 rfl rfl dL_law_952 ?_
  obtain ⟨r953, hr953, hf⟩ := bd_some hf
  refine z_callM (lc := lcells g ad ((r941.2, w.2).1, r947.2).1) (st := []) hG (ct_X9_thrown l g am ((r941.2, w.2).1, r947.2).2  r953 hr953) iw_X9_thrown wk_1197 rfl ⟨rfl, rfl, Nat.le_of_ble_eq_true rfl, Nat.le_of_ble_eq_true rfl⟩ ⟨by omega, by omega⟩ rfl rfl (Nat.le_of_ble_eq_true rfl) dL_law_953 ?_
  refine (show V p l e room_1 s m args below meth c A Q g 8 (zcells g ad am ((r941.2, w.2).1, r947.2)) (k + 1) (n + 6) 956 [(6, .int r947.1), (5, .int r941.1), (0, .ref b), (1, .ref (ad 0)), (2, .ref (am 0)), (3, .ref (ad 73)), (4, .int i)] [.int r953] from ?_)
  refine v_iload hG 1 rfl dL_law_956 ?_
  refine v_icmp_eq hG 963 dL_law_958 rfl hf (fun hf => ?_) (fun hf => ?_)
  · refine v_iload hG 1 rfl dL_law_963 ?_
    refine v_if_ne hG 980 dL_law_965 rfl hf (fun hf => ?_) (fun hf => ?_)
    · refine v_goto hG 1743 dL_law_980 rfl ?_
      cases hf
      refine v_widen (k9 := k + 3) (n9 := n + 18) ⟨by omega, by omega⟩ ?_
      refine v_sub [(0, _), (1, _), (2, _), (3, _), (4, _)] [2, 3, 4, 5, 6] rfl ?_
      exact kk
    · refine v_aload_n hG 5 rfl rfl dL_law_968 ?_
      refine v_iconst hG (v := 0) (by decide) dL_law_969 ?_
      refine z_l_out (w := ((r941.2, w.2).1, r947.2)) hG dL_law_970 hf (fun hf => ?_)
      refine v_iload hG 0 rfl dL_law_971 ?_
      refine v_i2l hG dL_law_973 ?_
      refine v_lcmp_eq hG 980 dL_law_974 dL_law_975 rfl hf (fun hf => ?_) (fun hf => ?_)
      · refine v_goto hG 1743 dL_law_980 rfl ?_
        cases hf
        refine v_widen (k9 := k + 3) (n9 := n + 18) ⟨by omega, by omega⟩ ?_
        refine v_sub [(0, _), (1, _), (2, _), (3, _), (4, _)] [2, 3, 4, 5, 6] rfl ?_
        exact kk
      · refine v_iconst hG (v := 0) (by decide) dL_law_978 ?_
        cases hf
  · refine v_iconst hG (v := 0) (by decide) dL_law_961 ?_
    cases hf
set_option maxRecDepth 100000 in
set_option maxHeartbeats 4000000 in
theorem lc_14 {p : Program} {l : Launch} {e : Env} {s : State} {m : MethodId} {args : Array Value} {below : List Frame} {meth : Method} {c : Code} {A : Nat → Prop} {Q : State → Prop} {g : wG} {ad am : Nat → Nat} {b L k n : Nat} {xs : Nat → Int32} (hl : l.stackTraces = false) (hG : vG p s m args meth c A g cL_law RL 8) (hZ : vZ s A) (hX : va_X b L xs s s.heap ∧ b < s.heap.size ∧ ¬ A b) (i x1 x2 x3 : Int32) (h1 : vp_in (i + 1) L) (h2 : vp_in (i + 2) L) (h3 : vp_in (i + 3) L) (e1 : xs (i + 1).toNatClampNeg = x1) (e2 : xs (i + 2).toNatClampNeg = x2) (e3 : xs (i + 3).toNatClampNeg = x3) (hk : k + 3 ≤ room_1.cells ∧ n + 18 ≤ room_1.slots) (w w' : ZW) (hf : law_C14 x1 x2 x3 w = some w') (kk : V p l e room_1 s m args below meth c A Q g 8 (zcells g ad am w') (k + 3) (n + 18) 1743 [(0, .ref b), (1, .ref (ad 0)), (2, .ref (am 0)), (3, .ref (ad 73)), (4, .int i)] []) : V p l e room_1 s m args below meth c A Q g 8 (zcells g ad am w) k n 983 [(0, .ref b), (1, .ref (ad 0)), (2, .ref (am 0)), (3, .ref (ad 73)), (4, .int i)] [] := by
  obtain ⟨hk1, hk2⟩ := hk
  unfold law_C14 at hf
  refine v_aload_n hG 1 rfl rfl dL_law_983 ?_
  refine v_aload_n hG 3 rfl rfl dL_law_984 ?_
  obtain ⟨r985, hr985, hf⟩ := bd_some hf
  refine z_callW (wc := lcells g ad w.1) (ext := mcells g am w.2) (st := []) hG hZ (ct_L_certified l hl g ad w.1  r985 hr985) ww_L_certified wk_860 ⟨rfl, rfl, Nat.le_of_ble_eq_true rfl, Nat.le_of_ble_eq_true rfl⟩ ⟨by omega, by omega⟩ rfl rfl (Nat.le_of_ble_eq_true rfl) rfl dL_law_985 ?_
  refine (show V p l e room_1 s m args below meth c A Q g 8 (zcells g ad am (r985.2, w.2)) (k + 2) (n + 12) 988 [(0, .ref b), (1, .ref (ad 0)), (2, .ref (am 0)), (3, .ref (ad 73)), (4, .int i)] [.int r985.1] from ?_)
  refine v_istore hG [(5, _), (0, _), (1, _), (2, _), (3, _), (4, _)] dL_law_988 (by decide) rfl ?_
  refine v_aload_n hG 3 rfl rfl dL_law_990 ?_
  obtain ⟨r991, hr991, hf⟩ := bd_some hf
  refine z_callM (lc := lcells g ad (r985.2, w.2).1) (st := []) hG (ct_X9_certified l g am (r985.2, w.2).2  r991 hr991) iw_X9_certified wk_1437 rfl ⟨rfl, rfl, Nat.le_of_ble_eq_true rfl, Nat.le_of_ble_eq_true rfl⟩ ⟨by omega, by omega⟩ rfl rfl (Nat.le_of_ble_eq_true rfl) dL_law_991 ?_
  refine (show V p l e room_1 s m args below meth c A Q g 8 (zcells g ad am ((r985.2, w.2).1, r991.2)) (k + 2) (n + 12) 994 [(5, .int r985.1), (0, .ref b), (1, .ref (ad 0)), (2, .ref (am 0)), (3, .ref (ad 73)), (4, .int i)] [.int r991.1] from ?_)
  refine v_istore hG [(6, _), (5, _), (0, _), (1, _), (2, _), (3, _), (4, _)] dL_law_994 (by decide) rfl ?_
  refine v_aload_n hG 4 rfl rfl dL_law_996 ?_
  obtain ⟨r997, hr997, hf⟩ := bd_some hf
  refine z_callM (lc := lcells g ad ((r985.2, w.2).1, r991.2).1) (st := []) hG (ct_X9_thrown l g am ((r985.2, w.2).1, r991.2).2  r997 hr997) iw_X9_thrown wk_1197 rfl ⟨rfl, rfl, Nat.le_of_ble_eq_true rfl, Nat.le_of_ble_eq_true rfl⟩ ⟨by omega, by omega⟩ rfl rfl (Nat.le_of_ble_eq_true rfl) dL_law_997 ?_
  refine (show V p l e room_1 s m args below meth c A Q g 8 (zcells g ad am ((r985.2, w.2).1, r991.2)) (k + 2) (n + 12) 1000 [(6, .int r991.1), (5, .int r985.1), (0, .ref b), (1, .ref (ad 0)), (2, .ref (am 0)), (3, .ref (ad 73)), (4, .int i)] [.int r997] from ?_)
  refine v_iload hG 1 rfl dL_law_1000 ?_
  refine v_icmp_eq hG 1007 dL_law_1002 rfl hf (fun hf => ?_) (fun hf => ?_)
  · refine v_iload hG 1 rfl dL_law_1007 ?_
    refine v_if_ne hG 1024 dL_law_1009 rfl hf (fun hf => ?_) (fun hf => ?_)
    · refine v_goto hG 1743 dL_law_1024 rfl ?_
      cases hf
      refine v_widen (k9 := k + 3) (n9 := n + 18) ⟨by omega, by omega⟩ ?_
      refine v_sub [(0, _), (1, _), (2, _), (3, _), (4, _)] [2, 3, 4, 5, 6] rfl ?_
      exact kk
    · refine v_aload_n hG 5 rfl rfl dL_law_1012 ?_
      refine v_iconst hG (v := 0) (by decide) dL_law_1013 ?_
      refine z_l_out (w := ((r985.2, w.2).1, r991.2)) hG dL_law_1014 hf (fun hf => ?_)
      refine v_iload hG 0 rfl dL_law_1015 ?_
      refine v_i2l hG dL_law_1017 ?_
      refine v_lcmp_eq hG 1024 dL_law_1018 dL_law_1019 rfl hf (fun hf => ?_) (fun hf => ?_)
      · refine v_goto hG 1743 dL_law_1024 rfl ?_
        cases hf
        refine v_widen (k9 := k + 3) (n9 := n + 18) ⟨by omega, by omega⟩ ?_
        refine v_sub [(0, _), (1, _), (2, _), (3, _), (4, _)] [2, 3, 4, 5, 6] rfl ?_
        exact kk
      · refine v_iconst hG (v := 0) (by decide) dL_law_1022 ?_
        cases hf
  · refine v_iconst hG (v := 0) (by decide) dL_law_1005 ?_
    cases hf
set_option maxRecDepth 100000 in
set_option maxHeartbeats 4000000 in
theorem lc_15 {p : Program} {l : Launch} {e : Env} {s : State} {m : MethodId} {args : Array Value} {below : List Frame} {meth : Method} {c : Code} {A : Nat → Prop} {Q : State → Prop} {g : wG} {ad am : Nat → Nat} {b L k n : Nat} {xs : Nat → Int32} (hl : l.stackTraces = false) (hG : vG p s m args meth c A g cL_law RL 8) (hZ : vZ s A) (hX : va_X b L xs s s.heap ∧ b < s.heap.size ∧ ¬ A b) (i x1 x2 x3 : Int32) (h1 : vp_in (i + 1) L) (h2 : vp_in (i + 2) L) (h3 : vp_in (i + 3) L) (e1 : xs (i + 1).toNatClampNeg = x1) (e2 : xs (i + 2).toNatClampNeg = x2) (e3 : xs (i + 3).toNatClampNeg = x3) (hk : k + 3 ≤ room_1.cells ∧ n + 18 ≤ room_1.slots) (w w' : ZW) (hf : law_C15 x1 x2 x3 w = some w') (kk : V p l e room_1 s m args below meth c A Q g 8 (zcells g ad am w') (k + 3) (n + 18) 1743 [(0, .ref b), (1, .ref (ad 0)), (2, .ref (am 0)), (3, .ref (ad 73)), (4, .int i)] []) : V p l e room_1 s m args below meth c A Q g 8 (zcells g ad am w) k n 1027 [(0, .ref b), (1, .ref (ad 0)), (2, .ref (am 0)), (3, .ref (ad 73)), (4, .int i)] [] := by
  obtain ⟨hk1, hk2⟩ := hk
  unfold law_C15 at hf
  refine v_aload_n hG 1 rfl rfl dL_law_1027 ?_
  refine v_aload_n hG 3 rfl rfl dL_law_1028 ?_
  obtain ⟨r1029, hr1029, hf⟩ := bd_some hf
  refine z_callW (wc := lcells g ad w.1) (ext := mcells g am w.2) (st := []) hG hZ (ct_L_acts l hl g ad w.1  r1029 hr1029) ww_L_acts wk_896 ⟨rfl, rfl, Nat.le_of_ble_eq_true rfl, Nat.le_of_ble_eq_true rfl⟩ ⟨by omega, by omega⟩ rfl rfl (Nat.le_of_ble_eq_true rfl) rfl dL_law_1029 ?_
  refine (show V p l e room_1 s m args below meth c A Q g 8 (zcells g ad am (r1029.2, w.2)) (k + 1) (n + 6) 1032 [(0, .ref b), (1, .ref (ad 0)), (2, .ref (am 0)), (3, .ref (ad 73)), (4, .int i)] [.int r1029.1] from ?_)
  refine v_istore hG [(5, _), (0, _), (1, _), (2, _), (3, _), (4, _)] dL_law_1032 (by decide) rfl ?_
  refine v_aload_n hG 3 rfl rfl dL_law_1034 ?_
  obtain ⟨r1035, hr1035, hf⟩ := bd_some hf
  refine z_callM (lc := lcells g ad (r1029.2, w.2).1) (st := []) hG (ct_X9_acts l g am (r1029.2, w.2).2  r1035 hr1035) iw_X9_acts wk_1459 rfl ⟨rfl, rfl, Nat.le_of_ble_eq_true rfl, Nat.le_of_ble_eq_true rfl⟩ ⟨by omega, by omega⟩ rfl rfl (Nat.le_of_ble_eq_true rfl) dL_law_1035 ?_
  refine (show V p l e room_1 s m args below meth c A Q g 8 (zcells g ad am ((r1029.2, w.2).1, r1035.2)) (k + 1) (n + 6) 1038 [(5, .int r1029.1), (0, .ref b), (1, .ref (ad 0)), (2, .ref (am 0)), (3, .ref (ad 73)), (4, .int i)] [.int r1035.1] from ?_)
  refine v_istore hG [(6, _), (5, _), (0, _), (1, _), (2, _), (3, _), (4, _)] dL_law_1038 (by decide) rfl ?_
  refine v_aload_n hG 4 rfl rfl dL_law_1040 ?_
  obtain ⟨r1041, hr1041, hf⟩ := bd_some hf
  refine z_callM (lc := lcells g ad ((r1029.2, w.2).1, r1035.2).1) (st := []) hG (ct_X9_thrown l g am ((r1029.2, w.2).1, r1035.2).2  r1041 hr1041) iw_X9_thrown wk_1197 rfl ⟨rfl, rfl, Nat.le_of_ble_eq_true rfl, Nat.le_of_ble_eq_true rfl⟩ ⟨by omega, by omega⟩ rfl rfl (Nat.le_of_ble_eq_true rfl) dL_law_1041 ?_
  refine (show V p l e room_1 s m args below meth c A Q g 8 (zcells g ad am ((r1029.2, w.2).1, r1035.2)) (k + 1) (n + 6) 1044 [(6, .int r1035.1), (5, .int r1029.1), (0, .ref b), (1, .ref (ad 0)), (2, .ref (am 0)), (3, .ref (ad 73)), (4, .int i)] [.int r1041] from ?_)
  refine v_iload hG 1 rfl dL_law_1044 ?_
  refine v_icmp_eq hG 1051 dL_law_1046 rfl hf (fun hf => ?_) (fun hf => ?_)
  · refine v_iload hG 1 rfl dL_law_1051 ?_
    refine v_if_ne hG 1068 dL_law_1053 rfl hf (fun hf => ?_) (fun hf => ?_)
    · refine v_goto hG 1743 dL_law_1068 rfl ?_
      cases hf
      refine v_widen (k9 := k + 3) (n9 := n + 18) ⟨by omega, by omega⟩ ?_
      refine v_sub [(0, _), (1, _), (2, _), (3, _), (4, _)] [2, 3, 4, 5, 6] rfl ?_
      exact kk
    · refine v_aload_n hG 5 rfl rfl dL_law_1056 ?_
      refine v_iconst hG (v := 0) (by decide) dL_law_1057 ?_
      refine z_l_out (w := ((r1029.2, w.2).1, r1035.2)) hG dL_law_1058 hf (fun hf => ?_)
      refine v_iload hG 0 rfl dL_law_1059 ?_
      refine v_i2l hG dL_law_1061 ?_
      refine v_lcmp_eq hG 1068 dL_law_1062 dL_law_1063 rfl hf (fun hf => ?_) (fun hf => ?_)
      · refine v_goto hG 1743 dL_law_1068 rfl ?_
        cases hf
        refine v_widen (k9 := k + 3) (n9 := n + 18) ⟨by omega, by omega⟩ ?_
        refine v_sub [(0, _), (1, _), (2, _), (3, _), (4, _)] [2, 3, 4, 5, 6] rfl ?_
        exact kk
      · refine v_iconst hG (v := 0) (by decide) dL_law_1066 ?_
        cases hf
  · refine v_iconst hG (v := 0) (by decide) dL_law_1049 ?_
    cases hf
set_option maxRecDepth 100000 in
set_option maxHeartbeats 4000000 in
theorem lc_16 {p : Program} {l : Launch} {e : Env} {s : State} {m : MethodId} {args : Array Value} {below : List Frame} {meth : Method} {c : Code} {A : Nat → Prop} {Q : State → Prop} {g : wG} {ad am : Nat → Nat} {b L k n : Nat} {xs : Nat → Int32} (hl : l.stackTraces = false) (hG : vG p s m args meth c A g cL_law RL 8) (hZ : vZ s A) (hX : va_X b L xs s s.heap ∧ b < s.heap.size ∧ ¬ A b) (i x1 x2 x3 : Int32) (h1 : vp_in (i + 1) L) (h2 : vp_in (i + 2) L) (h3 : vp_in (i + 3) L) (e1 : xs (i + 1).toNatClampNeg = x1) (e2 : xs (i + 2).toNatClampNeg = x2) (e3 : xs (i + 3).toNatClampNeg = x3) (hk : k + 3 ≤ room_1.cells ∧ n + 18 ≤ room_1.slots) (w w' : ZW) (hf : law_C16 x1 x2 x3 w = some w') (kk : V p l e room_1 s m args below meth c A Q g 8 (zcells g ad am w') (k + 3) (n + 18) 1743 [(0, .ref b), (1, .ref (ad 0)), (2, .ref (am 0)), (3, .ref (ad 73)), (4, .int i)] []) : V p l e room_1 s m args below meth c A Q g 8 (zcells g ad am w) k n 1071 [(0, .ref b), (1, .ref (ad 0)), (2, .ref (am 0)), (3, .ref (ad 73)), (4, .int i)] [] := by
  obtain ⟨hk1, hk2⟩ := hk
  unfold law_C16 at hf
  refine v_aload_n hG 1 rfl rfl dL_law_1071 ?_
  refine v_aload_n hG 0 rfl rfl dL_law_1072 ?_
  refine v_iload hG 4 rfl dL_law_1073 ?_
  refine v_iconst hG (v := 1) (by decide) dL_law_1075 ?_
  refine v_iadd hG dL_law_1076 ?_
  refine v_sld hG hX h1 e1 dL_law_1077 ?_
  refine v_aload_n hG 0 rfl rfl dL_law_1078 ?_
  refine v_iload hG 4 rfl dL_law_1079 ?_
  refine v_iconst hG (v := 2) (by decide) dL_law_1081 ?_
  refine v_iadd hG dL_law_1082 ?_
  refine v_sld hG hX h2 e2 dL_law_1083 ?_
  refine v_aload_n hG 3 rfl rfl dL_law_1084 ?_
  obtain ⟨r1085, hr1085, hf⟩ := bd_some hf
  refine z_callW (wc := lcells g ad w.1) (ext := mcells g am w.2) (st := []) hG hZ (ct_L_act l hl g ad w.1 x1 x2 r1085 hr1085) ww_L_act wk_903 ⟨rfl, rfl, Nat.le_of_ble_eq_true rfl, Nat.le_of_ble_eq_true rfl⟩ ⟨by omega, by omega⟩ rfl rfl (Nat.le_of_ble_eq_true rfl) rfl dL_law_1085 ?_
  refine (show V p l e room_1 s m args below meth c A Q g 8 (zcells g ad am (r1085.2, w.2)) (k + 2) (n + 12) 1088 [(0, .ref b), (1, .ref (ad 0)), (2, .ref (am 0)), (3, .ref (ad 73)), (4, .int i)] [.int r1085.1] from ?_)
  refine v_istore hG [(5, _), (0, _), (1, _), (2, _), (3, _), (4, _)] dL_law_1088 (by decide) rfl ?_
  refine v_aload_n hG 3 rfl rfl dL_law_1090 ?_
  refine v_aload_n hG 1 rfl rfl dL_law_1091 ?_
  refine v_iload hG 5 rfl dL_law_1092 ?_
  refine v_iconst hG (v := 1) (by decide) dL_law_1094 ?_
  refine v_iadd hG dL_law_1095 ?_
  refine v_sld hG hX h1 e1 dL_law_1096 ?_
  refine v_aload_n hG 1 rfl rfl dL_law_1097 ?_
  refine v_iload hG 5 rfl dL_law_1098 ?_
  refine v_iconst hG (v := 2) (by decide) dL_law_1100 ?_
  refine v_iadd hG dL_law_1101 ?_
  refine v_sld hG hX h2 e2 dL_law_1102 ?_
  obtain ⟨r1103, hr1103, hf⟩ := bd_some hf
  refine z_callM (lc := lcells g ad (r1085.2, w.2).1) (st := []) hG (ct_X9_act_ l g am (r1085.2, w.2).2 x1 x2 r1103 hr1103) iw_X9_act_ wk_1463 rfl ⟨rfl, rfl, Nat.le_of_ble_eq_true rfl, Nat.le_of_ble_eq_true rfl⟩ ⟨by omega, by omega⟩ rfl rfl (Nat.le_of_ble_eq_true rfl) dL_law_1103 ?_
  refine (show V p l e room_1 s m args below meth c A Q g 8 (zcells g ad am ((r1085.2, w.2).1, r1103.2)) (k + 2) (n + 12) 1106 [(5, .int r1085.1), (0, .ref b), (1, .ref (ad 0)), (2, .ref (am 0)), (3, .ref (ad 73)), (4, .int i)] [.long r1103.1] from ?_)
  refine v_lstore hG [(6, _), (5, _), (0, _), (1, _), (2, _), (3, _), (4, _)] dL_law_1106 (by decide) rfl ?_
  refine v_aload_n hG 4 rfl rfl dL_law_1108 ?_
  obtain ⟨r1109, hr1109, hf⟩ := bd_some hf
  refine z_callM (lc := lcells g ad ((r1085.2, w.2).1, r1103.2).1) (st := []) hG (ct_X9_thrown l g am ((r1085.2, w.2).1, r1103.2).2  r1109 hr1109) iw_X9_thrown wk_1197 rfl ⟨rfl, rfl, Nat.le_of_ble_eq_true rfl, Nat.le_of_ble_eq_true rfl⟩ ⟨by omega, by omega⟩ rfl rfl (Nat.le_of_ble_eq_true rfl) dL_law_1109 ?_
  refine (show V p l e room_1 s m args below meth c A Q g 8 (zcells g ad am ((r1085.2, w.2).1, r1103.2)) (k + 2) (n + 12) 1112 [(6, .long r1103.1), (5, .int r1085.1), (0, .ref b), (1, .ref (ad 0)), (2, .ref (am 0)), (3, .ref (ad 73)), (4, .int i)] [.int r1109] from ?_)
  refine v_iload hG 1 rfl dL_law_1112 ?_
  refine v_icmp_eq hG 1119 dL_law_1114 rfl hf (fun hf => ?_) (fun hf => ?_)
  · refine v_iload hG 1 rfl dL_law_1119 ?_
    refine v_if_ne hG 1135 dL_law_1121 rfl hf (fun hf => ?_) (fun hf => ?_)
    · refine v_goto hG 1743 dL_law_1135 rfl ?_
      cases hf
      refine v_widen (k9 := k + 3) (n9 := n + 18) ⟨by omega, by omega⟩ ?_
      refine v_sub [(0, _), (1, _), (2, _), (3, _), (4, _)] [2, 3, 4, 5, 6] rfl ?_
      exact kk
    · refine v_aload_n hG 5 rfl rfl dL_law_1124 ?_
      refine v_iconst hG (v := 0) (by decide) dL_law_1125 ?_
      refine z_l_out (w := ((r1085.2, w.2).1, r1103.2)) hG dL_law_1126 hf (fun hf => ?_)
      refine v_lload hG 0 rfl dL_law_1127 ?_
      refine v_lcmp_eq hG 1135 dL_law_1129 dL_law_1130 rfl hf (fun hf => ?_) (fun hf => ?_)
      · refine v_goto hG 1743 dL_law_1135 rfl ?_
        cases hf
        refine v_widen (k9 := k + 3) (n9 := n + 18) ⟨by omega, by omega⟩ ?_
        refine v_sub [(0, _), (1, _), (2, _), (3, _), (4, _)] [2, 3, 4, 5, 6] rfl ?_
        exact kk
      · refine v_iconst hG (v := 0) (by decide) dL_law_1133 ?_
        cases hf
  · refine v_iconst hG (v := 0) (by decide) dL_law_1117 ?_
    cases hf
set_option maxRecDepth 100000 in
set_option maxHeartbeats 4000000 in
theorem lc_17 {p : Program} {l : Launch} {e : Env} {s : State} {m : MethodId} {args : Array Value} {below : List Frame} {meth : Method} {c : Code} {A : Nat → Prop} {Q : State → Prop} {g : wG} {ad am : Nat → Nat} {b L k n : Nat} {xs : Nat → Int32} (hl : l.stackTraces = false) (hG : vG p s m args meth c A g cL_law RL 8) (hZ : vZ s A) (hX : va_X b L xs s s.heap ∧ b < s.heap.size ∧ ¬ A b) (i x1 x2 x3 : Int32) (h1 : vp_in (i + 1) L) (h2 : vp_in (i + 2) L) (h3 : vp_in (i + 3) L) (e1 : xs (i + 1).toNatClampNeg = x1) (e2 : xs (i + 2).toNatClampNeg = x2) (e3 : xs (i + 3).toNatClampNeg = x3) (hk : k + 3 ≤ room_1.cells ∧ n + 18 ≤ room_1.slots) (w w' : ZW) (hf : law_C17 x1 x2 x3 w = some w') (kk : V p l e room_1 s m args below meth c A Q g 8 (zcells g ad am w') (k + 3) (n + 18) 1743 [(0, .ref b), (1, .ref (ad 0)), (2, .ref (am 0)), (3, .ref (ad 73)), (4, .int i)] []) : V p l e room_1 s m args below meth c A Q g 8 (zcells g ad am w) k n 1138 [(0, .ref b), (1, .ref (ad 0)), (2, .ref (am 0)), (3, .ref (ad 73)), (4, .int i)] [] := by
  obtain ⟨hk1, hk2⟩ := hk
  unfold law_C17 at hf
  refine v_aload_n hG 1 rfl rfl dL_law_1138 ?_
  refine v_aload_n hG 3 rfl rfl dL_law_1139 ?_
  obtain ⟨r1140, hr1140, hf⟩ := bd_some hf
  refine z_callW (wc := lcells g ad w.1) (ext := mcells g am w.2) (st := []) hG hZ (ct_L_parts l hl g ad w.1  r1140 hr1140) ww_L_parts wk_916 ⟨rfl, rfl, Nat.le_of_ble_eq_true rfl, Nat.le_of_ble_eq_true rfl⟩ ⟨by omega, by omega⟩ rfl rfl (Nat.le_of_ble_eq_true rfl) rfl dL_law_1140 ?_
  refine (show V p l e room_1 s m args below meth c A Q g 8 (zcells g ad am (r1140.2, w.2)) (k + 1) (n + 6) 1143 [(0, .ref b), (1, .ref (ad 0)), (2, .ref (am 0)), (3, .ref (ad 73)), (4, .int i)] [.int r1140.1] from ?_)
  refine v_istore hG [(5, _), (0, _), (1, _), (2, _), (3, _), (4, _)] dL_law_1143 (by decide) rfl ?_
  refine v_aload_n hG 3 rfl rfl dL_law_1145 ?_
  obtain ⟨r1146, hr1146, hf⟩ := bd_some hf
  refine z_callM (lc := lcells g ad (r1140.2, w.2).1) (st := []) hG (ct_X9_parts l g am (r1140.2, w.2).2  r1146 hr1146) iw_X9_parts wk_1468 rfl ⟨rfl, rfl, Nat.le_of_ble_eq_true rfl, Nat.le_of_ble_eq_true rfl⟩ ⟨by omega, by omega⟩ rfl rfl (Nat.le_of_ble_eq_true rfl) dL_law_1146 ?_
  refine (show V p l e room_1 s m args below meth c A Q g 8 (zcells g ad am ((r1140.2, w.2).1, r1146.2)) (k + 1) (n + 6) 1149 [(5, .int r1140.1), (0, .ref b), (1, .ref (ad 0)), (2, .ref (am 0)), (3, .ref (ad 73)), (4, .int i)] [.int r1146.1] from ?_)
  refine v_istore hG [(6, _), (5, _), (0, _), (1, _), (2, _), (3, _), (4, _)] dL_law_1149 (by decide) rfl ?_
  refine v_aload_n hG 4 rfl rfl dL_law_1151 ?_
  obtain ⟨r1152, hr1152, hf⟩ := bd_some hf
  refine z_callM (lc := lcells g ad ((r1140.2, w.2).1, r1146.2).1) (st := []) hG (ct_X9_thrown l g am ((r1140.2, w.2).1, r1146.2).2  r1152 hr1152) iw_X9_thrown wk_1197 rfl ⟨rfl, rfl, Nat.le_of_ble_eq_true rfl, Nat.le_of_ble_eq_true rfl⟩ ⟨by omega, by omega⟩ rfl rfl (Nat.le_of_ble_eq_true rfl) dL_law_1152 ?_
  refine (show V p l e room_1 s m args below meth c A Q g 8 (zcells g ad am ((r1140.2, w.2).1, r1146.2)) (k + 1) (n + 6) 1155 [(6, .int r1146.1), (5, .int r1140.1), (0, .ref b), (1, .ref (ad 0)), (2, .ref (am 0)), (3, .ref (ad 73)), (4, .int i)] [.int r1152] from ?_)
  refine v_iload hG 1 rfl dL_law_1155 ?_
  refine v_icmp_eq hG 1162 dL_law_1157 rfl hf (fun hf => ?_) (fun hf => ?_)
  · refine v_iload hG 1 rfl dL_law_1162 ?_
    refine v_if_ne hG 1179 dL_law_1164 rfl hf (fun hf => ?_) (fun hf => ?_)
    · refine v_goto hG 1743 dL_law_1179 rfl ?_
      cases hf
      refine v_widen (k9 := k + 3) (n9 := n + 18) ⟨by omega, by omega⟩ ?_
      refine v_sub [(0, _), (1, _), (2, _), (3, _), (4, _)] [2, 3, 4, 5, 6] rfl ?_
      exact kk
    · refine v_aload_n hG 5 rfl rfl dL_law_1167 ?_
      refine v_iconst hG (v := 0) (by decide) dL_law_1168 ?_
      refine z_l_out (w := ((r1140.2, w.2).1, r1146.2)) hG dL_law_1169 hf (fun hf => ?_)
      refine v_iload hG 0 rfl dL_law_1170 ?_
      refine v_i2l hG dL_law_1172 ?_
      refine v_lcmp_eq hG 1179 dL_law_1173 dL_law_1174 rfl hf (fun hf => ?_) (fun hf => ?_)
      · refine v_goto hG 1743 dL_law_1179 rfl ?_
        cases hf
        refine v_widen (k9 := k + 3) (n9 := n + 18) ⟨by omega, by omega⟩ ?_
        refine v_sub [(0, _), (1, _), (2, _), (3, _), (4, _)] [2, 3, 4, 5, 6] rfl ?_
        exact kk
      · refine v_iconst hG (v := 0) (by decide) dL_law_1177 ?_
        cases hf
  · refine v_iconst hG (v := 0) (by decide) dL_law_1160 ?_
    cases hf
set_option maxRecDepth 100000 in
set_option maxHeartbeats 4000000 in
theorem lc_18 {p : Program} {l : Launch} {e : Env} {s : State} {m : MethodId} {args : Array Value} {below : List Frame} {meth : Method} {c : Code} {A : Nat → Prop} {Q : State → Prop} {g : wG} {ad am : Nat → Nat} {b L k n : Nat} {xs : Nat → Int32} (hl : l.stackTraces = false) (hG : vG p s m args meth c A g cL_law RL 8) (hZ : vZ s A) (hX : va_X b L xs s s.heap ∧ b < s.heap.size ∧ ¬ A b) (i x1 x2 x3 : Int32) (h1 : vp_in (i + 1) L) (h2 : vp_in (i + 2) L) (h3 : vp_in (i + 3) L) (e1 : xs (i + 1).toNatClampNeg = x1) (e2 : xs (i + 2).toNatClampNeg = x2) (e3 : xs (i + 3).toNatClampNeg = x3) (hk : k + 3 ≤ room_1.cells ∧ n + 18 ≤ room_1.slots) (w w' : ZW) (hf : law_C18 x1 x2 x3 w = some w') (kk : V p l e room_1 s m args below meth c A Q g 8 (zcells g ad am w') (k + 3) (n + 18) 1743 [(0, .ref b), (1, .ref (ad 0)), (2, .ref (am 0)), (3, .ref (ad 73)), (4, .int i)] []) : V p l e room_1 s m args below meth c A Q g 8 (zcells g ad am w) k n 1182 [(0, .ref b), (1, .ref (ad 0)), (2, .ref (am 0)), (3, .ref (ad 73)), (4, .int i)] [] := by
  obtain ⟨hk1, hk2⟩ := hk
  unfold law_C18 at hf
  refine v_aload_n hG 1 rfl rfl dL_law_1182 ?_
  refine v_aload_n hG 0 rfl rfl dL_law_1183 ?_
  refine v_iload hG 4 rfl dL_law_1184 ?_
  refine v_iconst hG (v := 1) (by decide) dL_law_1186 ?_
  refine v_iadd hG dL_law_1187 ?_
  refine v_sld hG hX h1 e1 dL_law_1188 ?_
  refine v_aload_n hG 3 rfl rfl dL_law_1189 ?_
  obtain ⟨r1190, hr1190, hf⟩ := bd_some hf
  refine z_callW (wc := lcells g ad w.1) (ext := mcells g am w.2) (st := []) hG hZ (ct_L_clique l hl g ad w.1 x1 r1190 hr1190) ww_L_clique wk_937 ⟨rfl, rfl, Nat.le_of_ble_eq_true rfl, Nat.le_of_ble_eq_true rfl⟩ ⟨by omega, by omega⟩ rfl rfl (Nat.le_of_ble_eq_true rfl) rfl dL_law_1190 ?_
  refine (show V p l e room_1 s m args below meth c A Q g 8 (zcells g ad am (r1190.2, w.2)) (k + 2) (n + 12) 1193 [(0, .ref b), (1, .ref (ad 0)), (2, .ref (am 0)), (3, .ref (ad 73)), (4, .int i)] [.int r1190.1] from ?_)
  refine v_istore hG [(5, _), (0, _), (1, _), (2, _), (3, _), (4, _)] dL_law_1193 (by decide) rfl ?_
  refine v_aload_n hG 3 rfl rfl dL_law_1195 ?_
  refine v_aload_n hG 1 rfl rfl dL_law_1196 ?_
  refine v_iload hG 5 rfl dL_law_1197 ?_
  refine v_iconst hG (v := 1) (by decide) dL_law_1199 ?_
  refine v_iadd hG dL_law_1200 ?_
  refine v_sld hG hX h1 e1 dL_law_1201 ?_
  obtain ⟨r1202, hr1202, hf⟩ := bd_some hf
  refine z_callM (lc := lcells g ad (r1190.2, w.2).1) (st := []) hG (ct_X9_clique l g am (r1190.2, w.2).2 x1 r1202 hr1202) iw_X9_clique wk_1476 rfl ⟨rfl, rfl, Nat.le_of_ble_eq_true rfl, Nat.le_of_ble_eq_true rfl⟩ ⟨by omega, by omega⟩ rfl rfl (Nat.le_of_ble_eq_true rfl) dL_law_1202 ?_
  refine (show V p l e room_1 s m args below meth c A Q g 8 (zcells g ad am ((r1190.2, w.2).1, r1202.2)) (k + 2) (n + 12) 1205 [(5, .int r1190.1), (0, .ref b), (1, .ref (ad 0)), (2, .ref (am 0)), (3, .ref (ad 73)), (4, .int i)] [.int r1202.1] from ?_)
  refine v_istore hG [(6, _), (5, _), (0, _), (1, _), (2, _), (3, _), (4, _)] dL_law_1205 (by decide) rfl ?_
  refine v_aload_n hG 4 rfl rfl dL_law_1207 ?_
  obtain ⟨r1208, hr1208, hf⟩ := bd_some hf
  refine z_callM (lc := lcells g ad ((r1190.2, w.2).1, r1202.2).1) (st := []) hG (ct_X9_thrown l g am ((r1190.2, w.2).1, r1202.2).2  r1208 hr1208) iw_X9_thrown wk_1197 rfl ⟨rfl, rfl, Nat.le_of_ble_eq_true rfl, Nat.le_of_ble_eq_true rfl⟩ ⟨by omega, by omega⟩ rfl rfl (Nat.le_of_ble_eq_true rfl) dL_law_1208 ?_
  refine (show V p l e room_1 s m args below meth c A Q g 8 (zcells g ad am ((r1190.2, w.2).1, r1202.2)) (k + 2) (n + 12) 1211 [(6, .int r1202.1), (5, .int r1190.1), (0, .ref b), (1, .ref (ad 0)), (2, .ref (am 0)), (3, .ref (ad 73)), (4, .int i)] [.int r1208] from ?_)
  refine v_iload hG 1 rfl dL_law_1211 ?_
  refine v_icmp_eq hG 1218 dL_law_1213 rfl hf (fun hf => ?_) (fun hf => ?_)
  · refine v_iload hG 1 rfl dL_law_1218 ?_
    refine v_if_ne hG 1235 dL_law_1220 rfl hf (fun hf => ?_) (fun hf => ?_)
    · refine v_goto hG 1743 dL_law_1235 rfl ?_
      cases hf
      refine v_widen (k9 := k + 3) (n9 := n + 18) ⟨by omega, by omega⟩ ?_
      refine v_sub [(0, _), (1, _), (2, _), (3, _), (4, _)] [2, 3, 4, 5, 6] rfl ?_
      exact kk
    · refine v_aload_n hG 5 rfl rfl dL_law_1223 ?_
      refine v_iconst hG (v := 0) (by decide) dL_law_1224 ?_
      refine z_l_out (w := ((r1190.2, w.2).1, r1202.2)) hG dL_law_1225 hf (fun hf => ?_)
      refine v_iload hG 0 rfl dL_law_1226 ?_
      refine v_i2l hG dL_law_1228 ?_
      refine v_lcmp_eq hG 1235 dL_law_1229 dL_law_1230 rfl hf (fun hf => ?_) (fun hf => ?_)
      · refine v_goto hG 1743 dL_law_1235 rfl ?_
        cases hf
        refine v_widen (k9 := k + 3) (n9 := n + 18) ⟨by omega, by omega⟩ ?_
        refine v_sub [(0, _), (1, _), (2, _), (3, _), (4, _)] [2, 3, 4, 5, 6] rfl ?_
        exact kk
      · refine v_iconst hG (v := 0) (by decide) dL_law_1233 ?_
        cases hf
  · refine v_iconst hG (v := 0) (by decide) dL_law_1216 ?_
    cases hf
set_option maxRecDepth 100000 in
set_option maxHeartbeats 4000000 in
theorem lc_19 {p : Program} {l : Launch} {e : Env} {s : State} {m : MethodId} {args : Array Value} {below : List Frame} {meth : Method} {c : Code} {A : Nat → Prop} {Q : State → Prop} {g : wG} {ad am : Nat → Nat} {b L k n : Nat} {xs : Nat → Int32} (hl : l.stackTraces = false) (hG : vG p s m args meth c A g cL_law RL 8) (hZ : vZ s A) (hX : va_X b L xs s s.heap ∧ b < s.heap.size ∧ ¬ A b) (i x1 x2 x3 : Int32) (h1 : vp_in (i + 1) L) (h2 : vp_in (i + 2) L) (h3 : vp_in (i + 3) L) (e1 : xs (i + 1).toNatClampNeg = x1) (e2 : xs (i + 2).toNatClampNeg = x2) (e3 : xs (i + 3).toNatClampNeg = x3) (hk : k + 3 ≤ room_1.cells ∧ n + 18 ≤ room_1.slots) (w w' : ZW) (hf : law_C19 x1 x2 x3 w = some w') (kk : V p l e room_1 s m args below meth c A Q g 8 (zcells g ad am w') (k + 3) (n + 18) 1743 [(0, .ref b), (1, .ref (ad 0)), (2, .ref (am 0)), (3, .ref (ad 73)), (4, .int i)] []) : V p l e room_1 s m args below meth c A Q g 8 (zcells g ad am w) k n 1238 [(0, .ref b), (1, .ref (ad 0)), (2, .ref (am 0)), (3, .ref (ad 73)), (4, .int i)] [] := by
  obtain ⟨hk1, hk2⟩ := hk
  unfold law_C19 at hf
  refine v_aload_n hG 1 rfl rfl dL_law_1238 ?_
  refine v_aload_n hG 0 rfl rfl dL_law_1239 ?_
  refine v_iload hG 4 rfl dL_law_1240 ?_
  refine v_iconst hG (v := 1) (by decide) dL_law_1242 ?_
  refine v_iadd hG dL_law_1243 ?_
  refine v_sld hG hX h1 e1 dL_law_1244 ?_
  refine v_aload_n hG 0 rfl rfl dL_law_1245 ?_
  refine v_iload hG 4 rfl dL_law_1246 ?_
  refine v_iconst hG (v := 2) (by decide) dL_law_1248 ?_
  refine v_iadd hG dL_law_1249 ?_
  refine v_sld hG hX h2 e2 dL_law_1250 ?_
  refine v_aload_n hG 3 rfl rfl dL_law_1251 ?_
  obtain ⟨r1252, hr1252, hf⟩ := bd_some hf
  refine z_callW (wc := lcells g ad w.1) (ext := mcells g am w.2) (st := []) hG hZ (ct_L_cliqueAt l hl g ad w.1 x1 x2 r1252 hr1252) ww_L_cliqueAt wk_959 ⟨rfl, rfl, Nat.le_of_ble_eq_true rfl, Nat.le_of_ble_eq_true rfl⟩ ⟨by omega, by omega⟩ rfl rfl (Nat.le_of_ble_eq_true rfl) rfl dL_law_1252 ?_
  refine (show V p l e room_1 s m args below meth c A Q g 8 (zcells g ad am (r1252.2, w.2)) (k + 3) (n + 18) 1255 [(0, .ref b), (1, .ref (ad 0)), (2, .ref (am 0)), (3, .ref (ad 73)), (4, .int i)] [.int r1252.1] from ?_)
  refine v_istore hG [(5, _), (0, _), (1, _), (2, _), (3, _), (4, _)] dL_law_1255 (by decide) rfl ?_
  refine v_aload_n hG 3 rfl rfl dL_law_1257 ?_
  refine v_aload_n hG 1 rfl rfl dL_law_1258 ?_
  refine v_iload hG 5 rfl dL_law_1259 ?_
  refine v_iconst hG (v := 1) (by decide) dL_law_1261 ?_
  refine v_iadd hG dL_law_1262 ?_
  refine v_sld hG hX h1 e1 dL_law_1263 ?_
  refine v_aload_n hG 1 rfl rfl dL_law_1264 ?_
  refine v_iload hG 5 rfl dL_law_1265 ?_
  refine v_iconst hG (v := 2) (by decide) dL_law_1267 ?_
  refine v_iadd hG dL_law_1268 ?_
  refine v_sld hG hX h2 e2 dL_law_1269 ?_
  obtain ⟨r1270, hr1270, hf⟩ := bd_some hf
  refine z_callM (lc := lcells g ad (r1252.2, w.2).1) (st := []) hG (ct_X9_cliqueAt l g am (r1252.2, w.2).2 x1 x2 r1270 hr1270) iw_X9_cliqueAt wk_1488 rfl ⟨rfl, rfl, Nat.le_of_ble_eq_true rfl, Nat.le_of_ble_eq_true rfl⟩ ⟨by omega, by omega⟩ rfl rfl (Nat.le_of_ble_eq_true rfl) dL_law_1270 ?_
  refine (show V p l e room_1 s m args below meth c A Q g 8 (zcells g ad am ((r1252.2, w.2).1, r1270.2)) (k + 3) (n + 18) 1273 [(5, .int r1252.1), (0, .ref b), (1, .ref (ad 0)), (2, .ref (am 0)), (3, .ref (ad 73)), (4, .int i)] [.int r1270.1] from ?_)
  refine v_istore hG [(6, _), (5, _), (0, _), (1, _), (2, _), (3, _), (4, _)] dL_law_1273 (by decide) rfl ?_
  refine v_aload_n hG 4 rfl rfl dL_law_1275 ?_
  obtain ⟨r1276, hr1276, hf⟩ := bd_some hf
  refine z_callM (lc := lcells g ad ((r1252.2, w.2).1, r1270.2).1) (st := []) hG (ct_X9_thrown l g am ((r1252.2, w.2).1, r1270.2).2  r1276 hr1276) iw_X9_thrown wk_1197 rfl ⟨rfl, rfl, Nat.le_of_ble_eq_true rfl, Nat.le_of_ble_eq_true rfl⟩ ⟨by omega, by omega⟩ rfl rfl (Nat.le_of_ble_eq_true rfl) dL_law_1276 ?_
  refine (show V p l e room_1 s m args below meth c A Q g 8 (zcells g ad am ((r1252.2, w.2).1, r1270.2)) (k + 3) (n + 18) 1279 [(6, .int r1270.1), (5, .int r1252.1), (0, .ref b), (1, .ref (ad 0)), (2, .ref (am 0)), (3, .ref (ad 73)), (4, .int i)] [.int r1276] from ?_)
  refine v_iload hG 1 rfl dL_law_1279 ?_
  refine v_icmp_eq hG 1286 dL_law_1281 rfl hf (fun hf => ?_) (fun hf => ?_)
  · refine v_iload hG 1 rfl dL_law_1286 ?_
    refine v_if_ne hG 1303 dL_law_1288 rfl hf (fun hf => ?_) (fun hf => ?_)
    · refine v_goto hG 1743 dL_law_1303 rfl ?_
      cases hf
      refine v_sub [(0, _), (1, _), (2, _), (3, _), (4, _)] [2, 3, 4, 5, 6] rfl ?_
      exact kk
    · refine v_aload_n hG 5 rfl rfl dL_law_1291 ?_
      refine v_iconst hG (v := 0) (by decide) dL_law_1292 ?_
      refine z_l_out (w := ((r1252.2, w.2).1, r1270.2)) hG dL_law_1293 hf (fun hf => ?_)
      refine v_iload hG 0 rfl dL_law_1294 ?_
      refine v_i2l hG dL_law_1296 ?_
      refine v_lcmp_eq hG 1303 dL_law_1297 dL_law_1298 rfl hf (fun hf => ?_) (fun hf => ?_)
      · refine v_goto hG 1743 dL_law_1303 rfl ?_
        cases hf
        refine v_sub [(0, _), (1, _), (2, _), (3, _), (4, _)] [2, 3, 4, 5, 6] rfl ?_
        exact kk
      · refine v_iconst hG (v := 0) (by decide) dL_law_1301 ?_
        cases hf
  · refine v_iconst hG (v := 0) (by decide) dL_law_1284 ?_
    cases hf
set_option maxRecDepth 100000 in
set_option maxHeartbeats 4000000 in
theorem lc_20 {p : Program} {l : Launch} {e : Env} {s : State} {m : MethodId} {args : Array Value} {below : List Frame} {meth : Method} {c : Code} {A : Nat → Prop} {Q : State → Prop} {g : wG} {ad am : Nat → Nat} {b L k n : Nat} {xs : Nat → Int32} (hl : l.stackTraces = false) (hG : vG p s m args meth c A g cL_law RL 8) (hZ : vZ s A) (hX : va_X b L xs s s.heap ∧ b < s.heap.size ∧ ¬ A b) (i x1 x2 x3 : Int32) (h1 : vp_in (i + 1) L) (h2 : vp_in (i + 2) L) (h3 : vp_in (i + 3) L) (e1 : xs (i + 1).toNatClampNeg = x1) (e2 : xs (i + 2).toNatClampNeg = x2) (e3 : xs (i + 3).toNatClampNeg = x3) (hk : k + 3 ≤ room_1.cells ∧ n + 18 ≤ room_1.slots) (w w' : ZW) (hf : law_C20 x1 x2 x3 w = some w') (kk : V p l e room_1 s m args below meth c A Q g 8 (zcells g ad am w') (k + 3) (n + 18) 1743 [(0, .ref b), (1, .ref (ad 0)), (2, .ref (am 0)), (3, .ref (ad 73)), (4, .int i)] []) : V p l e room_1 s m args below meth c A Q g 8 (zcells g ad am w) k n 1306 [(0, .ref b), (1, .ref (ad 0)), (2, .ref (am 0)), (3, .ref (ad 73)), (4, .int i)] [] := by
  obtain ⟨hk1, hk2⟩ := hk
  unfold law_C20 at hf
  have j1372 : ∀ (j1372_0 : ZW) (j1372_1 : Int64) (j1372_2 : Int64), L_law_J1372 j1372_0 j1372_1 j1372_2 = some w' → V p l e room_1 s m args below meth c A Q g 8 (zcells g ad am j1372_0) (k + 3) (n + 18) 1372 [(0, .ref b), (1, .ref (ad 0)), (2, .ref (am 0)), (3, .ref (ad 73)), (4, .int i)] [.long j1372_2, .long j1372_1] := by
    intro j1372_0 j1372_1 j1372_2 hf
    unfold L_law_J1372 at hf
    refine v_lcmp_eq hG 1378 dL_law_1372 dL_law_1373 rfl hf (fun hf => ?_) (fun hf => ?_)
    · refine v_goto hG 1743 dL_law_1378 rfl ?_
      cases hf
      exact kk
    · refine v_iconst hG (v := 0) (by decide) dL_law_1376 ?_
      cases hf
  refine v_aload_n hG 1 rfl rfl dL_law_1306 ?_
  refine v_aload_n hG 0 rfl rfl dL_law_1307 ?_
  refine v_iload hG 4 rfl dL_law_1308 ?_
  refine v_iconst hG (v := 1) (by decide) dL_law_1310 ?_
  refine v_iadd hG dL_law_1311 ?_
  refine v_sld hG hX h1 e1 dL_law_1312 ?_
  refine v_aload_n hG 0 rfl rfl dL_law_1313 ?_
  refine v_iload hG 4 rfl dL_law_1314 ?_
  refine v_iconst hG (v := 2) (by decide) dL_law_1316 ?_
  refine v_iadd hG dL_law_1317 ?_
  refine v_sld hG hX h2 e2 dL_law_1318 ?_
  refine v_aload_n hG 3 rfl rfl dL_law_1319 ?_
  obtain ⟨r1320, hr1320, hf⟩ := bd_some hf
  refine z_callW (wc := lcells g ad w.1) (ext := mcells g am w.2) (st := []) hG hZ (ct_L_same l hl g ad w.1 x1 x2 r1320 hr1320) ww_L_same wk_967 ⟨rfl, rfl, Nat.le_of_ble_eq_true rfl, Nat.le_of_ble_eq_true rfl⟩ ⟨by omega, by omega⟩ rfl rfl (Nat.le_of_ble_eq_true rfl) rfl dL_law_1320 ?_
  refine (show V p l e room_1 s m args below meth c A Q g 8 (zcells g ad am (r1320.2, w.2)) (k + 3) (n + 18) 1323 [(0, .ref b), (1, .ref (ad 0)), (2, .ref (am 0)), (3, .ref (ad 73)), (4, .int i)] [.int r1320.1] from ?_)
  refine v_istore hG [(5, _), (0, _), (1, _), (2, _), (3, _), (4, _)] dL_law_1323 (by decide) rfl ?_
  refine v_aload_n hG 3 rfl rfl dL_law_1325 ?_
  refine v_aload_n hG 1 rfl rfl dL_law_1326 ?_
  refine v_iload hG 5 rfl dL_law_1327 ?_
  refine v_iconst hG (v := 1) (by decide) dL_law_1329 ?_
  refine v_iadd hG dL_law_1330 ?_
  refine v_sld hG hX h1 e1 dL_law_1331 ?_
  refine v_aload_n hG 1 rfl rfl dL_law_1332 ?_
  refine v_iload hG 5 rfl dL_law_1333 ?_
  refine v_iconst hG (v := 2) (by decide) dL_law_1335 ?_
  refine v_iadd hG dL_law_1336 ?_
  refine v_sld hG hX h2 e2 dL_law_1337 ?_
  obtain ⟨r1338, hr1338, hf⟩ := bd_some hf
  refine z_callM (lc := lcells g ad (r1320.2, w.2).1) (st := []) hG (ct_X9_same l g am (r1320.2, w.2).2 x1 x2 r1338 hr1338) iw_X9_same wk_1492 rfl ⟨rfl, rfl, Nat.le_of_ble_eq_true rfl, Nat.le_of_ble_eq_true rfl⟩ ⟨by omega, by omega⟩ rfl rfl (Nat.le_of_ble_eq_true rfl) dL_law_1338 ?_
  refine (show V p l e room_1 s m args below meth c A Q g 8 (zcells g ad am ((r1320.2, w.2).1, r1338.2)) (k + 3) (n + 18) 1341 [(5, .int r1320.1), (0, .ref b), (1, .ref (ad 0)), (2, .ref (am 0)), (3, .ref (ad 73)), (4, .int i)] [.int r1338.1] from ?_)
  refine v_istore hG [(6, _), (5, _), (0, _), (1, _), (2, _), (3, _), (4, _)] dL_law_1341 (by decide) rfl ?_
  refine v_aload_n hG 4 rfl rfl dL_law_1343 ?_
  obtain ⟨r1344, hr1344, hf⟩ := bd_some hf
  refine z_callM (lc := lcells g ad ((r1320.2, w.2).1, r1338.2).1) (st := []) hG (ct_X9_thrown l g am ((r1320.2, w.2).1, r1338.2).2  r1344 hr1344) iw_X9_thrown wk_1197 rfl ⟨rfl, rfl, Nat.le_of_ble_eq_true rfl, Nat.le_of_ble_eq_true rfl⟩ ⟨by omega, by omega⟩ rfl rfl (Nat.le_of_ble_eq_true rfl) dL_law_1344 ?_
  refine (show V p l e room_1 s m args below meth c A Q g 8 (zcells g ad am ((r1320.2, w.2).1, r1338.2)) (k + 3) (n + 18) 1347 [(6, .int r1338.1), (5, .int r1320.1), (0, .ref b), (1, .ref (ad 0)), (2, .ref (am 0)), (3, .ref (ad 73)), (4, .int i)] [.int r1344] from ?_)
  refine v_iload hG 1 rfl dL_law_1347 ?_
  refine v_icmp_eq hG 1354 dL_law_1349 rfl hf (fun hf => ?_) (fun hf => ?_)
  · refine v_iload hG 1 rfl dL_law_1354 ?_
    refine v_if_ne hG 1378 dL_law_1356 rfl hf (fun hf => ?_) (fun hf => ?_)
    · refine v_goto hG 1743 dL_law_1378 rfl ?_
      cases hf
      refine v_sub [(0, _), (1, _), (2, _), (3, _), (4, _)] [2, 3, 4, 5, 6] rfl ?_
      exact kk
    · refine v_aload_n hG 5 rfl rfl dL_law_1359 ?_
      refine v_iconst hG (v := 0) (by decide) dL_law_1360 ?_
      refine z_l_out (w := ((r1320.2, w.2).1, r1338.2)) hG dL_law_1361 hf (fun hf => ?_)
      refine v_iload hG 0 rfl dL_law_1362 ?_
      refine v_if_eq hG 1371 dL_law_1364 rfl hf (fun hf => ?_) (fun hf => ?_)
      · refine v_lconst hG (v := 0) (by decide) dL_law_1371 ?_
        refine v_sub [(0, _), (1, _), (2, _), (3, _), (4, _)] [2, 3, 4, 5, 6] rfl ?_
        exact j1372 ((r1320.2, w.2).1, r1338.2) (((r1320.2, w.2).1, r1338.2).1.2 (0 : Int32).toNatClampNeg) 0 hf
      · refine v_lconst hG (v := 1) (by decide) dL_law_1367 ?_
        refine v_goto hG 1372 dL_law_1368 rfl ?_
        refine v_sub [(0, _), (1, _), (2, _), (3, _), (4, _)] [2, 3, 4, 5, 6] rfl ?_
        exact j1372 ((r1320.2, w.2).1, r1338.2) (((r1320.2, w.2).1, r1338.2).1.2 (0 : Int32).toNatClampNeg) 1 hf
  · refine v_iconst hG (v := 0) (by decide) dL_law_1352 ?_
    cases hf
set_option maxRecDepth 100000 in
set_option maxHeartbeats 4000000 in
theorem lc_21 {p : Program} {l : Launch} {e : Env} {s : State} {m : MethodId} {args : Array Value} {below : List Frame} {meth : Method} {c : Code} {A : Nat → Prop} {Q : State → Prop} {g : wG} {ad am : Nat → Nat} {b L k n : Nat} {xs : Nat → Int32} (hl : l.stackTraces = false) (hG : vG p s m args meth c A g cL_law RL 8) (hZ : vZ s A) (hX : va_X b L xs s s.heap ∧ b < s.heap.size ∧ ¬ A b) (i x1 x2 x3 : Int32) (h1 : vp_in (i + 1) L) (h2 : vp_in (i + 2) L) (h3 : vp_in (i + 3) L) (e1 : xs (i + 1).toNatClampNeg = x1) (e2 : xs (i + 2).toNatClampNeg = x2) (e3 : xs (i + 3).toNatClampNeg = x3) (hk : k + 3 ≤ room_1.cells ∧ n + 18 ≤ room_1.slots) (w w' : ZW) (hf : law_C21 x1 x2 x3 w = some w') (kk : V p l e room_1 s m args below meth c A Q g 8 (zcells g ad am w') (k + 3) (n + 18) 1743 [(0, .ref b), (1, .ref (ad 0)), (2, .ref (am 0)), (3, .ref (ad 73)), (4, .int i)] []) : V p l e room_1 s m args below meth c A Q g 8 (zcells g ad am w) k n 1381 [(0, .ref b), (1, .ref (ad 0)), (2, .ref (am 0)), (3, .ref (ad 73)), (4, .int i)] [] := by
  obtain ⟨hk1, hk2⟩ := hk
  unfold law_C21 at hf
  refine v_aload_n hG 1 rfl rfl dL_law_1381 ?_
  refine v_aload_n hG 0 rfl rfl dL_law_1382 ?_
  refine v_iload hG 4 rfl dL_law_1383 ?_
  refine v_iconst hG (v := 1) (by decide) dL_law_1385 ?_
  refine v_iadd hG dL_law_1386 ?_
  refine v_sld hG hX h1 e1 dL_law_1387 ?_
  refine v_aload_n hG 0 rfl rfl dL_law_1388 ?_
  refine v_iload hG 4 rfl dL_law_1389 ?_
  refine v_iconst hG (v := 2) (by decide) dL_law_1391 ?_
  refine v_iadd hG dL_law_1392 ?_
  refine v_sld hG hX h2 e2 dL_law_1393 ?_
  obtain ⟨r1394, hr1394, hf⟩ := bd_some hf
  refine z_callW (wc := lcells g ad w.1) (ext := mcells g am w.2) (st := []) hG hZ (ct_L_put l hl g ad w.1 x1 x2 r1394 hr1394) ww_L_put wk_978 ⟨rfl, rfl, Nat.le_of_ble_eq_true rfl, Nat.le_of_ble_eq_true rfl⟩ ⟨by omega, by omega⟩ rfl rfl (Nat.le_of_ble_eq_true rfl) rfl dL_law_1394 ?_
  refine (show V p l e room_1 s m args below meth c A Q g 8 (zcells g ad am (r1394.2, w.2)) (k + 3) (n + 18) 1397 [(0, .ref b), (1, .ref (ad 0)), (2, .ref (am 0)), (3, .ref (ad 73)), (4, .int i)] [.int r1394.1] from ?_)
  refine v_istore hG [(5, _), (0, _), (1, _), (2, _), (3, _), (4, _)] dL_law_1397 (by decide) rfl ?_
  refine v_aload_n hG 3 rfl rfl dL_law_1399 ?_
  refine v_aload_n hG 1 rfl rfl dL_law_1400 ?_
  refine v_iload hG 5 rfl dL_law_1401 ?_
  refine v_iconst hG (v := 1) (by decide) dL_law_1403 ?_
  refine v_iadd hG dL_law_1404 ?_
  refine v_sld hG hX h1 e1 dL_law_1405 ?_
  refine v_aload_n hG 1 rfl rfl dL_law_1406 ?_
  refine v_iload hG 5 rfl dL_law_1407 ?_
  refine v_iconst hG (v := 2) (by decide) dL_law_1409 ?_
  refine v_iadd hG dL_law_1410 ?_
  refine v_sld hG hX h2 e2 dL_law_1411 ?_
  obtain ⟨r1412, hr1412, hf⟩ := bd_some hf
  refine z_callM (lc := lcells g ad (r1394.2, w.2).1) (st := []) hG (ct_X9_put l g am (r1394.2, w.2).2 x1 x2 r1412 hr1412) iw_X9_put wk_1496 rfl ⟨rfl, rfl, Nat.le_of_ble_eq_true rfl, Nat.le_of_ble_eq_true rfl⟩ ⟨by omega, by omega⟩ rfl rfl (Nat.le_of_ble_eq_true rfl) dL_law_1412 ?_
  refine (show V p l e room_1 s m args below meth c A Q g 8 (zcells g ad am ((r1394.2, w.2).1, r1412)) (k + 3) (n + 18) 1415 [(5, .int r1394.1), (0, .ref b), (1, .ref (ad 0)), (2, .ref (am 0)), (3, .ref (ad 73)), (4, .int i)] [] from ?_)
  refine v_aload_n hG 3 rfl rfl dL_law_1415 ?_
  obtain ⟨r1416, hr1416, hf⟩ := bd_some hf
  refine z_callM (lc := lcells g ad ((r1394.2, w.2).1, r1412).1) (st := []) hG (ct_X9_thrown l g am ((r1394.2, w.2).1, r1412).2  r1416 hr1416) iw_X9_thrown wk_1197 rfl ⟨rfl, rfl, Nat.le_of_ble_eq_true rfl, Nat.le_of_ble_eq_true rfl⟩ ⟨by omega, by omega⟩ rfl rfl (Nat.le_of_ble_eq_true rfl) dL_law_1416 ?_
  refine (show V p l e room_1 s m args below meth c A Q g 8 (zcells g ad am ((r1394.2, w.2).1, r1412)) (k + 3) (n + 18) 1419 [(5, .int r1394.1), (0, .ref b), (1, .ref (ad 0)), (2, .ref (am 0)), (3, .ref (ad 73)), (4, .int i)] [.int r1416] from ?_)
  refine v_iload hG 0 rfl dL_law_1419 ?_
  refine v_icmp_eq hG 1426 dL_law_1421 rfl hf (fun hf => ?_) (fun hf => ?_)
  · refine v_goto hG 1743 dL_law_1426 rfl ?_
    cases hf
    refine v_sub [(0, _), (1, _), (2, _), (3, _), (4, _)] [1, 2, 3, 4, 5] rfl ?_
    exact kk
  · refine v_iconst hG (v := 0) (by decide) dL_law_1424 ?_
    cases hf
set_option maxRecDepth 100000 in
set_option maxHeartbeats 4000000 in
theorem lc_22 {p : Program} {l : Launch} {e : Env} {s : State} {m : MethodId} {args : Array Value} {below : List Frame} {meth : Method} {c : Code} {A : Nat → Prop} {Q : State → Prop} {g : wG} {ad am : Nat → Nat} {b L k n : Nat} {xs : Nat → Int32} (hl : l.stackTraces = false) (hG : vG p s m args meth c A g cL_law RL 8) (hZ : vZ s A) (hX : va_X b L xs s s.heap ∧ b < s.heap.size ∧ ¬ A b) (i x1 x2 x3 : Int32) (h1 : vp_in (i + 1) L) (h2 : vp_in (i + 2) L) (h3 : vp_in (i + 3) L) (e1 : xs (i + 1).toNatClampNeg = x1) (e2 : xs (i + 2).toNatClampNeg = x2) (e3 : xs (i + 3).toNatClampNeg = x3) (hk : k + 3 ≤ room_1.cells ∧ n + 18 ≤ room_1.slots) (w w' : ZW) (hf : law_C22 x1 x2 x3 w = some w') (kk : V p l e room_1 s m args below meth c A Q g 8 (zcells g ad am w') (k + 3) (n + 18) 1743 [(0, .ref b), (1, .ref (ad 0)), (2, .ref (am 0)), (3, .ref (ad 73)), (4, .int i)] []) : V p l e room_1 s m args below meth c A Q g 8 (zcells g ad am w) k n 1429 [(0, .ref b), (1, .ref (ad 0)), (2, .ref (am 0)), (3, .ref (ad 73)), (4, .int i)] [] := by
  obtain ⟨hk1, hk2⟩ := hk
  unfold law_C22 at hf
  refine v_aload_n hG 1 rfl rfl dL_law_1429 ?_
  refine v_aload_n hG 3 rfl rfl dL_law_1430 ?_
  obtain ⟨r1431, hr1431, hf⟩ := bd_some hf
  refine z_callW (wc := lcells g ad w.1) (ext := mcells g am w.2) (st := []) hG hZ (ct_L_back l hl g ad w.1  r1431 hr1431) ww_L_back wk_991 ⟨rfl, rfl, Nat.le_of_ble_eq_true rfl, Nat.le_of_ble_eq_true rfl⟩ ⟨by omega, by omega⟩ rfl rfl (Nat.le_of_ble_eq_true rfl) rfl dL_law_1431 ?_
  refine (show V p l e room_1 s m args below meth c A Q g 8 (zcells g ad am (r1431.2, w.2)) (k + 2) (n + 12) 1434 [(0, .ref b), (1, .ref (ad 0)), (2, .ref (am 0)), (3, .ref (ad 73)), (4, .int i)] [.int r1431.1] from ?_)
  refine v_istore hG [(5, _), (0, _), (1, _), (2, _), (3, _), (4, _)] dL_law_1434 (by decide) rfl ?_
  refine v_aload_n hG 3 rfl rfl dL_law_1436 ?_
  obtain ⟨r1437, hr1437, hf⟩ := bd_some hf
  refine z_callM (lc := lcells g ad (r1431.2, w.2).1) (st := []) hG (ct_X9_back l g am (r1431.2, w.2).2  r1437 hr1437) iw_X9_back wk_1500 rfl ⟨rfl, rfl, Nat.le_of_ble_eq_true rfl, Nat.le_of_ble_eq_true rfl⟩ ⟨by omega, by omega⟩ rfl rfl (Nat.le_of_ble_eq_true rfl) dL_law_1437 ?_
  refine (show V p l e room_1 s m args below meth c A Q g 8 (zcells g ad am ((r1431.2, w.2).1, r1437.2)) (k + 2) (n + 12) 1440 [(5, .int r1431.1), (0, .ref b), (1, .ref (ad 0)), (2, .ref (am 0)), (3, .ref (ad 73)), (4, .int i)] [.int r1437.1] from ?_)
  refine v_istore hG [(6, _), (5, _), (0, _), (1, _), (2, _), (3, _), (4, _)] dL_law_1440 (by decide) rfl ?_
  refine v_aload_n hG 4 rfl rfl dL_law_1442 ?_
  obtain ⟨r1443, hr1443, hf⟩ := bd_some hf
  refine z_callM (lc := lcells g ad ((r1431.2, w.2).1, r1437.2).1) (st := []) hG (ct_X9_thrown l g am ((r1431.2, w.2).1, r1437.2).2  r1443 hr1443) iw_X9_thrown wk_1197 rfl ⟨rfl, rfl, Nat.le_of_ble_eq_true rfl, Nat.le_of_ble_eq_true rfl⟩ ⟨by omega, by omega⟩ rfl rfl (Nat.le_of_ble_eq_true rfl) dL_law_1443 ?_
  refine (show V p l e room_1 s m args below meth c A Q g 8 (zcells g ad am ((r1431.2, w.2).1, r1437.2)) (k + 2) (n + 12) 1446 [(6, .int r1437.1), (5, .int r1431.1), (0, .ref b), (1, .ref (ad 0)), (2, .ref (am 0)), (3, .ref (ad 73)), (4, .int i)] [.int r1443] from ?_)
  refine v_iload hG 1 rfl dL_law_1446 ?_
  refine v_icmp_eq hG 1453 dL_law_1448 rfl hf (fun hf => ?_) (fun hf => ?_)
  · refine v_iload hG 1 rfl dL_law_1453 ?_
    refine v_if_ne hG 1470 dL_law_1455 rfl hf (fun hf => ?_) (fun hf => ?_)
    · refine v_goto hG 1743 dL_law_1470 rfl ?_
      cases hf
      refine v_widen (k9 := k + 3) (n9 := n + 18) ⟨by omega, by omega⟩ ?_
      refine v_sub [(0, _), (1, _), (2, _), (3, _), (4, _)] [2, 3, 4, 5, 6] rfl ?_
      exact kk
    · refine v_aload_n hG 5 rfl rfl dL_law_1458 ?_
      refine v_iconst hG (v := 0) (by decide) dL_law_1459 ?_
      refine z_l_out (w := ((r1431.2, w.2).1, r1437.2)) hG dL_law_1460 hf (fun hf => ?_)
      refine v_iload hG 0 rfl dL_law_1461 ?_
      refine v_i2l hG dL_law_1463 ?_
      refine v_lcmp_eq hG 1470 dL_law_1464 dL_law_1465 rfl hf (fun hf => ?_) (fun hf => ?_)
      · refine v_goto hG 1743 dL_law_1470 rfl ?_
        cases hf
        refine v_widen (k9 := k + 3) (n9 := n + 18) ⟨by omega, by omega⟩ ?_
        refine v_sub [(0, _), (1, _), (2, _), (3, _), (4, _)] [2, 3, 4, 5, 6] rfl ?_
        exact kk
      · refine v_iconst hG (v := 0) (by decide) dL_law_1468 ?_
        cases hf
  · refine v_iconst hG (v := 0) (by decide) dL_law_1451 ?_
    cases hf
set_option maxRecDepth 100000 in
set_option maxHeartbeats 4000000 in
theorem lc_23 {p : Program} {l : Launch} {e : Env} {s : State} {m : MethodId} {args : Array Value} {below : List Frame} {meth : Method} {c : Code} {A : Nat → Prop} {Q : State → Prop} {g : wG} {ad am : Nat → Nat} {b L k n : Nat} {xs : Nat → Int32} (hl : l.stackTraces = false) (hG : vG p s m args meth c A g cL_law RL 8) (hZ : vZ s A) (hX : va_X b L xs s s.heap ∧ b < s.heap.size ∧ ¬ A b) (i x1 x2 x3 : Int32) (h1 : vp_in (i + 1) L) (h2 : vp_in (i + 2) L) (h3 : vp_in (i + 3) L) (e1 : xs (i + 1).toNatClampNeg = x1) (e2 : xs (i + 2).toNatClampNeg = x2) (e3 : xs (i + 3).toNatClampNeg = x3) (hk : k + 3 ≤ room_1.cells ∧ n + 18 ≤ room_1.slots) (w w' : ZW) (hf : law_C23 x1 x2 x3 w = some w') (kk : V p l e room_1 s m args below meth c A Q g 8 (zcells g ad am w') (k + 3) (n + 18) 1743 [(0, .ref b), (1, .ref (ad 0)), (2, .ref (am 0)), (3, .ref (ad 73)), (4, .int i)] []) : V p l e room_1 s m args below meth c A Q g 8 (zcells g ad am w) k n 1473 [(0, .ref b), (1, .ref (ad 0)), (2, .ref (am 0)), (3, .ref (ad 73)), (4, .int i)] [] := by
  obtain ⟨hk1, hk2⟩ := hk
  unfold law_C23 at hf
  refine v_aload_n hG 1 rfl rfl dL_law_1473 ?_
  refine v_aload_n hG 0 rfl rfl dL_law_1474 ?_
  refine v_iload hG 4 rfl dL_law_1475 ?_
  refine v_iconst hG (v := 1) (by decide) dL_law_1477 ?_
  refine v_iadd hG dL_law_1478 ?_
  refine v_sld hG hX h1 e1 dL_law_1479 ?_
  refine v_aload_n hG 3 rfl rfl dL_law_1480 ?_
  obtain ⟨r1481, hr1481, hf⟩ := bd_some hf
  refine z_callW (wc := lcells g ad w.1) (ext := mcells g am w.2) (st := []) hG hZ (ct_L_at l hl g ad w.1 x1 r1481 hr1481) ww_L_at wk_1009 ⟨rfl, rfl, Nat.le_of_ble_eq_true rfl, Nat.le_of_ble_eq_true rfl⟩ ⟨by omega, by omega⟩ rfl rfl (Nat.le_of_ble_eq_true rfl) rfl dL_law_1481 ?_
  refine (show V p l e room_1 s m args below meth c A Q g 8 (zcells g ad am (r1481.2, w.2)) (k + 2) (n + 12) 1484 [(0, .ref b), (1, .ref (ad 0)), (2, .ref (am 0)), (3, .ref (ad 73)), (4, .int i)] [.int r1481.1] from ?_)
  refine v_istore hG [(5, _), (0, _), (1, _), (2, _), (3, _), (4, _)] dL_law_1484 (by decide) rfl ?_
  refine v_aload_n hG 3 rfl rfl dL_law_1486 ?_
  refine v_aload_n hG 1 rfl rfl dL_law_1487 ?_
  refine v_iload hG 5 rfl dL_law_1488 ?_
  refine v_iconst hG (v := 1) (by decide) dL_law_1490 ?_
  refine v_iadd hG dL_law_1491 ?_
  refine v_sld hG hX h1 e1 dL_law_1492 ?_
  obtain ⟨r1493, hr1493, hf⟩ := bd_some hf
  refine z_callM (lc := lcells g ad (r1481.2, w.2).1) (st := []) hG (ct_X9_at l g am (r1481.2, w.2).2 x1 r1493 hr1493) iw_X9_at wk_1504 rfl ⟨rfl, rfl, Nat.le_of_ble_eq_true rfl, Nat.le_of_ble_eq_true rfl⟩ ⟨by omega, by omega⟩ rfl rfl (Nat.le_of_ble_eq_true rfl) dL_law_1493 ?_
  refine (show V p l e room_1 s m args below meth c A Q g 8 (zcells g ad am ((r1481.2, w.2).1, r1493.2)) (k + 2) (n + 12) 1496 [(5, .int r1481.1), (0, .ref b), (1, .ref (ad 0)), (2, .ref (am 0)), (3, .ref (ad 73)), (4, .int i)] [.int r1493.1] from ?_)
  refine v_istore hG [(6, _), (5, _), (0, _), (1, _), (2, _), (3, _), (4, _)] dL_law_1496 (by decide) rfl ?_
  refine v_aload_n hG 4 rfl rfl dL_law_1498 ?_
  obtain ⟨r1499, hr1499, hf⟩ := bd_some hf
  refine z_callM (lc := lcells g ad ((r1481.2, w.2).1, r1493.2).1) (st := []) hG (ct_X9_thrown l g am ((r1481.2, w.2).1, r1493.2).2  r1499 hr1499) iw_X9_thrown wk_1197 rfl ⟨rfl, rfl, Nat.le_of_ble_eq_true rfl, Nat.le_of_ble_eq_true rfl⟩ ⟨by omega, by omega⟩ rfl rfl (Nat.le_of_ble_eq_true rfl) dL_law_1499 ?_
  refine (show V p l e room_1 s m args below meth c A Q g 8 (zcells g ad am ((r1481.2, w.2).1, r1493.2)) (k + 2) (n + 12) 1502 [(6, .int r1493.1), (5, .int r1481.1), (0, .ref b), (1, .ref (ad 0)), (2, .ref (am 0)), (3, .ref (ad 73)), (4, .int i)] [.int r1499] from ?_)
  refine v_iload hG 1 rfl dL_law_1502 ?_
  refine v_icmp_eq hG 1509 dL_law_1504 rfl hf (fun hf => ?_) (fun hf => ?_)
  · refine v_iload hG 1 rfl dL_law_1509 ?_
    refine v_if_ne hG 1526 dL_law_1511 rfl hf (fun hf => ?_) (fun hf => ?_)
    · refine v_goto hG 1743 dL_law_1526 rfl ?_
      cases hf
      refine v_widen (k9 := k + 3) (n9 := n + 18) ⟨by omega, by omega⟩ ?_
      refine v_sub [(0, _), (1, _), (2, _), (3, _), (4, _)] [2, 3, 4, 5, 6] rfl ?_
      exact kk
    · refine v_aload_n hG 5 rfl rfl dL_law_1514 ?_
      refine v_iconst hG (v := 0) (by decide) dL_law_1515 ?_
      refine z_l_out (w := ((r1481.2, w.2).1, r1493.2)) hG dL_law_1516 hf (fun hf => ?_)
      refine v_iload hG 0 rfl dL_law_1517 ?_
      refine v_i2l hG dL_law_1519 ?_
      refine v_lcmp_eq hG 1526 dL_law_1520 dL_law_1521 rfl hf (fun hf => ?_) (fun hf => ?_)
      · refine v_goto hG 1743 dL_law_1526 rfl ?_
        cases hf
        refine v_widen (k9 := k + 3) (n9 := n + 18) ⟨by omega, by omega⟩ ?_
        refine v_sub [(0, _), (1, _), (2, _), (3, _), (4, _)] [2, 3, 4, 5, 6] rfl ?_
        exact kk
      · refine v_iconst hG (v := 0) (by decide) dL_law_1524 ?_
        cases hf
  · refine v_iconst hG (v := 0) (by decide) dL_law_1507 ?_
    cases hf
set_option maxRecDepth 100000 in
set_option maxHeartbeats 4000000 in
theorem lc_24 {p : Program} {l : Launch} {e : Env} {s : State} {m : MethodId} {args : Array Value} {below : List Frame} {meth : Method} {c : Code} {A : Nat → Prop} {Q : State → Prop} {g : wG} {ad am : Nat → Nat} {b L k n : Nat} {xs : Nat → Int32} (hl : l.stackTraces = false) (hG : vG p s m args meth c A g cL_law RL 8) (hZ : vZ s A) (hX : va_X b L xs s s.heap ∧ b < s.heap.size ∧ ¬ A b) (i x1 x2 x3 : Int32) (h1 : vp_in (i + 1) L) (h2 : vp_in (i + 2) L) (h3 : vp_in (i + 3) L) (e1 : xs (i + 1).toNatClampNeg = x1) (e2 : xs (i + 2).toNatClampNeg = x2) (e3 : xs (i + 3).toNatClampNeg = x3) (hk : k + 3 ≤ room_1.cells ∧ n + 18 ≤ room_1.slots) (w w' : ZW) (hf : law_C24 x1 x2 x3 w = some w') (kk : V p l e room_1 s m args below meth c A Q g 8 (zcells g ad am w') (k + 3) (n + 18) 1743 [(0, .ref b), (1, .ref (ad 0)), (2, .ref (am 0)), (3, .ref (ad 73)), (4, .int i)] []) : V p l e room_1 s m args below meth c A Q g 8 (zcells g ad am w) k n 1529 [(0, .ref b), (1, .ref (ad 0)), (2, .ref (am 0)), (3, .ref (ad 73)), (4, .int i)] [] := by
  obtain ⟨hk1, hk2⟩ := hk
  unfold law_C24 at hf
  refine v_aload_n hG 1 rfl rfl dL_law_1529 ?_
  refine v_aload_n hG 3 rfl rfl dL_law_1530 ?_
  obtain ⟨r1531, hr1531, hf⟩ := bd_some hf
  refine z_callW (wc := lcells g ad w.1) (ext := mcells g am w.2) (st := []) hG hZ (ct_L_value l hl g ad w.1  r1531 hr1531) ww_L_value wk_1021 ⟨rfl, rfl, Nat.le_of_ble_eq_true rfl, Nat.le_of_ble_eq_true rfl⟩ ⟨by omega, by omega⟩ rfl rfl (Nat.le_of_ble_eq_true rfl) rfl dL_law_1531 ?_
  refine (show V p l e room_1 s m args below meth c A Q g 8 (zcells g ad am (r1531.2, w.2)) (k + 1) (n + 6) 1534 [(0, .ref b), (1, .ref (ad 0)), (2, .ref (am 0)), (3, .ref (ad 73)), (4, .int i)] [.int r1531.1] from ?_)
  refine v_istore hG [(5, _), (0, _), (1, _), (2, _), (3, _), (4, _)] dL_law_1534 (by decide) rfl ?_
  refine v_aload_n hG 3 rfl rfl dL_law_1536 ?_
  obtain ⟨r1537, hr1537, hf⟩ := bd_some hf
  refine z_callM (lc := lcells g ad (r1531.2, w.2).1) (st := []) hG (ct_X9_value l g am (r1531.2, w.2).2  r1537 hr1537) iw_X9_value wk_1508 rfl ⟨rfl, rfl, Nat.le_of_ble_eq_true rfl, Nat.le_of_ble_eq_true rfl⟩ ⟨by omega, by omega⟩ rfl rfl (Nat.le_of_ble_eq_true rfl) dL_law_1537 ?_
  refine (show V p l e room_1 s m args below meth c A Q g 8 (zcells g ad am ((r1531.2, w.2).1, r1537.2)) (k + 1) (n + 6) 1540 [(5, .int r1531.1), (0, .ref b), (1, .ref (ad 0)), (2, .ref (am 0)), (3, .ref (ad 73)), (4, .int i)] [.long r1537.1] from ?_)
  refine v_lstore hG [(6, _), (5, _), (0, _), (1, _), (2, _), (3, _), (4, _)] dL_law_1540 (by decide) rfl ?_
  refine v_aload_n hG 4 rfl rfl dL_law_1542 ?_
  obtain ⟨r1543, hr1543, hf⟩ := bd_some hf
  refine z_callM (lc := lcells g ad ((r1531.2, w.2).1, r1537.2).1) (st := []) hG (ct_X9_thrown l g am ((r1531.2, w.2).1, r1537.2).2  r1543 hr1543) iw_X9_thrown wk_1197 rfl ⟨rfl, rfl, Nat.le_of_ble_eq_true rfl, Nat.le_of_ble_eq_true rfl⟩ ⟨by omega, by omega⟩ rfl rfl (Nat.le_of_ble_eq_true rfl) dL_law_1543 ?_
  refine (show V p l e room_1 s m args below meth c A Q g 8 (zcells g ad am ((r1531.2, w.2).1, r1537.2)) (k + 1) (n + 6) 1546 [(6, .long r1537.1), (5, .int r1531.1), (0, .ref b), (1, .ref (ad 0)), (2, .ref (am 0)), (3, .ref (ad 73)), (4, .int i)] [.int r1543] from ?_)
  refine v_iload hG 1 rfl dL_law_1546 ?_
  refine v_icmp_eq hG 1553 dL_law_1548 rfl hf (fun hf => ?_) (fun hf => ?_)
  · refine v_iload hG 1 rfl dL_law_1553 ?_
    refine v_if_ne hG 1569 dL_law_1555 rfl hf (fun hf => ?_) (fun hf => ?_)
    · refine v_goto hG 1743 dL_law_1569 rfl ?_
      cases hf
      refine v_widen (k9 := k + 3) (n9 := n + 18) ⟨by omega, by omega⟩ ?_
      refine v_sub [(0, _), (1, _), (2, _), (3, _), (4, _)] [2, 3, 4, 5, 6] rfl ?_
      exact kk
    · refine v_aload_n hG 5 rfl rfl dL_law_1558 ?_
      refine v_iconst hG (v := 0) (by decide) dL_law_1559 ?_
      refine z_l_out (w := ((r1531.2, w.2).1, r1537.2)) hG dL_law_1560 hf (fun hf => ?_)
      refine v_lload hG 0 rfl dL_law_1561 ?_
      refine v_lcmp_eq hG 1569 dL_law_1563 dL_law_1564 rfl hf (fun hf => ?_) (fun hf => ?_)
      · refine v_goto hG 1743 dL_law_1569 rfl ?_
        cases hf
        refine v_widen (k9 := k + 3) (n9 := n + 18) ⟨by omega, by omega⟩ ?_
        refine v_sub [(0, _), (1, _), (2, _), (3, _), (4, _)] [2, 3, 4, 5, 6] rfl ?_
        exact kk
      · refine v_iconst hG (v := 0) (by decide) dL_law_1567 ?_
        cases hf
  · refine v_iconst hG (v := 0) (by decide) dL_law_1551 ?_
    cases hf
set_option maxRecDepth 100000 in
set_option maxHeartbeats 4000000 in
theorem lc_25 {p : Program} {l : Launch} {e : Env} {s : State} {m : MethodId} {args : Array Value} {below : List Frame} {meth : Method} {c : Code} {A : Nat → Prop} {Q : State → Prop} {g : wG} {ad am : Nat → Nat} {b L k n : Nat} {xs : Nat → Int32} (hl : l.stackTraces = false) (hG : vG p s m args meth c A g cL_law RL 8) (hZ : vZ s A) (hX : va_X b L xs s s.heap ∧ b < s.heap.size ∧ ¬ A b) (i x1 x2 x3 : Int32) (h1 : vp_in (i + 1) L) (h2 : vp_in (i + 2) L) (h3 : vp_in (i + 3) L) (e1 : xs (i + 1).toNatClampNeg = x1) (e2 : xs (i + 2).toNatClampNeg = x2) (e3 : xs (i + 3).toNatClampNeg = x3) (hk : k + 3 ≤ room_1.cells ∧ n + 18 ≤ room_1.slots) (w w' : ZW) (hf : law_C25 x1 x2 x3 w = some w') (kk : V p l e room_1 s m args below meth c A Q g 8 (zcells g ad am w') (k + 3) (n + 18) 1743 [(0, .ref b), (1, .ref (ad 0)), (2, .ref (am 0)), (3, .ref (ad 73)), (4, .int i)] []) : V p l e room_1 s m args below meth c A Q g 8 (zcells g ad am w) k n 1572 [(0, .ref b), (1, .ref (ad 0)), (2, .ref (am 0)), (3, .ref (ad 73)), (4, .int i)] [] := by
  obtain ⟨hk1, hk2⟩ := hk
  unfold law_C25 at hf
  have j1608 : ∀ (j1608_0 : ZW) (j1608_1 : Int32) (j1608_2 : Int32), L_law_J1608 j1608_0 j1608_1 j1608_2 = some w' → V p l e room_1 s m args below meth c A Q g 8 (zcells g ad am j1608_0) (k + 1) (n + 6) 1608 [(0, .ref b), (1, .ref (ad 0)), (2, .ref (am 0)), (3, .ref (ad 73)), (4, .int i), (5, .int j1608_1)] [.int j1608_2, .ref (am 0)] := by
    intro j1608_0 j1608_1 j1608_2 hf
    unfold L_law_J1608 at hf
    obtain ⟨r1608, hr1608, hf⟩ := bd_some hf
    refine z_callM (lc := lcells g ad j1608_0.1) (st := []) hG (ct_X9_best l g am j1608_0.2 j1608_2 r1608 hr1608) iw_X9_best wk_1512 rfl ⟨rfl, rfl, Nat.le_of_ble_eq_true rfl, Nat.le_of_ble_eq_true rfl⟩ ⟨by omega, by omega⟩ rfl rfl (Nat.le_of_ble_eq_true rfl) dL_law_1608 ?_
    refine (show V p l e room_1 s m args below meth c A Q g 8 (zcells g ad am (j1608_0.1, r1608.2)) (k + 1) (n + 6) 1611 [(0, .ref b), (1, .ref (ad 0)), (2, .ref (am 0)), (3, .ref (ad 73)), (4, .int i), (5, .int j1608_1)] [.int r1608.1] from ?_)
    refine v_istore hG [(6, _), (0, _), (1, _), (2, _), (3, _), (4, _), (5, _)] dL_law_1611 (by decide) rfl ?_
    refine v_aload_n hG 3 rfl rfl dL_law_1613 ?_
    obtain ⟨r1614, hr1614, hf⟩ := bd_some hf
    refine z_callM (lc := lcells g ad (j1608_0.1, r1608.2).1) (st := []) hG (ct_X9_thrown l g am (j1608_0.1, r1608.2).2  r1614 hr1614) iw_X9_thrown wk_1197 rfl ⟨rfl, rfl, Nat.le_of_ble_eq_true rfl, Nat.le_of_ble_eq_true rfl⟩ ⟨by omega, by omega⟩ rfl rfl (Nat.le_of_ble_eq_true rfl) dL_law_1614 ?_
    refine (show V p l e room_1 s m args below meth c A Q g 8 (zcells g ad am (j1608_0.1, r1608.2)) (k + 1) (n + 6) 1617 [(6, .int r1608.1), (0, .ref b), (1, .ref (ad 0)), (2, .ref (am 0)), (3, .ref (ad 73)), (4, .int i), (5, .int j1608_1)] [.int r1614] from ?_)
    refine v_iload hG 6 rfl dL_law_1617 ?_
    refine v_icmp_eq hG 1624 dL_law_1619 rfl hf (fun hf => ?_) (fun hf => ?_)
    · refine v_iload hG 6 rfl dL_law_1624 ?_
      refine v_if_ne hG 1641 dL_law_1626 rfl hf (fun hf => ?_) (fun hf => ?_)
      · refine v_goto hG 1743 dL_law_1641 rfl ?_
        cases hf
        refine v_widen (k9 := k + 3) (n9 := n + 18) ⟨by omega, by omega⟩ ?_
        refine v_sub [(0, _), (1, _), (2, _), (3, _), (4, _)] [1, 2, 3, 4, 5] rfl ?_
        exact kk
      · refine v_aload_n hG 4 rfl rfl dL_law_1629 ?_
        refine v_iconst hG (v := 0) (by decide) dL_law_1630 ?_
        refine z_l_out (w := (j1608_0.1, r1608.2)) hG dL_law_1631 hf (fun hf => ?_)
        refine v_iload hG 0 rfl dL_law_1632 ?_
        refine v_i2l hG dL_law_1634 ?_
        refine v_lcmp_eq hG 1641 dL_law_1635 dL_law_1636 rfl hf (fun hf => ?_) (fun hf => ?_)
        · refine v_goto hG 1743 dL_law_1641 rfl ?_
          cases hf
          refine v_widen (k9 := k + 3) (n9 := n + 18) ⟨by omega, by omega⟩ ?_
          refine v_sub [(0, _), (1, _), (2, _), (3, _), (4, _)] [1, 2, 3, 4, 5] rfl ?_
          exact kk
        · refine v_iconst hG (v := 0) (by decide) dL_law_1639 ?_
          cases hf
    · refine v_iconst hG (v := 0) (by decide) dL_law_1622 ?_
      cases hf
  have j1587 : ∀ (j1587_0 : ZW) (j1587_1 : Int32), L_law_J1587 x1 j1587_0 j1587_1 = some w' → V p l e room_1 s m args below meth c A Q g 8 (zcells g ad am j1587_0) k n 1587 [(0, .ref b), (1, .ref (ad 0)), (2, .ref (am 0)), (3, .ref (ad 73)), (4, .int i)] [.int j1587_1, .ref (ad 0)] := by
    intro j1587_0 j1587_1 hf
    unfold L_law_J1587 at hf
    refine v_aload_n hG 3 rfl rfl dL_law_1587 ?_
    obtain ⟨r1588, hr1588, hf⟩ := bd_some hf
    refine z_callW (wc := lcells g ad j1587_0.1) (ext := mcells g am j1587_0.2) (st := []) hG hZ (ct_L_best l hl g ad j1587_0.1 j1587_1 r1588 hr1588) ww_L_best wk_1028 ⟨rfl, rfl, Nat.le_of_ble_eq_true rfl, Nat.le_of_ble_eq_true rfl⟩ ⟨by omega, by omega⟩ rfl rfl (Nat.le_of_ble_eq_true rfl) rfl dL_law_1588 ?_
    refine (show V p l e room_1 s m args below meth c A Q g 8 (zcells g ad am (r1588.2, j1587_0.2)) (k + 1) (n + 6) 1591 [(0, .ref b), (1, .ref (ad 0)), (2, .ref (am 0)), (3, .ref (ad 73)), (4, .int i)] [.int r1588.1] from ?_)
    refine v_istore hG [(5, _), (0, _), (1, _), (2, _), (3, _), (4, _)] dL_law_1591 (by decide) rfl ?_
    refine v_aload_n hG 3 rfl rfl dL_law_1593 ?_
    refine v_aload_n hG 1 rfl rfl dL_law_1594 ?_
    refine v_iload hG 5 rfl dL_law_1595 ?_
    refine v_iconst hG (v := 1) (by decide) dL_law_1597 ?_
    refine v_iadd hG dL_law_1598 ?_
    refine v_sld hG hX h1 e1 dL_law_1599 ?_
    refine v_if_eq hG 1607 dL_law_1600 rfl hf (fun hf => ?_) (fun hf => ?_)
    · refine v_iconst hG (v := 0) (by decide) dL_law_1607 ?_
      refine v_sub [(0, _), (1, _), (2, _), (3, _), (4, _), (5, _)] [1, 2, 3, 4, 5, 0] rfl ?_
      exact j1608 (r1588.2, j1587_0.2) r1588.1 0 hf
    · refine v_iconst hG (v := 1) (by decide) dL_law_1603 ?_
      refine v_goto hG 1608 dL_law_1604 rfl ?_
      refine v_sub [(0, _), (1, _), (2, _), (3, _), (4, _), (5, _)] [1, 2, 3, 4, 5, 0] rfl ?_
      exact j1608 (r1588.2, j1587_0.2) r1588.1 1 hf
  refine v_aload_n hG 1 rfl rfl dL_law_1572 ?_
  refine v_aload_n hG 0 rfl rfl dL_law_1573 ?_
  refine v_iload hG 4 rfl dL_law_1574 ?_
  refine v_iconst hG (v := 1) (by decide) dL_law_1576 ?_
  refine v_iadd hG dL_law_1577 ?_
  refine v_sld hG hX h1 e1 dL_law_1578 ?_
  refine v_if_eq hG 1586 dL_law_1579 rfl hf (fun hf => ?_) (fun hf => ?_)
  · refine v_iconst hG (v := 0) (by decide) dL_law_1586 ?_
    exact j1587 w 0 hf
  · refine v_iconst hG (v := 1) (by decide) dL_law_1582 ?_
    refine v_goto hG 1587 dL_law_1583 rfl ?_
    exact j1587 w 1 hf
set_option maxRecDepth 100000 in
set_option maxHeartbeats 4000000 in
theorem lc_26 {p : Program} {l : Launch} {e : Env} {s : State} {m : MethodId} {args : Array Value} {below : List Frame} {meth : Method} {c : Code} {A : Nat → Prop} {Q : State → Prop} {g : wG} {ad am : Nat → Nat} {b L k n : Nat} {xs : Nat → Int32} (hl : l.stackTraces = false) (hG : vG p s m args meth c A g cL_law RL 8) (hZ : vZ s A) (hX : va_X b L xs s s.heap ∧ b < s.heap.size ∧ ¬ A b) (i x1 x2 x3 : Int32) (h1 : vp_in (i + 1) L) (h2 : vp_in (i + 2) L) (h3 : vp_in (i + 3) L) (e1 : xs (i + 1).toNatClampNeg = x1) (e2 : xs (i + 2).toNatClampNeg = x2) (e3 : xs (i + 3).toNatClampNeg = x3) (hk : k + 3 ≤ room_1.cells ∧ n + 18 ≤ room_1.slots) (w w' : ZW) (hf : law_C26 x1 x2 x3 w = some w') (kk : V p l e room_1 s m args below meth c A Q g 8 (zcells g ad am w') (k + 3) (n + 18) 1743 [(0, .ref b), (1, .ref (ad 0)), (2, .ref (am 0)), (3, .ref (ad 73)), (4, .int i)] []) : V p l e room_1 s m args below meth c A Q g 8 (zcells g ad am w) k n 1644 [(0, .ref b), (1, .ref (ad 0)), (2, .ref (am 0)), (3, .ref (ad 73)), (4, .int i)] [] := by
  obtain ⟨hk1, hk2⟩ := hk
  unfold law_C26 at hf
  refine v_aload_n hG 1 rfl rfl dL_law_1644 ?_
  refine v_aload_n hG 3 rfl rfl dL_law_1645 ?_
  obtain ⟨r1646, hr1646, hf⟩ := bd_some hf
  refine z_callW (wc := lcells g ad w.1) (ext := mcells g am w.2) (st := []) hG hZ (ct_L_bestValue l hl g ad w.1  r1646 hr1646) ww_L_bestValue wk_1041 ⟨rfl, rfl, Nat.le_of_ble_eq_true rfl, Nat.le_of_ble_eq_true rfl⟩ ⟨by omega, by omega⟩ rfl rfl (Nat.le_of_ble_eq_true rfl) rfl dL_law_1646 ?_
  refine (show V p l e room_1 s m args below meth c A Q g 8 (zcells g ad am (r1646.2, w.2)) (k + 1) (n + 6) 1649 [(0, .ref b), (1, .ref (ad 0)), (2, .ref (am 0)), (3, .ref (ad 73)), (4, .int i)] [.int r1646.1] from ?_)
  refine v_istore hG [(5, _), (0, _), (1, _), (2, _), (3, _), (4, _)] dL_law_1649 (by decide) rfl ?_
  refine v_aload_n hG 3 rfl rfl dL_law_1651 ?_
  obtain ⟨r1652, hr1652, hf⟩ := bd_some hf
  refine z_callM (lc := lcells g ad (r1646.2, w.2).1) (st := []) hG (ct_X9_bestValue l g am (r1646.2, w.2).2  r1652 hr1652) iw_X9_bestValue wk_1524 rfl ⟨rfl, rfl, Nat.le_of_ble_eq_true rfl, Nat.le_of_ble_eq_true rfl⟩ ⟨by omega, by omega⟩ rfl rfl (Nat.le_of_ble_eq_true rfl) dL_law_1652 ?_
  refine (show V p l e room_1 s m args below meth c A Q g 8 (zcells g ad am ((r1646.2, w.2).1, r1652.2)) (k + 1) (n + 6) 1655 [(5, .int r1646.1), (0, .ref b), (1, .ref (ad 0)), (2, .ref (am 0)), (3, .ref (ad 73)), (4, .int i)] [.long r1652.1] from ?_)
  refine v_lstore hG [(6, _), (5, _), (0, _), (1, _), (2, _), (3, _), (4, _)] dL_law_1655 (by decide) rfl ?_
  refine v_aload_n hG 4 rfl rfl dL_law_1657 ?_
  obtain ⟨r1658, hr1658, hf⟩ := bd_some hf
  refine z_callM (lc := lcells g ad ((r1646.2, w.2).1, r1652.2).1) (st := []) hG (ct_X9_thrown l g am ((r1646.2, w.2).1, r1652.2).2  r1658 hr1658) iw_X9_thrown wk_1197 rfl ⟨rfl, rfl, Nat.le_of_ble_eq_true rfl, Nat.le_of_ble_eq_true rfl⟩ ⟨by omega, by omega⟩ rfl rfl (Nat.le_of_ble_eq_true rfl) dL_law_1658 ?_
  refine (show V p l e room_1 s m args below meth c A Q g 8 (zcells g ad am ((r1646.2, w.2).1, r1652.2)) (k + 1) (n + 6) 1661 [(6, .long r1652.1), (5, .int r1646.1), (0, .ref b), (1, .ref (ad 0)), (2, .ref (am 0)), (3, .ref (ad 73)), (4, .int i)] [.int r1658] from ?_)
  refine v_iload hG 1 rfl dL_law_1661 ?_
  refine v_icmp_eq hG 1668 dL_law_1663 rfl hf (fun hf => ?_) (fun hf => ?_)
  · refine v_iload hG 1 rfl dL_law_1668 ?_
    refine v_if_ne hG 1684 dL_law_1670 rfl hf (fun hf => ?_) (fun hf => ?_)
    · refine v_goto hG 1743 dL_law_1684 rfl ?_
      cases hf
      refine v_widen (k9 := k + 3) (n9 := n + 18) ⟨by omega, by omega⟩ ?_
      refine v_sub [(0, _), (1, _), (2, _), (3, _), (4, _)] [2, 3, 4, 5, 6] rfl ?_
      exact kk
    · refine v_aload_n hG 5 rfl rfl dL_law_1673 ?_
      refine v_iconst hG (v := 0) (by decide) dL_law_1674 ?_
      refine z_l_out (w := ((r1646.2, w.2).1, r1652.2)) hG dL_law_1675 hf (fun hf => ?_)
      refine v_lload hG 0 rfl dL_law_1676 ?_
      refine v_lcmp_eq hG 1684 dL_law_1678 dL_law_1679 rfl hf (fun hf => ?_) (fun hf => ?_)
      · refine v_goto hG 1743 dL_law_1684 rfl ?_
        cases hf
        refine v_widen (k9 := k + 3) (n9 := n + 18) ⟨by omega, by omega⟩ ?_
        refine v_sub [(0, _), (1, _), (2, _), (3, _), (4, _)] [2, 3, 4, 5, 6] rfl ?_
        exact kk
      · refine v_iconst hG (v := 0) (by decide) dL_law_1682 ?_
        cases hf
  · refine v_iconst hG (v := 0) (by decide) dL_law_1666 ?_
    cases hf
set_option maxRecDepth 100000 in
set_option maxHeartbeats 4000000 in
theorem lc_27 {p : Program} {l : Launch} {e : Env} {s : State} {m : MethodId} {args : Array Value} {below : List Frame} {meth : Method} {c : Code} {A : Nat → Prop} {Q : State → Prop} {g : wG} {ad am : Nat → Nat} {b L k n : Nat} {xs : Nat → Int32} (hl : l.stackTraces = false) (hG : vG p s m args meth c A g cL_law RL 8) (hZ : vZ s A) (hX : va_X b L xs s s.heap ∧ b < s.heap.size ∧ ¬ A b) (i x1 x2 x3 : Int32) (h1 : vp_in (i + 1) L) (h2 : vp_in (i + 2) L) (h3 : vp_in (i + 3) L) (e1 : xs (i + 1).toNatClampNeg = x1) (e2 : xs (i + 2).toNatClampNeg = x2) (e3 : xs (i + 3).toNatClampNeg = x3) (hk : k + 3 ≤ room_1.cells ∧ n + 18 ≤ room_1.slots) (w w' : ZW) (hf : law_C27 x1 x2 x3 w = some w') (kk : V p l e room_1 s m args below meth c A Q g 8 (zcells g ad am w') (k + 3) (n + 18) 1743 [(0, .ref b), (1, .ref (ad 0)), (2, .ref (am 0)), (3, .ref (ad 73)), (4, .int i)] []) : V p l e room_1 s m args below meth c A Q g 8 (zcells g ad am w) k n 1687 [(0, .ref b), (1, .ref (ad 0)), (2, .ref (am 0)), (3, .ref (ad 73)), (4, .int i)] [] := by
  obtain ⟨hk1, hk2⟩ := hk
  unfold law_C27 at hf
  refine v_aload_n hG 1 rfl rfl dL_law_1687 ?_
  refine v_aload_n hG 0 rfl rfl dL_law_1688 ?_
  refine v_iload hG 4 rfl dL_law_1689 ?_
  refine v_iconst hG (v := 1) (by decide) dL_law_1691 ?_
  refine v_iadd hG dL_law_1692 ?_
  refine v_sld hG hX h1 e1 dL_law_1693 ?_
  refine v_aload_n hG 3 rfl rfl dL_law_1694 ?_
  obtain ⟨r1695, hr1695, hf⟩ := bd_some hf
  refine z_callW (wc := lcells g ad w.1) (ext := mcells g am w.2) (st := []) hG hZ (ct_L_bestAt l hl g ad w.1 x1 r1695 hr1695) ww_L_bestAt wk_1053 ⟨rfl, rfl, Nat.le_of_ble_eq_true rfl, Nat.le_of_ble_eq_true rfl⟩ ⟨by omega, by omega⟩ rfl rfl (Nat.le_of_ble_eq_true rfl) rfl dL_law_1695 ?_
  refine (show V p l e room_1 s m args below meth c A Q g 8 (zcells g ad am (r1695.2, w.2)) (k + 2) (n + 12) 1698 [(0, .ref b), (1, .ref (ad 0)), (2, .ref (am 0)), (3, .ref (ad 73)), (4, .int i)] [.int r1695.1] from ?_)
  refine v_istore hG [(5, _), (0, _), (1, _), (2, _), (3, _), (4, _)] dL_law_1698 (by decide) rfl ?_
  refine v_aload_n hG 3 rfl rfl dL_law_1700 ?_
  refine v_aload_n hG 1 rfl rfl dL_law_1701 ?_
  refine v_iload hG 5 rfl dL_law_1702 ?_
  refine v_iconst hG (v := 1) (by decide) dL_law_1704 ?_
  refine v_iadd hG dL_law_1705 ?_
  refine v_sld hG hX h1 e1 dL_law_1706 ?_
  obtain ⟨r1707, hr1707, hf⟩ := bd_some hf
  refine z_callM (lc := lcells g ad (r1695.2, w.2).1) (st := []) hG (ct_X9_bestAt l g am (r1695.2, w.2).2 x1 r1707 hr1707) iw_X9_bestAt wk_1528 rfl ⟨rfl, rfl, Nat.le_of_ble_eq_true rfl, Nat.le_of_ble_eq_true rfl⟩ ⟨by omega, by omega⟩ rfl rfl (Nat.le_of_ble_eq_true rfl) dL_law_1707 ?_
  refine (show V p l e room_1 s m args below meth c A Q g 8 (zcells g ad am ((r1695.2, w.2).1, r1707.2)) (k + 2) (n + 12) 1710 [(5, .int r1695.1), (0, .ref b), (1, .ref (ad 0)), (2, .ref (am 0)), (3, .ref (ad 73)), (4, .int i)] [.int r1707.1] from ?_)
  refine v_istore hG [(6, _), (5, _), (0, _), (1, _), (2, _), (3, _), (4, _)] dL_law_1710 (by decide) rfl ?_
  refine v_aload_n hG 4 rfl rfl dL_law_1712 ?_
  obtain ⟨r1713, hr1713, hf⟩ := bd_some hf
  refine z_callM (lc := lcells g ad ((r1695.2, w.2).1, r1707.2).1) (st := []) hG (ct_X9_thrown l g am ((r1695.2, w.2).1, r1707.2).2  r1713 hr1713) iw_X9_thrown wk_1197 rfl ⟨rfl, rfl, Nat.le_of_ble_eq_true rfl, Nat.le_of_ble_eq_true rfl⟩ ⟨by omega, by omega⟩ rfl rfl (Nat.le_of_ble_eq_true rfl) dL_law_1713 ?_
  refine (show V p l e room_1 s m args below meth c A Q g 8 (zcells g ad am ((r1695.2, w.2).1, r1707.2)) (k + 2) (n + 12) 1716 [(6, .int r1707.1), (5, .int r1695.1), (0, .ref b), (1, .ref (ad 0)), (2, .ref (am 0)), (3, .ref (ad 73)), (4, .int i)] [.int r1713] from ?_)
  refine v_iload hG 1 rfl dL_law_1716 ?_
  refine v_icmp_eq hG 1723 dL_law_1718 rfl hf (fun hf => ?_) (fun hf => ?_)
  · refine v_iload hG 1 rfl dL_law_1723 ?_
    refine v_if_ne hG 1740 dL_law_1725 rfl hf (fun hf => ?_) (fun hf => ?_)
    · refine v_goto hG 1743 dL_law_1740 rfl ?_
      cases hf
      refine v_widen (k9 := k + 3) (n9 := n + 18) ⟨by omega, by omega⟩ ?_
      refine v_sub [(0, _), (1, _), (2, _), (3, _), (4, _)] [2, 3, 4, 5, 6] rfl ?_
      exact kk
    · refine v_aload_n hG 5 rfl rfl dL_law_1728 ?_
      refine v_iconst hG (v := 0) (by decide) dL_law_1729 ?_
      refine z_l_out (w := ((r1695.2, w.2).1, r1707.2)) hG dL_law_1730 hf (fun hf => ?_)
      refine v_iload hG 0 rfl dL_law_1731 ?_
      refine v_i2l hG dL_law_1733 ?_
      refine v_lcmp_eq hG 1740 dL_law_1734 dL_law_1735 rfl hf (fun hf => ?_) (fun hf => ?_)
      · refine v_goto hG 1743 dL_law_1740 rfl ?_
        cases hf
        refine v_widen (k9 := k + 3) (n9 := n + 18) ⟨by omega, by omega⟩ ?_
        refine v_sub [(0, _), (1, _), (2, _), (3, _), (4, _)] [2, 3, 4, 5, 6] rfl ?_
        exact kk
      · refine v_iconst hG (v := 0) (by decide) dL_law_1738 ?_
        cases hf
  · refine v_iconst hG (v := 0) (by decide) dL_law_1721 ?_
    cases hf
