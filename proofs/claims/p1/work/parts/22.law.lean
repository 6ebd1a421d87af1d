abbrev b_Law_law : ByteArray := code
theorem kw_1_0 : (Jvm.Cond.initialized "LeafMatchesLaw") ∈ wA := ku_1 0 rfl rfl
theorem kw_1_24 : (Jvm.Cond.classLink "LeafMatchesLaw" (8 : Nat) "LeafMatches") ∈ wA := ku_1 24 rfl rfl
theorem kw_1_25 : (Jvm.Cond.instantiable "LeafMatches" (6 : Nat)) ∈ wA := ku_1 25 rfl rfl
theorem kw_1_26 : (Jvm.Cond.methodLink "LeafMatchesLaw" (71 : Nat) ({ cls := "LeafMatches", name := "<init>", desc := "()V" } : Jvm.MethodName)) ∈ wA := ku_1 26 rfl rfl
theorem kw_1_27 : (Jvm.Cond.instanceMethod ({ cls := "LeafMatches", name := "<init>", desc := "()V" } : Jvm.MethodName)) ∈ wA := ku_1 27 rfl rfl
theorem kw_1_28 : (Jvm.Cond.code ({ cls := "LeafMatches", name := "<init>", desc := "()V" } : Jvm.MethodName) prog_1_method_1_code (1 : Nat) (Option.none : Option Jvm.ClassFile.FieldType)) ∈ wA := ku_1 28 rfl rfl
theorem kw_1_94 : (Jvm.Cond.methodLink "LeafMatchesLaw" (127 : Nat) ({ cls := "LeafMatches", name := "clear", desc := "()I" } : Jvm.MethodName)) ∈ wA := ku_1 94 rfl rfl
theorem kw_1_95 : (Jvm.Cond.instanceMethod ({ cls := "LeafMatches", name := "clear", desc := "()I" } : Jvm.MethodName)) ∈ wA := ku_1 95 rfl rfl
theorem kw_1_96 : (Jvm.Cond.selects "LeafMatches" ({ cls := "LeafMatches", name := "clear", desc := "()I" } : Jvm.MethodName) ({ cls := "LeafMatches", name := "clear", desc := "()I" } : Jvm.MethodName)) ∈ wA := ku_1 96 rfl rfl
theorem kw_1_97 : (Jvm.Cond.code ({ cls := "LeafMatches", name := "clear", desc := "()I" } : Jvm.MethodName) prog_1_method_16_code (2 : Nat) (Option.some Jvm.ClassFile.FieldType.int)) ∈ wA := ku_1 97 rfl rfl
theorem kw_1_102 : (Jvm.Cond.methodLink "LeafMatchesLaw" (75 : Nat) ({ cls := "LeafMatchesLaw", name := "leaf", desc := "(LLeafMatches;IIII[J)I" } : Jvm.MethodName)) ∈ wA := ku_1 102 rfl rfl
theorem kw_1_103 : (Jvm.Cond.static ({ cls := "LeafMatchesLaw", name := "leaf", desc := "(LLeafMatches;IIII[J)I" } : Jvm.MethodName)) ∈ wA := ku_1 103 rfl rfl
theorem kw_1_104 : (Jvm.Cond.codeWith ({ cls := "LeafMatchesLaw", name := "leaf", desc := "(LLeafMatches;IIII[J)I" } : Jvm.MethodName) method_3_code (7 : Nat) (Option.some Jvm.ClassFile.FieldType.int) [((0 : Nat), (14 : Nat), (17 : Nat), (13 : Nat)), ((0 : Nat), (14 : Nat), (21 : Nat), (15 : Nat))]) ∈ wA := ku_1 104 rfl rfl
theorem kw_2_10 : (Jvm.Cond.methodLink "LeafMatchesLaw" (85 : Nat) ({ cls := "LeafMatchesLaw", name := "pixel", desc := "(LLeafMatches;IIII[J)I" } : Jvm.MethodName)) ∈ wA := ku_2 10 rfl rfl
theorem kw_2_11 : (Jvm.Cond.static ({ cls := "LeafMatchesLaw", name := "pixel", desc := "(LLeafMatches;IIII[J)I" } : Jvm.MethodName)) ∈ wA := ku_2 11 rfl rfl
theorem kw_2_12 : (Jvm.Cond.codeWith ({ cls := "LeafMatchesLaw", name := "pixel", desc := "(LLeafMatches;IIII[J)I" } : Jvm.MethodName) method_4_code (7 : Nat) (Option.some Jvm.ClassFile.FieldType.int) [((0 : Nat), (21 : Nat), (24 : Nat), (21 : Nat)), ((0 : Nat), (21 : Nat), (28 : Nat), (15 : Nat))]) ∈ wA := ku_2 12 rfl rfl
theorem kw_2_47 : (Jvm.Cond.methodLink "LeafMatchesLaw" (88 : Nat) ({ cls := "LeafMatchesLaw", name := "reserve", desc := "(LLeafMatches;II[J)I" } : Jvm.MethodName)) ∈ wA := ku_2 47 rfl rfl
theorem kw_2_48 : (Jvm.Cond.static ({ cls := "LeafMatchesLaw", name := "reserve", desc := "(LLeafMatches;II[J)I" } : Jvm.MethodName)) ∈ wA := ku_2 48 rfl rfl
theorem kw_2_49 : (Jvm.Cond.codeWith ({ cls := "LeafMatchesLaw", name := "reserve", desc := "(LLeafMatches;II[J)I" } : Jvm.MethodName) method_5_code (5 : Nat) (Option.some Jvm.ClassFile.FieldType.int) [((0 : Nat), (17 : Nat), (20 : Nat), (21 : Nat)), ((0 : Nat), (17 : Nat), (24 : Nat), (13 : Nat)), ((0 : Nat), (17 : Nat), (28 : Nat), (15 : Nat))]) ∈ wA := ku_2 49 rfl rfl
theorem kw_2_57 : (Jvm.Cond.methodLink "LeafMatchesLaw" (92 : Nat) ({ cls := "LeafMatchesLaw", name := "match", desc := "(LLeafMatches;II[J)I" } : Jvm.MethodName)) ∈ wA := ku_2 57 rfl rfl
theorem kw_2_58 : (Jvm.Cond.static ({ cls := "LeafMatchesLaw", name := "match", desc := "(LLeafMatches;II[J)I" } : Jvm.MethodName)) ∈ wA := ku_2 58 rfl rfl
theorem kw_2_59 : (Jvm.Cond.codeWith ({ cls := "LeafMatchesLaw", name := "match", desc := "(LLeafMatches;II[J)I" } : Jvm.MethodName) method_6_code (5 : Nat) (Option.some Jvm.ClassFile.FieldType.int) [((0 : Nat), (10 : Nat), (13 : Nat), (13 : Nat)), ((0 : Nat), (10 : Nat), (17 : Nat), (15 : Nat))]) ∈ wA := ku_2 59 rfl rfl
theorem kw_2_141 : (Jvm.Cond.methodLink "LeafMatchesLaw" (95 : Nat) ({ cls := "LeafMatchesLaw", name := "apart", desc := "(LLeafMatches;I[J)I" } : Jvm.MethodName)) ∈ wA := ku_2 141 rfl rfl
theorem kw_2_142 : (Jvm.Cond.static ({ cls := "LeafMatchesLaw", name := "apart", desc := "(LLeafMatches;I[J)I" } : Jvm.MethodName)) ∈ wA := ku_2 142 rfl rfl
theorem kw_2_143 : (Jvm.Cond.codeWith ({ cls := "LeafMatchesLaw", name := "apart", desc := "(LLeafMatches;I[J)I" } : Jvm.MethodName) method_7_code (4 : Nat) (Option.some Jvm.ClassFile.FieldType.int) [((0 : Nat), (9 : Nat), (12 : Nat), (21 : Nat))]) ∈ wA := ku_2 143 rfl rfl
theorem kw_2_153 : (Jvm.Cond.methodLink "LeafMatchesLaw" (99 : Nat) ({ cls := "LeafMatchesLaw", name := "place", desc := "(LLeafMatches;III[J)I" } : Jvm.MethodName)) ∈ wA := ku_2 153 rfl rfl
theorem kw_2_154 : (Jvm.Cond.static ({ cls := "LeafMatchesLaw", name := "place", desc := "(LLeafMatches;III[J)I" } : Jvm.MethodName)) ∈ wA := ku_2 154 rfl rfl
theorem kw_2_155 : (Jvm.Cond.codeWith ({ cls := "LeafMatchesLaw", name := "place", desc := "(LLeafMatches;III[J)I" } : Jvm.MethodName) method_8_code (6 : Nat) (Option.some Jvm.ClassFile.FieldType.int) [((0 : Nat), (12 : Nat), (15 : Nat), (21 : Nat)), ((0 : Nat), (12 : Nat), (19 : Nat), (15 : Nat))]) ∈ wA := ku_2 155 rfl rfl
theorem kw_2_201 : (Jvm.Cond.methodLink "LeafMatchesLaw" (103 : Nat) ({ cls := "LeafMatchesLaw", name := "at", desc := "(LLeafMatches;III[J)I" } : Jvm.MethodName)) ∈ wA := ku_2 201 rfl rfl
theorem kw_2_202 : (Jvm.Cond.static ({ cls := "LeafMatchesLaw", name := "at", desc := "(LLeafMatches;III[J)I" } : Jvm.MethodName)) ∈ wA := ku_2 202 rfl rfl
theorem kw_2_203 : (Jvm.Cond.codeWith ({ cls := "LeafMatchesLaw", name := "at", desc := "(LLeafMatches;III[J)I" } : Jvm.MethodName) method_9_code (6 : Nat) (Option.some Jvm.ClassFile.FieldType.int) [((0 : Nat), (12 : Nat), (15 : Nat), (21 : Nat))]) ∈ wA := ku_2 203 rfl rfl
theorem kw_2_219 : (Jvm.Cond.methodLink "LeafMatchesLaw" (106 : Nat) ({ cls := "LeafMatchesLaw", name := "about", desc := "(LLeafMatches;II[J)I" } : Jvm.MethodName)) ∈ wA := ku_2 219 rfl rfl
theorem kw_2_220 : (Jvm.Cond.static ({ cls := "LeafMatchesLaw", name := "about", desc := "(LLeafMatches;II[J)I" } : Jvm.MethodName)) ∈ wA := ku_2 220 rfl rfl
theorem kw_2_221 : (Jvm.Cond.codeWith ({ cls := "LeafMatchesLaw", name := "about", desc := "(LLeafMatches;II[J)I" } : Jvm.MethodName) method_10_code (5 : Nat) (Option.some Jvm.ClassFile.FieldType.int) [((0 : Nat), (10 : Nat), (13 : Nat), (21 : Nat)), ((0 : Nat), (10 : Nat), (17 : Nat), (15 : Nat))]) ∈ wA := ku_2 221 rfl rfl
theorem kw_2_239 : (Jvm.Cond.methodLink "LeafMatchesLaw" (109 : Nat) ({ cls := "LeafMatchesLaw", name := "seam", desc := "(LLeafMatches;II[J)I" } : Jvm.MethodName)) ∈ wA := ku_2 239 rfl rfl
theorem kw_3_0 : (Jvm.Cond.static ({ cls := "LeafMatchesLaw", name := "seam", desc := "(LLeafMatches;II[J)I" } : Jvm.MethodName)) ∈ wA := ku_3 0 rfl rfl
theorem kw_3_1 : (Jvm.Cond.codeWith ({ cls := "LeafMatchesLaw", name := "seam", desc := "(LLeafMatches;II[J)I" } : Jvm.MethodName) method_11_code (5 : Nat) (Option.some Jvm.ClassFile.FieldType.int) [((0 : Nat), (10 : Nat), (13 : Nat), (21 : Nat))]) ∈ wA := ku_3 1 rfl rfl
theorem kw_3_12 : (Jvm.Cond.methodLink "LeafMatchesLaw" (112 : Nat) ({ cls := "LeafMatchesLaw", name := "sum", desc := "(LLeafMatches;III[J)I" } : Jvm.MethodName)) ∈ wA := ku_3 12 rfl rfl
theorem kw_3_13 : (Jvm.Cond.static ({ cls := "LeafMatchesLaw", name := "sum", desc := "(LLeafMatches;III[J)I" } : Jvm.MethodName)) ∈ wA := ku_3 13 rfl rfl
theorem kw_3_14 : (Jvm.Cond.codeWith ({ cls := "LeafMatchesLaw", name := "sum", desc := "(LLeafMatches;III[J)I" } : Jvm.MethodName) method_12_code (6 : Nat) (Option.some Jvm.ClassFile.FieldType.int) [((0 : Nat), (11 : Nat), (14 : Nat), (21 : Nat)), ((0 : Nat), (11 : Nat), (18 : Nat), (15 : Nat))]) ∈ wA := ku_3 14 rfl rfl
theorem kw_3_21 : (Jvm.Cond.methodLink "LeafMatchesLaw" (115 : Nat) ({ cls := "LeafMatchesLaw", name := "mirrored", desc := "(LLeafMatches;II[J)I" } : Jvm.MethodName)) ∈ wA := ku_3 21 rfl rfl
theorem kw_3_22 : (Jvm.Cond.static ({ cls := "LeafMatchesLaw", name := "mirrored", desc := "(LLeafMatches;II[J)I" } : Jvm.MethodName)) ∈ wA := ku_3 22 rfl rfl
theorem kw_3_23 : (Jvm.Cond.codeWith ({ cls := "LeafMatchesLaw", name := "mirrored", desc := "(LLeafMatches;II[J)I" } : Jvm.MethodName) method_13_code (5 : Nat) (Option.some Jvm.ClassFile.FieldType.int) [((0 : Nat), (17 : Nat), (20 : Nat), (21 : Nat))]) ∈ wA := ku_3 23 rfl rfl
theorem kw_3_28 : (Jvm.Cond.methodLink "LeafMatchesLaw" (118 : Nat) ({ cls := "LeafMatchesLaw", name := "balance", desc := "(LLeafMatches;I[J)I" } : Jvm.MethodName)) ∈ wA := ku_3 28 rfl rfl
theorem kw_3_29 : (Jvm.Cond.static ({ cls := "LeafMatchesLaw", name := "balance", desc := "(LLeafMatches;I[J)I" } : Jvm.MethodName)) ∈ wA := ku_3 29 rfl rfl
theorem kw_3_30 : (Jvm.Cond.codeWith ({ cls := "LeafMatchesLaw", name := "balance", desc := "(LLeafMatches;I[J)I" } : Jvm.MethodName) method_14_code (4 : Nat) (Option.some Jvm.ClassFile.FieldType.int) [((0 : Nat), (16 : Nat), (19 : Nat), (21 : Nat))]) ∈ wA := ku_3 30 rfl rfl
theorem kw_3_40 : (Jvm.Cond.methodLink "LeafMatchesLaw" (121 : Nat) ({ cls := "LeafMatchesLaw", name := "number", desc := "(LLeafMatches;III[J)I" } : Jvm.MethodName)) ∈ wA := ku_3 40 rfl rfl
theorem kw_3_41 : (Jvm.Cond.static ({ cls := "LeafMatchesLaw", name := "number", desc := "(LLeafMatches;III[J)I" } : Jvm.MethodName)) ∈ wA := ku_3 41 rfl rfl
theorem kw_3_42 : (Jvm.Cond.codeWith ({ cls := "LeafMatchesLaw", name := "number", desc := "(LLeafMatches;III[J)I" } : Jvm.MethodName) method_15_code (6 : Nat) (Option.some Jvm.ClassFile.FieldType.int) [((0 : Nat), (12 : Nat), (15 : Nat), (21 : Nat)), ((0 : Nat), (12 : Nat), (19 : Nat), (15 : Nat))]) ∈ wA := ku_3 42 rfl rfl
theorem kw_4_3 : (Jvm.Cond.methodLink "LeafMatchesLaw" (124 : Nat) ({ cls := "LeafMatchesLaw", name := "want", desc := "(LLeafMatches;I[J)I" } : Jvm.MethodName)) ∈ wA := ku_4 3 rfl rfl
theorem kw_4_4 : (Jvm.Cond.static ({ cls := "LeafMatchesLaw", name := "want", desc := "(LLeafMatches;I[J)I" } : Jvm.MethodName)) ∈ wA := ku_4 4 rfl rfl
theorem kw_4_5 : (Jvm.Cond.codeWith ({ cls := "LeafMatchesLaw", name := "want", desc := "(LLeafMatches;I[J)I" } : Jvm.MethodName) method_16_code (4 : Nat) (Option.some Jvm.ClassFile.FieldType.int) [((0 : Nat), (9 : Nat), (12 : Nat), (13 : Nat)), ((0 : Nat), (9 : Nat), (15 : Nat), (15 : Nat))]) ∈ wA := ku_4 5 rfl rfl
theorem kw_4_16 : (Jvm.Cond.methodLink "LeafMatchesLaw" (131 : Nat) ({ cls := "LeafMatchesLaw", name := "faces", desc := "(LLeafMatches;I[J)I" } : Jvm.MethodName)) ∈ wA := ku_4 16 rfl rfl
theorem kw_4_17 : (Jvm.Cond.static ({ cls := "LeafMatchesLaw", name := "faces", desc := "(LLeafMatches;I[J)I" } : Jvm.MethodName)) ∈ wA := ku_4 17 rfl rfl
theorem kw_4_18 : (Jvm.Cond.codeWith ({ cls := "LeafMatchesLaw", name := "faces", desc := "(LLeafMatches;I[J)I" } : Jvm.MethodName) method_17_code (4 : Nat) (Option.some Jvm.ClassFile.FieldType.int) [((0 : Nat), (9 : Nat), (12 : Nat), (15 : Nat))]) ∈ wA := ku_4 18 rfl rfl
theorem kw_4_63 : (Jvm.Cond.methodLink "LeafMatchesLaw" (134 : Nat) ({ cls := "LeafMatchesLaw", name := "planned", desc := "(LLeafMatches;II[J)I" } : Jvm.MethodName)) ∈ wA := ku_4 63 rfl rfl
theorem kw_4_64 : (Jvm.Cond.static ({ cls := "LeafMatchesLaw", name := "planned", desc := "(LLeafMatches;II[J)I" } : Jvm.MethodName)) ∈ wA := ku_4 64 rfl rfl
theorem kw_4_65 : (Jvm.Cond.codeWith ({ cls := "LeafMatchesLaw", name := "planned", desc := "(LLeafMatches;II[J)I" } : Jvm.MethodName) method_18_code (5 : Nat) (Option.some Jvm.ClassFile.FieldType.int) [((0 : Nat), (10 : Nat), (13 : Nat), (13 : Nat)), ((0 : Nat), (10 : Nat), (17 : Nat), (21 : Nat)), ((0 : Nat), (10 : Nat), (21 : Nat), (15 : Nat))]) ∈ wA := ku_4 65 rfl rfl
theorem kw_4_73 : (Jvm.Cond.classLink "LeafMatchesLaw" (72 : Nat) "LeafMatchesModel") ∈ wA := ku_4 73 rfl rfl
theorem kw_4_74 : (Jvm.Cond.instantiable "LeafMatchesModel" (22 : Nat)) ∈ wA := ku_4 74 rfl rfl
theorem kw_4_75 : (Jvm.Cond.methodLink "LeafMatchesLaw" (74 : Nat) ({ cls := "LeafMatchesModel", name := "<init>", desc := "()V" } : Jvm.MethodName)) ∈ wA := ku_4 75 rfl rfl
theorem kw_4_76 : (Jvm.Cond.instanceMethod ({ cls := "LeafMatchesModel", name := "<init>", desc := "()V" } : Jvm.MethodName)) ∈ wA := ku_4 76 rfl rfl
theorem kw_4_77 : (Jvm.Cond.code ({ cls := "LeafMatchesModel", name := "<init>", desc := "()V" } : Jvm.MethodName) prog_7_method_1_code (1 : Nat) (Option.none : Option Jvm.ClassFile.FieldType)) ∈ wA := ku_4 77 rfl rfl
theorem kw_4_147 : (Jvm.Cond.methodLink "LeafMatchesLaw" (81 : Nat) ({ cls := "LeafMatchesModel", name := "thrown", desc := "()I" } : Jvm.MethodName)) ∈ wA := ku_4 147 rfl rfl
theorem kw_4_148 : (Jvm.Cond.instanceMethod ({ cls := "LeafMatchesModel", name := "thrown", desc := "()I" } : Jvm.MethodName)) ∈ wA := ku_4 148 rfl rfl
theorem kw_4_149 : (Jvm.Cond.selects "LeafMatchesModel" ({ cls := "LeafMatchesModel", name := "thrown", desc := "()I" } : Jvm.MethodName) ({ cls := "LeafMatchesModel", name := "thrown", desc := "()I" } : Jvm.MethodName)) ∈ wA := ku_4 149 rfl rfl
theorem kw_4_150 : (Jvm.Cond.code ({ cls := "LeafMatchesModel", name := "thrown", desc := "()I" } : Jvm.MethodName) prog_7_method_2_code (1 : Nat) (Option.some Jvm.ClassFile.FieldType.int)) ∈ wA := ku_4 150 rfl rfl
theorem kw_4_151 : (Jvm.Cond.methodLink "LeafMatchesLaw" (80 : Nat) ({ cls := "LeafMatchesModel", name := "leaf", desc := "(IIII)I" } : Jvm.MethodName)) ∈ wA := ku_4 151 rfl rfl
theorem kw_4_152 : (Jvm.Cond.instanceMethod ({ cls := "LeafMatchesModel", name := "leaf", desc := "(IIII)I" } : Jvm.MethodName)) ∈ wA := ku_4 152 rfl rfl
theorem kw_4_153 : (Jvm.Cond.selects "LeafMatchesModel" ({ cls := "LeafMatchesModel", name := "leaf", desc := "(IIII)I" } : Jvm.MethodName) ({ cls := "LeafMatchesModel", name := "leaf", desc := "(IIII)I" } : Jvm.MethodName)) ∈ wA := ku_4 153 rfl rfl
theorem kw_4_154 : (Jvm.Cond.code ({ cls := "LeafMatchesModel", name := "leaf", desc := "(IIII)I" } : Jvm.MethodName) prog_7_method_4_code (7 : Nat) (Option.some Jvm.ClassFile.FieldType.int)) ∈ wA := ku_4 154 rfl rfl
theorem kw_4_158 : (Jvm.Cond.methodLink "LeafMatchesLaw" (87 : Nat) ({ cls := "LeafMatchesModel", name := "pixel", desc := "(IIII)Z" } : Jvm.MethodName)) ∈ wA := ku_4 158 rfl rfl
theorem kw_4_159 : (Jvm.Cond.instanceMethod ({ cls := "LeafMatchesModel", name := "pixel", desc := "(IIII)Z" } : Jvm.MethodName)) ∈ wA := ku_4 159 rfl rfl
theorem kw_4_160 : (Jvm.Cond.selects "LeafMatchesModel" ({ cls := "LeafMatchesModel", name := "pixel", desc := "(IIII)Z" } : Jvm.MethodName) ({ cls := "LeafMatchesModel", name := "pixel", desc := "(IIII)Z" } : Jvm.MethodName)) ∈ wA := ku_4 160 rfl rfl
theorem kw_4_161 : (Jvm.Cond.code ({ cls := "LeafMatchesModel", name := "pixel", desc := "(IIII)Z" } : Jvm.MethodName) prog_7_method_5_code (6 : Nat) (Option.some Jvm.ClassFile.FieldType.boolean)) ∈ wA := ku_4 161 rfl rfl
theorem kw_4_162 : (Jvm.Cond.methodLink "LeafMatchesLaw" (91 : Nat) ({ cls := "LeafMatchesModel", name := "reserve", desc := "(II)Z" } : Jvm.MethodName)) ∈ wA := ku_4 162 rfl rfl
theorem kw_4_163 : (Jvm.Cond.instanceMethod ({ cls := "LeafMatchesModel", name := "reserve", desc := "(II)Z" } : Jvm.MethodName)) ∈ wA := ku_4 163 rfl rfl
theorem kw_4_164 : (Jvm.Cond.selects "LeafMatchesModel" ({ cls := "LeafMatchesModel", name := "reserve", desc := "(II)Z" } : Jvm.MethodName) ({ cls := "LeafMatchesModel", name := "reserve", desc := "(II)Z" } : Jvm.MethodName)) ∈ wA := ku_4 164 rfl rfl
theorem kw_4_165 : (Jvm.Cond.code ({ cls := "LeafMatchesModel", name := "reserve", desc := "(II)Z" } : Jvm.MethodName) prog_7_method_6_code (4 : Nat) (Option.some Jvm.ClassFile.FieldType.boolean)) ∈ wA := ku_4 165 rfl rfl
theorem kw_4_166 : (Jvm.Cond.methodLink "LeafMatchesLaw" (94 : Nat) ({ cls := "LeafMatchesModel", name := "match", desc := "(II)I" } : Jvm.MethodName)) ∈ wA := ku_4 166 rfl rfl
theorem kw_4_167 : (Jvm.Cond.instanceMethod ({ cls := "LeafMatchesModel", name := "match", desc := "(II)I" } : Jvm.MethodName)) ∈ wA := ku_4 167 rfl rfl
theorem kw_4_168 : (Jvm.Cond.selects "LeafMatchesModel" ({ cls := "LeafMatchesModel", name := "match", desc := "(II)I" } : Jvm.MethodName) ({ cls := "LeafMatchesModel", name := "match", desc := "(II)I" } : Jvm.MethodName)) ∈ wA := ku_4 168 rfl rfl
theorem kw_4_169 : (Jvm.Cond.code ({ cls := "LeafMatchesModel", name := "match", desc := "(II)I" } : Jvm.MethodName) prog_7_method_8_code (7 : Nat) (Option.some Jvm.ClassFile.FieldType.int)) ∈ wA := ku_4 169 rfl rfl
theorem kw_4_174 : (Jvm.Cond.methodLink "LeafMatchesLaw" (98 : Nat) ({ cls := "LeafMatchesModel", name := "apart", desc := "(I)I" } : Jvm.MethodName)) ∈ wA := ku_4 174 rfl rfl
theorem kw_4_175 : (Jvm.Cond.instanceMethod ({ cls := "LeafMatchesModel", name := "apart", desc := "(I)I" } : Jvm.MethodName)) ∈ wA := ku_4 175 rfl rfl
theorem kw_4_176 : (Jvm.Cond.selects "LeafMatchesModel" ({ cls := "LeafMatchesModel", name := "apart", desc := "(I)I" } : Jvm.MethodName) ({ cls := "LeafMatchesModel", name := "apart", desc := "(I)I" } : Jvm.MethodName)) ∈ wA := ku_4 176 rfl rfl
theorem kw_4_177 : (Jvm.Cond.code ({ cls := "LeafMatchesModel", name := "apart", desc := "(I)I" } : Jvm.MethodName) prog_7_method_10_code (4 : Nat) (Option.some Jvm.ClassFile.FieldType.int)) ∈ wA := ku_4 177 rfl rfl
theorem kw_4_182 : (Jvm.Cond.methodLink "LeafMatchesLaw" (102 : Nat) ({ cls := "LeafMatchesModel", name := "place", desc := "(III)I" } : Jvm.MethodName)) ∈ wA := ku_4 182 rfl rfl
theorem kw_4_183 : (Jvm.Cond.instanceMethod ({ cls := "LeafMatchesModel", name := "place", desc := "(III)I" } : Jvm.MethodName)) ∈ wA := ku_4 183 rfl rfl
theorem kw_4_184 : (Jvm.Cond.selects "LeafMatchesModel" ({ cls := "LeafMatchesModel", name := "place", desc := "(III)I" } : Jvm.MethodName) ({ cls := "LeafMatchesModel", name := "place", desc := "(III)I" } : Jvm.MethodName)) ∈ wA := ku_4 184 rfl rfl
theorem kw_4_185 : (Jvm.Cond.code ({ cls := "LeafMatchesModel", name := "place", desc := "(III)I" } : Jvm.MethodName) prog_7_method_24_code (4 : Nat) (Option.some Jvm.ClassFile.FieldType.int)) ∈ wA := ku_4 185 rfl rfl
theorem kw_4_230 : (Jvm.Cond.methodLink "LeafMatchesLaw" (105 : Nat) ({ cls := "LeafMatchesModel", name := "at", desc := "(III)I" } : Jvm.MethodName)) ∈ wA := ku_4 230 rfl rfl
theorem kw_4_231 : (Jvm.Cond.instanceMethod ({ cls := "LeafMatchesModel", name := "at", desc := "(III)I" } : Jvm.MethodName)) ∈ wA := ku_4 231 rfl rfl
theorem kw_4_232 : (Jvm.Cond.selects "LeafMatchesModel" ({ cls := "LeafMatchesModel", name := "at", desc := "(III)I" } : Jvm.MethodName) ({ cls := "LeafMatchesModel", name := "at", desc := "(III)I" } : Jvm.MethodName)) ∈ wA := ku_4 232 rfl rfl
theorem kw_4_233 : (Jvm.Cond.code ({ cls := "LeafMatchesModel", name := "at", desc := "(III)I" } : Jvm.MethodName) prog_7_method_25_code (11 : Nat) (Option.some Jvm.ClassFile.FieldType.int)) ∈ wA := ku_4 233 rfl rfl
theorem kw_4_238 : (Jvm.Cond.methodLink "LeafMatchesLaw" (108 : Nat) ({ cls := "LeafMatchesModel", name := "about", desc := "(II)I" } : Jvm.MethodName)) ∈ wA := ku_4 238 rfl rfl
theorem kw_4_239 : (Jvm.Cond.instanceMethod ({ cls := "LeafMatchesModel", name := "about", desc := "(II)I" } : Jvm.MethodName)) ∈ wA := ku_4 239 rfl rfl
theorem kw_5_0 : (Jvm.Cond.selects "LeafMatchesModel" ({ cls := "LeafMatchesModel", name := "about", desc := "(II)I" } : Jvm.MethodName) ({ cls := "LeafMatchesModel", name := "about", desc := "(II)I" } : Jvm.MethodName)) ∈ wA := ku_5 0 rfl rfl
theorem kw_5_1 : (Jvm.Cond.code ({ cls := "LeafMatchesModel", name := "about", desc := "(II)I" } : Jvm.MethodName) prog_7_method_27_code (6 : Nat) (Option.some Jvm.ClassFile.FieldType.int)) ∈ wA := ku_5 1 rfl rfl
theorem kw_5_7 : (Jvm.Cond.methodLink "LeafMatchesLaw" (111 : Nat) ({ cls := "LeafMatchesModel", name := "seam", desc := "(II)I" } : Jvm.MethodName)) ∈ wA := ku_5 7 rfl rfl
theorem kw_5_8 : (Jvm.Cond.instanceMethod ({ cls := "LeafMatchesModel", name := "seam", desc := "(II)I" } : Jvm.MethodName)) ∈ wA := ku_5 8 rfl rfl
theorem kw_5_9 : (Jvm.Cond.selects "LeafMatchesModel" ({ cls := "LeafMatchesModel", name := "seam", desc := "(II)I" } : Jvm.MethodName) ({ cls := "LeafMatchesModel", name := "seam", desc := "(II)I" } : Jvm.MethodName)) ∈ wA := ku_5 9 rfl rfl
theorem kw_5_10 : (Jvm.Cond.code ({ cls := "LeafMatchesModel", name := "seam", desc := "(II)I" } : Jvm.MethodName) prog_7_method_29_code (3 : Nat) (Option.some Jvm.ClassFile.FieldType.int)) ∈ wA := ku_5 10 rfl rfl
theorem kw_5_19 : (Jvm.Cond.methodLink "LeafMatchesLaw" (114 : Nat) ({ cls := "LeafMatchesModel", name := "sum", desc := "(III)J" } : Jvm.MethodName)) ∈ wA := ku_5 19 rfl rfl
theorem kw_5_20 : (Jvm.Cond.instanceMethod ({ cls := "LeafMatchesModel", name := "sum", desc := "(III)J" } : Jvm.MethodName)) ∈ wA := ku_5 20 rfl rfl
theorem kw_5_21 : (Jvm.Cond.selects "LeafMatchesModel" ({ cls := "LeafMatchesModel", name := "sum", desc := "(III)J" } : Jvm.MethodName) ({ cls := "LeafMatchesModel", name := "sum", desc := "(III)J" } : Jvm.MethodName)) ∈ wA := ku_5 21 rfl rfl
theorem kw_5_22 : (Jvm.Cond.code ({ cls := "LeafMatchesModel", name := "sum", desc := "(III)J" } : Jvm.MethodName) prog_7_method_30_code (4 : Nat) (Option.some Jvm.ClassFile.FieldType.long)) ∈ wA := ku_5 22 rfl rfl
theorem kw_5_23 : (Jvm.Cond.methodLink "LeafMatchesLaw" (117 : Nat) ({ cls := "LeafMatchesModel", name := "mirrored", desc := "(II)Z" } : Jvm.MethodName)) ∈ wA := ku_5 23 rfl rfl
theorem kw_5_24 : (Jvm.Cond.instanceMethod ({ cls := "LeafMatchesModel", name := "mirrored", desc := "(II)Z" } : Jvm.MethodName)) ∈ wA := ku_5 24 rfl rfl
theorem kw_5_25 : (Jvm.Cond.selects "LeafMatchesModel" ({ cls := "LeafMatchesModel", name := "mirrored", desc := "(II)Z" } : Jvm.MethodName) ({ cls := "LeafMatchesModel", name := "mirrored", desc := "(II)Z" } : Jvm.MethodName)) ∈ wA := ku_5 25 rfl rfl
theorem kw_5_26 : (Jvm.Cond.code ({ cls := "LeafMatchesModel", name := "mirrored", desc := "(II)Z" } : Jvm.MethodName) prog_7_method_31_code (3 : Nat) (Option.some Jvm.ClassFile.FieldType.boolean)) ∈ wA := ku_5 26 rfl rfl
theorem kw_5_27 : (Jvm.Cond.methodLink "LeafMatchesLaw" (120 : Nat) ({ cls := "LeafMatchesModel", name := "balance", desc := "(I)Z" } : Jvm.MethodName)) ∈ wA := ku_5 27 rfl rfl
theorem kw_5_28 : (Jvm.Cond.instanceMethod ({ cls := "LeafMatchesModel", name := "balance", desc := "(I)Z" } : Jvm.MethodName)) ∈ wA := ku_5 28 rfl rfl
theorem kw_5_29 : (Jvm.Cond.selects "LeafMatchesModel" ({ cls := "LeafMatchesModel", name := "balance", desc := "(I)Z" } : Jvm.MethodName) ({ cls := "LeafMatchesModel", name := "balance", desc := "(I)Z" } : Jvm.MethodName)) ∈ wA := ku_5 29 rfl rfl
theorem kw_5_30 : (Jvm.Cond.code ({ cls := "LeafMatchesModel", name := "balance", desc := "(I)Z" } : Jvm.MethodName) prog_7_method_32_code (6 : Nat) (Option.some Jvm.ClassFile.FieldType.boolean)) ∈ wA := ku_5 30 rfl rfl
theorem kw_5_31 : (Jvm.Cond.methodLink "LeafMatchesLaw" (123 : Nat) ({ cls := "LeafMatchesModel", name := "number", desc := "(III)I" } : Jvm.MethodName)) ∈ wA := ku_5 31 rfl rfl
theorem kw_5_32 : (Jvm.Cond.instanceMethod ({ cls := "LeafMatchesModel", name := "number", desc := "(III)I" } : Jvm.MethodName)) ∈ wA := ku_5 32 rfl rfl
theorem kw_5_33 : (Jvm.Cond.selects "LeafMatchesModel" ({ cls := "LeafMatchesModel", name := "number", desc := "(III)I" } : Jvm.MethodName) ({ cls := "LeafMatchesModel", name := "number", desc := "(III)I" } : Jvm.MethodName)) ∈ wA := ku_5 33 rfl rfl
theorem kw_5_34 : (Jvm.Cond.code ({ cls := "LeafMatchesModel", name := "number", desc := "(III)I" } : Jvm.MethodName) prog_7_method_34_code (5 : Nat) (Option.some Jvm.ClassFile.FieldType.int)) ∈ wA := ku_5 34 rfl rfl
theorem kw_5_39 : (Jvm.Cond.methodLink "LeafMatchesLaw" (126 : Nat) ({ cls := "LeafMatchesModel", name := "want", desc := "(I)I" } : Jvm.MethodName)) ∈ wA := ku_5 39 rfl rfl
theorem kw_5_40 : (Jvm.Cond.instanceMethod ({ cls := "LeafMatchesModel", name := "want", desc := "(I)I" } : Jvm.MethodName)) ∈ wA := ku_5 40 rfl rfl
theorem kw_5_41 : (Jvm.Cond.selects "LeafMatchesModel" ({ cls := "LeafMatchesModel", name := "want", desc := "(I)I" } : Jvm.MethodName) ({ cls := "LeafMatchesModel", name := "want", desc := "(I)I" } : Jvm.MethodName)) ∈ wA := ku_5 41 rfl rfl
theorem kw_5_42 : (Jvm.Cond.code ({ cls := "LeafMatchesModel", name := "want", desc := "(I)I" } : Jvm.MethodName) prog_7_method_35_code (2 : Nat) (Option.some Jvm.ClassFile.FieldType.int)) ∈ wA := ku_5 42 rfl rfl
theorem kw_5_43 : (Jvm.Cond.methodLink "LeafMatchesLaw" (130 : Nat) ({ cls := "LeafMatchesModel", name := "clear", desc := "()I" } : Jvm.MethodName)) ∈ wA := ku_5 43 rfl rfl
theorem kw_5_44 : (Jvm.Cond.instanceMethod ({ cls := "LeafMatchesModel", name := "clear", desc := "()I" } : Jvm.MethodName)) ∈ wA := ku_5 44 rfl rfl
theorem kw_5_45 : (Jvm.Cond.selects "LeafMatchesModel" ({ cls := "LeafMatchesModel", name := "clear", desc := "()I" } : Jvm.MethodName) ({ cls := "LeafMatchesModel", name := "clear", desc := "()I" } : Jvm.MethodName)) ∈ wA := ku_5 45 rfl rfl
theorem kw_5_46 : (Jvm.Cond.code ({ cls := "LeafMatchesModel", name := "clear", desc := "()I" } : Jvm.MethodName) prog_7_method_36_code (2 : Nat) (Option.some Jvm.ClassFile.FieldType.int)) ∈ wA := ku_5 46 rfl rfl
theorem kw_5_47 : (Jvm.Cond.methodLink "LeafMatchesLaw" (133 : Nat) ({ cls := "LeafMatchesModel", name := "faces", desc := "(I)I" } : Jvm.MethodName)) ∈ wA := ku_5 47 rfl rfl
theorem kw_5_48 : (Jvm.Cond.instanceMethod ({ cls := "LeafMatchesModel", name := "faces", desc := "(I)I" } : Jvm.MethodName)) ∈ wA := ku_5 48 rfl rfl
theorem kw_5_49 : (Jvm.Cond.selects "LeafMatchesModel" ({ cls := "LeafMatchesModel", name := "faces", desc := "(I)I" } : Jvm.MethodName) ({ cls := "LeafMatchesModel", name := "faces", desc := "(I)I" } : Jvm.MethodName)) ∈ wA := ku_5 49 rfl rfl
theorem kw_5_50 : (Jvm.Cond.code ({ cls := "LeafMatchesModel", name := "faces", desc := "(I)I" } : Jvm.MethodName) prog_7_method_40_code (8 : Nat) (Option.some Jvm.ClassFile.FieldType.int)) ∈ wA := ku_5 50 rfl rfl
theorem kw_5_68 : (Jvm.Cond.methodLink "LeafMatchesLaw" (136 : Nat) ({ cls := "LeafMatchesModel", name := "planned", desc := "(II)I" } : Jvm.MethodName)) ∈ wA := ku_5 68 rfl rfl
theorem kw_5_69 : (Jvm.Cond.instanceMethod ({ cls := "LeafMatchesModel", name := "planned", desc := "(II)I" } : Jvm.MethodName)) ∈ wA := ku_5 69 rfl rfl
theorem kw_5_70 : (Jvm.Cond.selects "LeafMatchesModel" ({ cls := "LeafMatchesModel", name := "planned", desc := "(II)I" } : Jvm.MethodName) ({ cls := "LeafMatchesModel", name := "planned", desc := "(II)I" } : Jvm.MethodName)) ∈ wA := ku_5 70 rfl rfl
theorem kw_5_71 : (Jvm.Cond.code ({ cls := "LeafMatchesModel", name := "planned", desc := "(II)I" } : Jvm.MethodName) prog_7_method_42_code (3 : Nat) (Option.some Jvm.ClassFile.FieldType.int)) ∈ wA := ku_5 71 rfl rfl
theorem kw_5_72 : (Jvm.Cond.arrayClass Jvm.ClassFile.FieldType.long) ∈ wA := ku_5 72 rfl rfl
theorem d_Law_law_0 : decode b_Law_law 0 = .ok (.new 8, 3) := by decide +kernel
theorem d_Law_law_3 : decode b_Law_law 3 = .ok (.dup, 1) := by decide +kernel
theorem d_Law_law_4 : decode b_Law_law 4 = .ok (.invokespecial 71, 3) := by decide +kernel
theorem d_Law_law_7 : decode b_Law_law 7 = .ok (.astore_n 1, 1) := by decide +kernel
theorem d_Law_law_8 : decode b_Law_law 8 = .ok (.new 72, 3) := by decide +kernel
theorem d_Law_law_11 : decode b_Law_law 11 = .ok (.dup, 1) := by decide +kernel
theorem d_Law_law_12 : decode b_Law_law 12 = .ok (.invokespecial 74, 3) := by decide +kernel
theorem d_Law_law_15 : decode b_Law_law 15 = .ok (.astore_n 2, 1) := by decide +kernel
theorem d_Law_law_16 : decode b_Law_law 16 = .ok (.iconst 1, 1) := by decide +kernel
theorem d_Law_law_17 : decode b_Law_law 17 = .ok (.newarray .long, 2) := by decide +kernel
theorem d_Law_law_19 : decode b_Law_law 19 = .ok (.astore_n 3, 1) := by decide +kernel
theorem d_Law_law_20 : decode b_Law_law 20 = .ok (.iconst 0, 1) := by decide +kernel
theorem d_Law_law_21 : decode b_Law_law 21 = .ok (.istore 4, 2) := by decide +kernel
theorem d_Law_law_23 : decode b_Law_law 23 = .ok (.iload 4, 2) := by decide +kernel
theorem d_Law_law_25 : decode b_Law_law 25 = .ok (.aload_n 0, 1) := by decide +kernel
theorem d_Law_law_26 : decode b_Law_law 26 = .ok (.arraylength, 1) := by decide +kernel
theorem d_Law_law_27 : decode b_Law_law 27 = .ok (.iconst 5, 1) := by decide +kernel
theorem d_Law_law_28 : decode b_Law_law 28 = .ok (.isub, 1) := by decide +kernel
theorem d_Law_law_29 : decode b_Law_law 29 = .ok (.if_icmp .gt 1273, 3) := by decide +kernel
theorem d_Law_law_32 : decode b_Law_law 32 = .ok (.aload_n 0, 1) := by decide +kernel
theorem d_Law_law_33 : decode b_Law_law 33 = .ok (.iload 4, 2) := by decide +kernel
theorem d_Law_law_35 : decode b_Law_law 35 = .ok (.iaload, 1) := by decide +kernel
theorem d_Law_law_36 : decode b_Law_law 36 = .ok (.bipush 31, 2) := by decide +kernel
theorem d_Law_law_38 : decode b_Law_law 38 = .ok (.iand, 1) := by decide +kernel
theorem d_Law_law_39 : decode b_Law_law 39 = .ok (.tableswitch 1257 0 16 #[81, 173, 272, 347, 415, 471, 551, 631, 699, 767, 846, 921, 984, 1064, 1120, 1133, 1189], 81) := by decide +kernel
theorem d_Law_law_120 : decode b_Law_law 120 = .ok (.aload_n 1, 1) := by decide +kernel
theorem d_Law_law_121 : decode b_Law_law 121 = .ok (.aload_n 0, 1) := by decide +kernel
theorem d_Law_law_122 : decode b_Law_law 122 = .ok (.iload 4, 2) := by decide +kernel
theorem d_Law_law_124 : decode b_Law_law 124 = .ok (.iconst 1, 1) := by decide +kernel
theorem d_Law_law_125 : decode b_Law_law 125 = .ok (.iadd, 1) := by decide +kernel
theorem d_Law_law_126 : decode b_Law_law 126 = .ok (.iaload, 1) := by decide +kernel
theorem d_Law_law_127 : decode b_Law_law 127 = .ok (.aload_n 0, 1) := by decide +kernel
theorem d_Law_law_128 : decode b_Law_law 128 = .ok (.iload 4, 2) := by decide +kernel
theorem d_Law_law_130 : decode b_Law_law 130 = .ok (.iconst 2, 1) := by decide +kernel
theorem d_Law_law_131 : decode b_Law_law 131 = .ok (.iadd, 1) := by decide +kernel
theorem d_Law_law_132 : decode b_Law_law 132 = .ok (.iaload, 1) := by decide +kernel
theorem d_Law_law_133 : decode b_Law_law 133 = .ok (.aload_n 0, 1) := by decide +kernel
theorem d_Law_law_134 : decode b_Law_law 134 = .ok (.iload 4, 2) := by decide +kernel
theorem d_Law_law_136 : decode b_Law_law 136 = .ok (.iconst 3, 1) := by decide +kernel
theorem d_Law_law_137 : decode b_Law_law 137 = .ok (.iadd, 1) := by decide +kernel
theorem d_Law_law_138 : decode b_Law_law 138 = .ok (.iaload, 1) := by decide +kernel
theorem d_Law_law_139 : decode b_Law_law 139 = .ok (.aload_n 0, 1) := by decide +kernel
theorem d_Law_law_140 : decode b_Law_law 140 = .ok (.iload 4, 2) := by decide +kernel
theorem d_Law_law_142 : decode b_Law_law 142 = .ok (.iconst 4, 1) := by decide +kernel
theorem d_Law_law_143 : decode b_Law_law 143 = .ok (.iadd, 1) := by decide +kernel
theorem d_Law_law_144 : decode b_Law_law 144 = .ok (.iaload, 1) := by decide +kernel
theorem d_Law_law_145 : decode b_Law_law 145 = .ok (.aload_n 3, 1) := by decide +kernel
theorem d_Law_law_146 : decode b_Law_law 146 = .ok (.invokestatic 75, 3) := by decide +kernel
theorem d_Law_law_149 : decode b_Law_law 149 = .ok (.istore 5, 2) := by decide +kernel
theorem d_Law_law_151 : decode b_Law_law 151 = .ok (.aload_n 2, 1) := by decide +kernel
theorem d_Law_law_152 : decode b_Law_law 152 = .ok (.aload_n 0, 1) := by decide +kernel
theorem d_Law_law_153 : decode b_Law_law 153 = .ok (.iload 4, 2) := by decide +kernel
theorem d_Law_law_155 : decode b_Law_law 155 = .ok (.iconst 1, 1) := by decide +kernel
theorem d_Law_law_156 : decode b_Law_law 156 = .ok (.iadd, 1) := by decide +kernel
theorem d_Law_law_157 : decode b_Law_law 157 = .ok (.iaload, 1) := by decide +kernel
theorem d_Law_law_158 : decode b_Law_law 158 = .ok (.aload_n 0, 1) := by decide +kernel
theorem d_Law_law_159 : decode b_Law_law 159 = .ok (.iload 4, 2) := by decide +kernel
theorem d_Law_law_161 : decode b_Law_law 161 = .ok (.iconst 2, 1) := by decide +kernel
theorem d_Law_law_162 : decode b_Law_law 162 = .ok (.iadd, 1) := by decide +kernel
theorem d_Law_law_163 : decode b_Law_law 163 = .ok (.iaload, 1) := by decide +kernel
theorem d_Law_law_164 : decode b_Law_law 164 = .ok (.aload_n 0, 1) := by decide +kernel
theorem d_Law_law_165 : decode b_Law_law 165 = .ok (.iload 4, 2) := by decide +kernel
theorem d_Law_law_167 : decode b_Law_law 167 = .ok (.iconst 3, 1) := by decide +kernel
theorem d_Law_law_168 : decode b_Law_law 168 = .ok (.iadd, 1) := by decide +kernel
theorem d_Law_law_169 : decode b_Law_law 169 = .ok (.iaload, 1) := by decide +kernel
theorem d_Law_law_170 : decode b_Law_law 170 = .ok (.aload_n 0, 1) := by decide +kernel
theorem d_Law_law_171 : decode b_Law_law 171 = .ok (.iload 4, 2) := by decide +kernel
theorem d_Law_law_173 : decode b_Law_law 173 = .ok (.iconst 4, 1) := by decide +kernel
theorem d_Law_law_174 : decode b_Law_law 174 = .ok (.iadd, 1) := by decide +kernel
theorem d_Law_law_175 : decode b_Law_law 175 = .ok (.iaload, 1) := by decide +kernel
theorem d_Law_law_176 : decode b_Law_law 176 = .ok (.invokevirtual 80, 3) := by decide +kernel
theorem d_Law_law_179 : decode b_Law_law 179 = .ok (.istore 6, 2) := by decide +kernel
theorem d_Law_law_181 : decode b_Law_law 181 = .ok (.aload_n 2, 1) := by decide +kernel
theorem d_Law_law_182 : decode b_Law_law 182 = .ok (.invokevirtual 81, 3) := by decide +kernel
theorem d_Law_law_185 : decode b_Law_law 185 = .ok (.iload 5, 2) := by decide +kernel
theorem d_Law_law_187 : decode b_Law_law 187 = .ok (.if_icmp .eq 5, 3) := by decide +kernel
theorem d_Law_law_190 : decode b_Law_law 190 = .ok (.iconst 0, 1) := by decide +kernel
theorem d_Law_law_191 : decode b_Law_law 191 = .ok (.ireturn, 1) := by decide +kernel
theorem d_Law_law_192 : decode b_Law_law 192 = .ok (.iload 5, 2) := by decide +kernel
theorem d_Law_law_194 : decode b_Law_law 194 = .ok (.ifCond .ne 15, 3) := by decide +kernel
theorem d_Law_law_197 : decode b_Law_law 197 = .ok (.aload_n 3, 1) := by decide +kernel
theorem d_Law_law_198 : decode b_Law_law 198 = .ok (.iconst 0, 1) := by decide +kernel
theorem d_Law_law_199 : decode b_Law_law 199 = .ok (.laload, 1) := by decide +kernel
theorem d_Law_law_200 : decode b_Law_law 200 = .ok (.iload 6, 2) := by decide +kernel
theorem d_Law_law_202 : decode b_Law_law 202 = .ok (.i2l, 1) := by decide +kernel
theorem d_Law_law_203 : decode b_Law_law 203 = .ok (.lcmp, 1) := by decide +kernel
theorem d_Law_law_204 : decode b_Law_law 204 = .ok (.ifCond .eq 5, 3) := by decide +kernel
theorem d_Law_law_207 : decode b_Law_law 207 = .ok (.iconst 0, 1) := by decide +kernel
theorem d_Law_law_208 : decode b_Law_law 208 = .ok (.ireturn, 1) := by decide +kernel
theorem d_Law_law_209 : decode b_Law_law 209 = .ok (.goto 1087, 3) := by decide +kernel
theorem d_Law_law_212 : decode b_Law_law 212 = .ok (.aload_n 1, 1) := by decide +kernel
theorem d_Law_law_213 : decode b_Law_law 213 = .ok (.aload_n 0, 1) := by decide +kernel
theorem d_Law_law_214 : decode b_Law_law 214 = .ok (.iload 4, 2) := by decide +kernel
theorem d_Law_law_216 : decode b_Law_law 216 = .ok (.iconst 1, 1) := by decide +kernel
theorem d_Law_law_217 : decode b_Law_law 217 = .ok (.iadd, 1) := by decide +kernel
theorem d_Law_law_218 : decode b_Law_law 218 = .ok (.iaload, 1) := by decide +kernel
theorem d_Law_law_219 : decode b_Law_law 219 = .ok (.aload_n 0, 1) := by decide +kernel
theorem d_Law_law_220 : decode b_Law_law 220 = .ok (.iload 4, 2) := by decide +kernel
theorem d_Law_law_222 : decode b_Law_law 222 = .ok (.iconst 2, 1) := by decide +kernel
theorem d_Law_law_223 : decode b_Law_law 223 = .ok (.iadd, 1) := by decide +kernel
theorem d_Law_law_224 : decode b_Law_law 224 = .ok (.iaload, 1) := by decide +kernel
theorem d_Law_law_225 : decode b_Law_law 225 = .ok (.aload_n 0, 1) := by decide +kernel
theorem d_Law_law_226 : decode b_Law_law 226 = .ok (.iload 4, 2) := by decide +kernel
theorem d_Law_law_228 : decode b_Law_law 228 = .ok (.iconst 3, 1) := by decide +kernel
theorem d_Law_law_229 : decode b_Law_law 229 = .ok (.iadd, 1) := by decide +kernel
theorem d_Law_law_230 : decode b_Law_law 230 = .ok (.iaload, 1) := by decide +kernel
theorem d_Law_law_231 : decode b_Law_law 231 = .ok (.aload_n 0, 1) := by decide +kernel
theorem d_Law_law_232 : decode b_Law_law 232 = .ok (.iload 4, 2) := by decide +kernel
theorem d_Law_law_234 : decode b_Law_law 234 = .ok (.iconst 4, 1) := by decide +kernel
theorem d_Law_law_235 : decode b_Law_law 235 = .ok (.iadd, 1) := by decide +kernel
theorem d_Law_law_236 : decode b_Law_law 236 = .ok (.iaload, 1) := by decide +kernel
theorem d_Law_law_237 : decode b_Law_law 237 = .ok (.aload_n 3, 1) := by decide +kernel
theorem d_Law_law_238 : decode b_Law_law 238 = .ok (.invokestatic 85, 3) := by decide +kernel
theorem d_Law_law_241 : decode b_Law_law 241 = .ok (.istore 5, 2) := by decide +kernel
theorem d_Law_law_243 : decode b_Law_law 243 = .ok (.aload_n 2, 1) := by decide +kernel
theorem d_Law_law_244 : decode b_Law_law 244 = .ok (.aload_n 0, 1) := by decide +kernel
theorem d_Law_law_245 : decode b_Law_law 245 = .ok (.iload 4, 2) := by decide +kernel
theorem d_Law_law_247 : decode b_Law_law 247 = .ok (.iconst 1, 1) := by decide +kernel
theorem d_Law_law_248 : decode b_Law_law 248 = .ok (.iadd, 1) := by decide +kernel
theorem d_Law_law_249 : decode b_Law_law 249 = .ok (.iaload, 1) := by decide +kernel
theorem d_Law_law_250 : decode b_Law_law 250 = .ok (.aload_n 0, 1) := by decide +kernel
theorem d_Law_law_251 : decode b_Law_law 251 = .ok (.iload 4, 2) := by decide +kernel
theorem d_Law_law_253 : decode b_Law_law 253 = .ok (.iconst 2, 1) := by decide +kernel
theorem d_Law_law_254 : decode b_Law_law 254 = .ok (.iadd, 1) := by decide +kernel
theorem d_Law_law_255 : decode b_Law_law 255 = .ok (.iaload, 1) := by decide +kernel
theorem d_Law_law_256 : decode b_Law_law 256 = .ok (.aload_n 0, 1) := by decide +kernel
theorem d_Law_law_257 : decode b_Law_law 257 = .ok (.iload 4, 2) := by decide +kernel
theorem d_Law_law_259 : decode b_Law_law 259 = .ok (.iconst 3, 1) := by decide +kernel
theorem d_Law_law_260 : decode b_Law_law 260 = .ok (.iadd, 1) := by decide +kernel
theorem d_Law_law_261 : decode b_Law_law 261 = .ok (.iaload, 1) := by decide +kernel
theorem d_Law_law_262 : decode b_Law_law 262 = .ok (.aload_n 0, 1) := by decide +kernel
theorem d_Law_law_263 : decode b_Law_law 263 = .ok (.iload 4, 2) := by decide +kernel
theorem d_Law_law_265 : decode b_Law_law 265 = .ok (.iconst 4, 1) := by decide +kernel
theorem d_Law_law_266 : decode b_Law_law 266 = .ok (.iadd, 1) := by decide +kernel
theorem d_Law_law_267 : decode b_Law_law 267 = .ok (.iaload, 1) := by decide +kernel
theorem d_Law_law_268 : decode b_Law_law 268 = .ok (.invokevirtual 87, 3) := by decide +kernel
theorem d_Law_law_271 : decode b_Law_law 271 = .ok (.istore 6, 2) := by decide +kernel
theorem d_Law_law_273 : decode b_Law_law 273 = .ok (.aload_n 2, 1) := by decide +kernel
theorem d_Law_law_274 : decode b_Law_law 274 = .ok (.invokevirtual 81, 3) := by decide +kernel
theorem d_Law_law_277 : decode b_Law_law 277 = .ok (.iload 5, 2) := by decide +kernel
theorem d_Law_law_279 : decode b_Law_law 279 = .ok (.if_icmp .eq 5, 3) := by decide +kernel
theorem d_Law_law_282 : decode b_Law_law 282 = .ok (.iconst 0, 1) := by decide +kernel
theorem d_Law_law_283 : decode b_Law_law 283 = .ok (.ireturn, 1) := by decide +kernel
theorem d_Law_law_284 : decode b_Law_law 284 = .ok (.iload 5, 2) := by decide +kernel
theorem d_Law_law_286 : decode b_Law_law 286 = .ok (.ifCond .ne 22, 3) := by decide +kernel
theorem d_Law_law_289 : decode b_Law_law 289 = .ok (.aload_n 3, 1) := by decide +kernel
theorem d_Law_law_290 : decode b_Law_law 290 = .ok (.iconst 0, 1) := by decide +kernel
theorem d_Law_law_291 : decode b_Law_law 291 = .ok (.laload, 1) := by decide +kernel
theorem d_Law_law_292 : decode b_Law_law 292 = .ok (.iload 6, 2) := by decide +kernel
theorem d_Law_law_294 : decode b_Law_law 294 = .ok (.ifCond .eq 7, 3) := by decide +kernel
theorem d_Law_law_297 : decode b_Law_law 297 = .ok (.lconst 1, 1) := by decide +kernel
theorem d_Law_law_298 : decode b_Law_law 298 = .ok (.goto 4, 3) := by decide +kernel
theorem d_Law_law_301 : decode b_Law_law 301 = .ok (.lconst 0, 1) := by decide +kernel
theorem d_Law_law_302 : decode b_Law_law 302 = .ok (.lcmp, 1) := by decide +kernel
theorem d_Law_law_303 : decode b_Law_law 303 = .ok (.ifCond .eq 5, 3) := by decide +kernel
theorem d_Law_law_306 : decode b_Law_law 306 = .ok (.iconst 0, 1) := by decide +kernel
theorem d_Law_law_307 : decode b_Law_law 307 = .ok (.ireturn, 1) := by decide +kernel
theorem d_Law_law_308 : decode b_Law_law 308 = .ok (.goto 988, 3) := by decide +kernel
theorem d_Law_law_311 : decode b_Law_law 311 = .ok (.aload_n 1, 1) := by decide +kernel
theorem d_Law_law_312 : decode b_Law_law 312 = .ok (.aload_n 0, 1) := by decide +kernel
theorem d_Law_law_313 : decode b_Law_law 313 = .ok (.iload 4, 2) := by decide +kernel
theorem d_Law_law_315 : decode b_Law_law 315 = .ok (.iconst 1, 1) := by decide +kernel
theorem d_Law_law_316 : decode b_Law_law 316 = .ok (.iadd, 1) := by decide +kernel
theorem d_Law_law_317 : decode b_Law_law 317 = .ok (.iaload, 1) := by decide +kernel
theorem d_Law_law_318 : decode b_Law_law 318 = .ok (.aload_n 0, 1) := by decide +kernel
theorem d_Law_law_319 : decode b_Law_law 319 = .ok (.iload 4, 2) := by decide +kernel
theorem d_Law_law_321 : decode b_Law_law 321 = .ok (.iconst 2, 1) := by decide +kernel
theorem d_Law_law_322 : decode b_Law_law 322 = .ok (.iadd, 1) := by decide +kernel
theorem d_Law_law_323 : decode b_Law_law 323 = .ok (.iaload, 1) := by decide +kernel
theorem d_Law_law_324 : decode b_Law_law 324 = .ok (.aload_n 3, 1) := by decide +kernel
theorem d_Law_law_325 : decode b_Law_law 325 = .ok (.invokestatic 88, 3) := by decide +kernel
theorem d_Law_law_328 : decode b_Law_law 328 = .ok (.istore 5, 2) := by decide +kernel
theorem d_Law_law_330 : decode b_Law_law 330 = .ok (.aload_n 2, 1) := by decide +kernel
theorem d_Law_law_331 : decode b_Law_law 331 = .ok (.aload_n 0, 1) := by decide +kernel
theorem d_Law_law_332 : decode b_Law_law 332 = .ok (.iload 4, 2) := by decide +kernel
theorem d_Law_law_334 : decode b_Law_law 334 = .ok (.iconst 1, 1) := by decide +kernel
theorem d_Law_law_335 : decode b_Law_law 335 = .ok (.iadd, 1) := by decide +kernel
theorem d_Law_law_336 : decode b_Law_law 336 = .ok (.iaload, 1) := by decide +kernel
theorem d_Law_law_337 : decode b_Law_law 337 = .ok (.aload_n 0, 1) := by decide +kernel
theorem d_Law_law_338 : decode b_Law_law 338 = .ok (.iload 4, 2) := by decide +kernel
theorem d_Law_law_340 : decode b_Law_law 340 = .ok (.iconst 2, 1) := by decide +kernel
theorem d_Law_law_341 : decode b_Law_law 341 = .ok (.iadd, 1) := by decide +kernel
theorem d_Law_law_342 : decode b_Law_law 342 = .ok (.iaload, 1) := by decide +kernel
theorem d_Law_law_343 : decode b_Law_law 343 = .ok (.invokevirtual 91, 3) := by decide +kernel
theorem d_Law_law_346 : decode b_Law_law 346 = .ok (.istore 6, 2) := by decide +kernel
theorem d_Law_law_348 : decode b_Law_law 348 = .ok (.aload_n 2, 1) := by decide +kernel
theorem d_Law_law_349 : decode b_Law_law 349 = .ok (.invokevirtual 81, 3) := by decide +kernel
theorem d_Law_law_352 : decode b_Law_law 352 = .ok (.iload 5, 2) := by decide +kernel
theorem d_Law_law_354 : decode b_Law_law 354 = .ok (.if_icmp .eq 5, 3) := by decide +kernel
theorem d_Law_law_357 : decode b_Law_law 357 = .ok (.iconst 0, 1) := by decide +kernel
theorem d_Law_law_358 : decode b_Law_law 358 = .ok (.ireturn, 1) := by decide +kernel
theorem d_Law_law_359 : decode b_Law_law 359 = .ok (.iload 5, 2) := by decide +kernel
theorem d_Law_law_361 : decode b_Law_law 361 = .ok (.ifCond .ne 22, 3) := by decide +kernel
theorem d_Law_law_364 : decode b_Law_law 364 = .ok (.aload_n 3, 1) := by decide +kernel
theorem d_Law_law_365 : decode b_Law_law 365 = .ok (.iconst 0, 1) := by decide +kernel
theorem d_Law_law_366 : decode b_Law_law 366 = .ok (.laload, 1) := by decide +kernel
theorem d_Law_law_367 : decode b_Law_law 367 = .ok (.iload 6, 2) := by decide +kernel
theorem d_Law_law_369 : decode b_Law_law 369 = .ok (.ifCond .eq 7, 3) := by decide +kernel
theorem d_Law_law_372 : decode b_Law_law 372 = .ok (.lconst 1, 1) := by decide +kernel
theorem d_Law_law_373 : decode b_Law_law 373 = .ok (.goto 4, 3) := by decide +kernel
theorem d_Law_law_376 : decode b_Law_law 376 = .ok (.lconst 0, 1) := by decide +kernel
theorem d_Law_law_377 : decode b_Law_law 377 = .ok (.lcmp, 1) := by decide +kernel
theorem d_Law_law_378 : decode b_Law_law 378 = .ok (.ifCond .eq 5, 3) := by decide +kernel
theorem d_Law_law_381 : decode b_Law_law 381 = .ok (.iconst 0, 1) := by decide +kernel
theorem d_Law_law_382 : decode b_Law_law 382 = .ok (.ireturn, 1) := by decide +kernel
theorem d_Law_law_383 : decode b_Law_law 383 = .ok (.goto 913, 3) := by decide +kernel
theorem d_Law_law_386 : decode b_Law_law 386 = .ok (.aload_n 1, 1) := by decide +kernel
theorem d_Law_law_387 : decode b_Law_law 387 = .ok (.aload_n 0, 1) := by decide +kernel
theorem d_Law_law_388 : decode b_Law_law 388 = .ok (.iload 4, 2) := by decide +kernel
theorem d_Law_law_390 : decode b_Law_law 390 = .ok (.iconst 1, 1) := by decide +kernel
theorem d_Law_law_391 : decode b_Law_law 391 = .ok (.iadd, 1) := by decide +kernel
theorem d_Law_law_392 : decode b_Law_law 392 = .ok (.iaload, 1) := by decide +kernel
theorem d_Law_law_393 : decode b_Law_law 393 = .ok (.aload_n 0, 1) := by decide +kernel
theorem d_Law_law_394 : decode b_Law_law 394 = .ok (.iload 4, 2) := by decide +kernel
theorem d_Law_law_396 : decode b_Law_law 396 = .ok (.iconst 2, 1) := by decide +kernel
theorem d_Law_law_397 : decode b_Law_law 397 = .ok (.iadd, 1) := by decide +kernel
theorem d_Law_law_398 : decode b_Law_law 398 = .ok (.iaload, 1) := by decide +kernel
theorem d_Law_law_399 : decode b_Law_law 399 = .ok (.aload_n 3, 1) := by decide +kernel
theorem d_Law_law_400 : decode b_Law_law 400 = .ok (.invokestatic 92, 3) := by decide +kernel
theorem d_Law_law_403 : decode b_Law_law 403 = .ok (.istore 5, 2) := by decide +kernel
theorem d_Law_law_405 : decode b_Law_law 405 = .ok (.aload_n 2, 1) := by decide +kernel
theorem d_Law_law_406 : decode b_Law_law 406 = .ok (.aload_n 0, 1) := by decide +kernel
theorem d_Law_law_407 : decode b_Law_law 407 = .ok (.iload 4, 2) := by decide +kernel
theorem d_Law_law_409 : decode b_Law_law 409 = .ok (.iconst 1, 1) := by decide +kernel
theorem d_Law_law_410 : decode b_Law_law 410 = .ok (.iadd, 1) := by decide +kernel
theorem d_Law_law_411 : decode b_Law_law 411 = .ok (.iaload, 1) := by decide +kernel
theorem d_Law_law_412 : decode b_Law_law 412 = .ok (.aload_n 0, 1) := by decide +kernel
theorem d_Law_law_413 : decode b_Law_law 413 = .ok (.iload 4, 2) := by decide +kernel
theorem d_Law_law_415 : decode b_Law_law 415 = .ok (.iconst 2, 1) := by decide +kernel
theorem d_Law_law_416 : decode b_Law_law 416 = .ok (.iadd, 1) := by decide +kernel
theorem d_Law_law_417 : decode b_Law_law 417 = .ok (.iaload, 1) := by decide +kernel
theorem d_Law_law_418 : decode b_Law_law 418 = .ok (.invokevirtual 94, 3) := by decide +kernel
theorem d_Law_law_421 : decode b_Law_law 421 = .ok (.istore 6, 2) := by decide +kernel
theorem d_Law_law_423 : decode b_Law_law 423 = .ok (.aload_n 2, 1) := by decide +kernel
theorem d_Law_law_424 : decode b_Law_law 424 = .ok (.invokevirtual 81, 3) := by decide +kernel
theorem d_Law_law_427 : decode b_Law_law 427 = .ok (.iload 5, 2) := by decide +kernel
theorem d_Law_law_429 : decode b_Law_law 429 = .ok (.if_icmp .eq 5, 3) := by decide +kernel
theorem d_Law_law_432 : decode b_Law_law 432 = .ok (.iconst 0, 1) := by decide +kernel
theorem d_Law_law_433 : decode b_Law_law 433 = .ok (.ireturn, 1) := by decide +kernel
theorem d_Law_law_434 : decode b_Law_law 434 = .ok (.iload 5, 2) := by decide +kernel
theorem d_Law_law_436 : decode b_Law_law 436 = .ok (.ifCond .ne 15, 3) := by decide +kernel
theorem d_Law_law_439 : decode b_Law_law 439 = .ok (.aload_n 3, 1) := by decide +kernel
theorem d_Law_law_440 : decode b_Law_law 440 = .ok (.iconst 0, 1) := by decide +kernel
theorem d_Law_law_441 : decode b_Law_law 441 = .ok (.laload, 1) := by decide +kernel
theorem d_Law_law_442 : decode b_Law_law 442 = .ok (.iload 6, 2) := by decide +kernel
theorem d_Law_law_444 : decode b_Law_law 444 = .ok (.i2l, 1) := by decide +kernel
theorem d_Law_law_445 : decode b_Law_law 445 = .ok (.lcmp, 1) := by decide +kernel
theorem d_Law_law_446 : decode b_Law_law 446 = .ok (.ifCond .eq 5, 3) := by decide +kernel
theorem d_Law_law_449 : decode b_Law_law 449 = .ok (.iconst 0, 1) := by decide +kernel
theorem d_Law_law_450 : decode b_Law_law 450 = .ok (.ireturn, 1) := by decide +kernel
theorem d_Law_law_451 : decode b_Law_law 451 = .ok (.goto 845, 3) := by decide +kernel
theorem d_Law_law_454 : decode b_Law_law 454 = .ok (.aload_n 1, 1) := by decide +kernel
theorem d_Law_law_455 : decode b_Law_law 455 = .ok (.aload_n 0, 1) := by decide +kernel
theorem d_Law_law_456 : decode b_Law_law 456 = .ok (.iload 4, 2) := by decide +kernel
theorem d_Law_law_458 : decode b_Law_law 458 = .ok (.iconst 1, 1) := by decide +kernel
theorem d_Law_law_459 : decode b_Law_law 459 = .ok (.iadd, 1) := by decide +kernel
theorem d_Law_law_460 : decode b_Law_law 460 = .ok (.iaload, 1) := by decide +kernel
theorem d_Law_law_461 : decode b_Law_law 461 = .ok (.aload_n 3, 1) := by decide +kernel
theorem d_Law_law_462 : decode b_Law_law 462 = .ok (.invokestatic 95, 3) := by decide +kernel
theorem d_Law_law_465 : decode b_Law_law 465 = .ok (.istore 5, 2) := by decide +kernel
theorem d_Law_law_467 : decode b_Law_law 467 = .ok (.aload_n 2, 1) := by decide +kernel
theorem d_Law_law_468 : decode b_Law_law 468 = .ok (.aload_n 0, 1) := by decide +kernel
theorem d_Law_law_469 : decode b_Law_law 469 = .ok (.iload 4, 2) := by decide +kernel
theorem d_Law_law_471 : decode b_Law_law 471 = .ok (.iconst 1, 1) := by decide +kernel
theorem d_Law_law_472 : decode b_Law_law 472 = .ok (.iadd, 1) := by decide +kernel
theorem d_Law_law_473 : decode b_Law_law 473 = .ok (.iaload, 1) := by decide +kernel
theorem d_Law_law_474 : decode b_Law_law 474 = .ok (.invokevirtual 98, 3) := by decide +kernel
theorem d_Law_law_477 : decode b_Law_law 477 = .ok (.istore 6, 2) := by decide +kernel
theorem d_Law_law_479 : decode b_Law_law 479 = .ok (.aload_n 2, 1) := by decide +kernel
theorem d_Law_law_480 : decode b_Law_law 480 = .ok (.invokevirtual 81, 3) := by decide +kernel
theorem d_Law_law_483 : decode b_Law_law 483 = .ok (.iload 5, 2) := by decide +kernel
theorem d_Law_law_485 : decode b_Law_law 485 = .ok (.if_icmp .eq 5, 3) := by decide +kernel
theorem d_Law_law_488 : decode b_Law_law 488 = .ok (.iconst 0, 1) := by decide +kernel
theorem d_Law_law_489 : decode b_Law_law 489 = .ok (.ireturn, 1) := by decide +kernel
theorem d_Law_law_490 : decode b_Law_law 490 = .ok (.iload 5, 2) := by decide +kernel
theorem d_Law_law_492 : decode b_Law_law 492 = .ok (.ifCond .ne 15, 3) := by decide +kernel
theorem d_Law_law_495 : decode b_Law_law 495 = .ok (.aload_n 3, 1) := by decide +kernel
theorem d_Law_law_496 : decode b_Law_law 496 = .ok (.iconst 0, 1) := by decide +kernel
theorem d_Law_law_497 : decode b_Law_law 497 = .ok (.laload, 1) := by decide +kernel
theorem d_Law_law_498 : decode b_Law_law 498 = .ok (.iload 6, 2) := by decide +kernel
theorem d_Law_law_500 : decode b_Law_law 500 = .ok (.i2l, 1) := by decide +kernel
theorem d_Law_law_501 : decode b_Law_law 501 = .ok (.lcmp, 1) := by decide +kernel
theorem d_Law_law_502 : decode b_Law_law 502 = .ok (.ifCond .eq 5, 3) := by decide +kernel
theorem d_Law_law_505 : decode b_Law_law 505 = .ok (.iconst 0, 1) := by decide +kernel
theorem d_Law_law_506 : decode b_Law_law 506 = .ok (.ireturn, 1) := by decide +kernel
theorem d_Law_law_507 : decode b_Law_law 507 = .ok (.goto 789, 3) := by decide +kernel
theorem d_Law_law_510 : decode b_Law_law 510 = .ok (.aload_n 1, 1) := by decide +kernel
theorem d_Law_law_511 : decode b_Law_law 511 = .ok (.aload_n 0, 1) := by decide +kernel
theorem d_Law_law_512 : decode b_Law_law 512 = .ok (.iload 4, 2) := by decide +kernel
theorem d_Law_law_514 : decode b_Law_law 514 = .ok (.iconst 1, 1) := by decide +kernel
theorem d_Law_law_515 : decode b_Law_law 515 = .ok (.iadd, 1) := by decide +kernel
theorem d_Law_law_516 : decode b_Law_law 516 = .ok (.iaload, 1) := by decide +kernel
theorem d_Law_law_517 : decode b_Law_law 517 = .ok (.aload_n 0, 1) := by decide +kernel
theorem d_Law_law_518 : decode b_Law_law 518 = .ok (.iload 4, 2) := by decide +kernel
theorem d_Law_law_520 : decode b_Law_law 520 = .ok (.iconst 2, 1) := by decide +kernel
theorem d_Law_law_521 : decode b_Law_law 521 = .ok (.iadd, 1) := by decide +kernel
theorem d_Law_law_522 : decode b_Law_law 522 = .ok (.iaload, 1) := by decide +kernel
theorem d_Law_law_523 : decode b_Law_law 523 = .ok (.aload_n 0, 1) := by decide +kernel
theorem d_Law_law_524 : decode b_Law_law 524 = .ok (.iload 4, 2) := by decide +kernel
theorem d_Law_law_526 : decode b_Law_law 526 = .ok (.iconst 3, 1) := by decide +kernel
theorem d_Law_law_527 : decode b_Law_law 527 = .ok (.iadd, 1) := by decide +kernel
theorem d_Law_law_528 : decode b_Law_law 528 = .ok (.iaload, 1) := by decide +kernel
theorem d_Law_law_529 : decode b_Law_law 529 = .ok (.aload_n 3, 1) := by decide +kernel
theorem d_Law_law_530 : decode b_Law_law 530 = .ok (.invokestatic 99, 3) := by decide +kernel
theorem d_Law_law_533 : decode b_Law_law 533 = .ok (.istore 5, 2) := by decide +kernel
theorem d_Law_law_535 : decode b_Law_law 535 = .ok (.aload_n 2, 1) := by decide +kernel
theorem d_Law_law_536 : decode b_Law_law 536 = .ok (.aload_n 0, 1) := by decide +kernel
theorem d_Law_law_537 : decode b_Law_law 537 = .ok (.iload 4, 2) := by decide +kernel
theorem d_Law_law_539 : decode b_Law_law 539 = .ok (.iconst 1, 1) := by decide +kernel
theorem d_Law_law_540 : decode b_Law_law 540 = .ok (.iadd, 1) := by decide +kernel
theorem d_Law_law_541 : decode b_Law_law 541 = .ok (.iaload, 1) := by decide +kernel
theorem d_Law_law_542 : decode b_Law_law 542 = .ok (.aload_n 0, 1) := by decide +kernel
theorem d_Law_law_543 : decode b_Law_law 543 = .ok (.iload 4, 2) := by decide +kernel
theorem d_Law_law_545 : decode b_Law_law 545 = .ok (.iconst 2, 1) := by decide +kernel
theorem d_Law_law_546 : decode b_Law_law 546 = .ok (.iadd, 1) := by decide +kernel
theorem d_Law_law_547 : decode b_Law_law 547 = .ok (.iaload, 1) := by decide +kernel
theorem d_Law_law_548 : decode b_Law_law 548 = .ok (.aload_n 0, 1) := by decide +kernel
theorem d_Law_law_549 : decode b_Law_law 549 = .ok (.iload 4, 2) := by decide +kernel
theorem d_Law_law_551 : decode b_Law_law 551 = .ok (.iconst 3, 1) := by decide +kernel
theorem d_Law_law_552 : decode b_Law_law 552 = .ok (.iadd, 1) := by decide +kernel
theorem d_Law_law_553 : decode b_Law_law 553 = .ok (.iaload, 1) := by decide +kernel
theorem d_Law_law_554 : decode b_Law_law 554 = .ok (.invokevirtual 102, 3) := by decide +kernel
theorem d_Law_law_557 : decode b_Law_law 557 = .ok (.istore 6, 2) := by decide +kernel
theorem d_Law_law_559 : decode b_Law_law 559 = .ok (.aload_n 2, 1) := by decide +kernel
theorem d_Law_law_560 : decode b_Law_law 560 = .ok (.invokevirtual 81, 3) := by decide +kernel
theorem d_Law_law_563 : decode b_Law_law 563 = .ok (.iload 5, 2) := by decide +kernel
theorem d_Law_law_565 : decode b_Law_law 565 = .ok (.if_icmp .eq 5, 3) := by decide +kernel
theorem d_Law_law_568 : decode b_Law_law 568 = .ok (.iconst 0, 1) := by decide +kernel
theorem d_Law_law_569 : decode b_Law_law 569 = .ok (.ireturn, 1) := by decide +kernel
theorem d_Law_law_570 : decode b_Law_law 570 = .ok (.iload 5, 2) := by decide +kernel
theorem d_Law_law_572 : decode b_Law_law 572 = .ok (.ifCond .ne 15, 3) := by decide +kernel
theorem d_Law_law_575 : decode b_Law_law 575 = .ok (.aload_n 3, 1) := by decide +kernel
theorem d_Law_law_576 : decode b_Law_law 576 = .ok (.iconst 0, 1) := by decide +kernel
theorem d_Law_law_577 : decode b_Law_law 577 = .ok (.laload, 1) := by decide +kernel
theorem d_Law_law_578 : decode b_Law_law 578 = .ok (.iload 6, 2) := by decide +kernel
theorem d_Law_law_580 : decode b_Law_law 580 = .ok (.i2l, 1) := by decide +kernel
theorem d_Law_law_581 : decode b_Law_law 581 = .ok (.lcmp, 1) := by decide +kernel
theorem d_Law_law_582 : decode b_Law_law 582 = .ok (.ifCond .eq 5, 3) := by decide +kernel
theorem d_Law_law_585 : decode b_Law_law 585 = .ok (.iconst 0, 1) := by decide +kernel
theorem d_Law_law_586 : decode b_Law_law 586 = .ok (.ireturn, 1) := by decide +kernel
theorem d_Law_law_587 : decode b_Law_law 587 = .ok (.goto 709, 3) := by decide +kernel
theorem d_Law_law_590 : decode b_Law_law 590 = .ok (.aload_n 1, 1) := by decide +kernel
theorem d_Law_law_591 : decode b_Law_law 591 = .ok (.aload_n 0, 1) := by decide +kernel
theorem d_Law_law_592 : decode b_Law_law 592 = .ok (.iload 4, 2) := by decide +kernel
theorem d_Law_law_594 : decode b_Law_law 594 = .ok (.iconst 1, 1) := by decide +kernel
theorem d_Law_law_595 : decode b_Law_law 595 = .ok (.iadd, 1) := by decide +kernel
theorem d_Law_law_596 : decode b_Law_law 596 = .ok (.iaload, 1) := by decide +kernel
theorem d_Law_law_597 : decode b_Law_law 597 = .ok (.aload_n 0, 1) := by decide +kernel
theorem d_Law_law_598 : decode b_Law_law 598 = .ok (.iload 4, 2) := by decide +kernel
theorem d_Law_law_600 : decode b_Law_law 600 = .ok (.iconst 2, 1) := by decide +kernel
theorem d_Law_law_601 : decode b_Law_law 601 = .ok (.iadd, 1) := by decide +kernel
theorem d_Law_law_602 : decode b_Law_law 602 = .ok (.iaload, 1) := by decide +kernel
theorem d_Law_law_603 : decode b_Law_law 603 = .ok (.aload_n 0, 1) := by decide +kernel
theorem d_Law_law_604 : decode b_Law_law 604 = .ok (.iload 4, 2) := by decide +kernel
theorem d_Law_law_606 : decode b_Law_law 606 = .ok (.iconst 3, 1) := by decide +kernel
theorem d_Law_law_607 : decode b_Law_law 607 = .ok (.iadd, 1) := by decide +kernel
theorem d_Law_law_608 : decode b_Law_law 608 = .ok (.iaload, 1) := by decide +kernel
theorem d_Law_law_609 : decode b_Law_law 609 = .ok (.aload_n 3, 1) := by decide +kernel
theorem d_Law_law_610 : decode b_Law_law 610 = .ok (.invokestatic 103, 3) := by decide +kernel
theorem d_Law_law_613 : decode b_Law_law 613 = .ok (.istore 5, 2) := by decide +kernel
theorem d_Law_law_615 : decode b_Law_law 615 = .ok (.aload_n 2, 1) := by decide +kernel
theorem d_Law_law_616 : decode b_Law_law 616 = .ok (.aload_n 0, 1) := by decide +kernel
theorem d_Law_law_617 : decode b_Law_law 617 = .ok (.iload 4, 2) := by decide +kernel
theorem d_Law_law_619 : decode b_Law_law 619 = .ok (.iconst 1, 1) := by decide +kernel
theorem d_Law_law_620 : decode b_Law_law 620 = .ok (.iadd, 1) := by decide +kernel
theorem d_Law_law_621 : decode b_Law_law 621 = .ok (.iaload, 1) := by decide +kernel
theorem d_Law_law_622 : decode b_Law_law 622 = .ok (.aload_n 0, 1) := by decide +kernel
theorem d_Law_law_623 : decode b_Law_law 623 = .ok (.iload 4, 2) := by decide +kernel
theorem d_Law_law_625 : decode b_Law_law 625 = .ok (.iconst 2, 1) := by decide +kernel
theorem d_Law_law_626 : decode b_Law_law 626 = .ok (.iadd, 1) := by decide +kernel
theorem d_Law_law_627 : decode b_Law_law 627 = .ok (.iaload, 1) := by decide +kernel
theorem d_Law_law_628 : decode b_Law_law 628 = .ok (.aload_n 0, 1) := by decide +kernel
theorem d_Law_law_629 : decode b_Law_law 629 = .ok (.iload 4, 2) := by decide +kernel
theorem d_Law_law_631 : decode b_Law_law 631 = .ok (.iconst 3, 1) := by decide +kernel
theorem d_Law_law_632 : decode b_Law_law 632 = .ok (.iadd, 1) := by decide +kernel
theorem d_Law_law_633 : decode b_Law_law 633 = .ok (.iaload, 1) := by decide +kernel
theorem d_Law_law_634 : decode b_Law_law 634 = .ok (.invokevirtual 105, 3) := by decide +kernel
theorem d_Law_law_637 : decode b_Law_law 637 = .ok (.istore 6, 2) := by decide +kernel
theorem d_Law_law_639 : decode b_Law_law 639 = .ok (.aload_n 2, 1) := by decide +kernel
theorem d_Law_law_640 : decode b_Law_law 640 = .ok (.invokevirtual 81, 3) := by decide +kernel
theorem d_Law_law_643 : decode b_Law_law 643 = .ok (.iload 5, 2) := by decide +kernel
theorem d_Law_law_645 : decode b_Law_law 645 = .ok (.if_icmp .eq 5, 3) := by decide +kernel
theorem d_Law_law_648 : decode b_Law_law 648 = .ok (.iconst 0, 1) := by decide +kernel
theorem d_Law_law_649 : decode b_Law_law 649 = .ok (.ireturn, 1) := by decide +kernel
theorem d_Law_law_650 : decode b_Law_law 650 = .ok (.iload 5, 2) := by decide +kernel
theorem d_Law_law_652 : decode b_Law_law 652 = .ok (.ifCond .ne 15, 3) := by decide +kernel
theorem d_Law_law_655 : decode b_Law_law 655 = .ok (.aload_n 3, 1) := by decide +kernel
theorem d_Law_law_656 : decode b_Law_law 656 = .ok (.iconst 0, 1) := by decide +kernel
theorem d_Law_law_657 : decode b_Law_law 657 = .ok (.laload, 1) := by decide +kernel
theorem d_Law_law_658 : decode b_Law_law 658 = .ok (.iload 6, 2) := by decide +kernel
theorem d_Law_law_660 : decode b_Law_law 660 = .ok (.i2l, 1) := by decide +kernel
theorem d_Law_law_661 : decode b_Law_law 661 = .ok (.lcmp, 1) := by decide +kernel
theorem d_Law_law_662 : decode b_Law_law 662 = .ok (.ifCond .eq 5, 3) := by decide +kernel
theorem d_Law_law_665 : decode b_Law_law 665 = .ok (.iconst 0, 1) := by decide +kernel
theorem d_Law_law_666 : decode b_Law_law 666 = .ok (.ireturn, 1) := by decide +kernel
theorem d_Law_law_667 : decode b_Law_law 667 = .ok (.goto 629, 3) := by decide +kernel
theorem d_Law_law_670 : decode b_Law_law 670 = .ok (.aload_n 1, 1) := by decide +kernel
theorem d_Law_law_671 : decode b_Law_law 671 = .ok (.aload_n 0, 1) := by decide +kernel
theorem d_Law_law_672 : decode b_Law_law 672 = .ok (.iload 4, 2) := by decide +kernel
theorem d_Law_law_674 : decode b_Law_law 674 = .ok (.iconst 1, 1) := by decide +kernel
theorem d_Law_law_675 : decode b_Law_law 675 = .ok (.iadd, 1) := by decide +kernel
theorem d_Law_law_676 : decode b_Law_law 676 = .ok (.iaload, 1) := by decide +kernel
theorem d_Law_law_677 : decode b_Law_law 677 = .ok (.aload_n 0, 1) := by decide +kernel
theorem d_Law_law_678 : decode b_Law_law 678 = .ok (.iload 4, 2) := by decide +kernel
theorem d_Law_law_680 : decode b_Law_law 680 = .ok (.iconst 2, 1) := by decide +kernel
theorem d_Law_law_681 : decode b_Law_law 681 = .ok (.iadd, 1) := by decide +kernel
theorem d_Law_law_682 : decode b_Law_law 682 = .ok (.iaload, 1) := by decide +kernel
theorem d_Law_law_683 : decode b_Law_law 683 = .ok (.aload_n 3, 1) := by decide +kernel
theorem d_Law_law_684 : decode b_Law_law 684 = .ok (.invokestatic 106, 3) := by decide +kernel
theorem d_Law_law_687 : decode b_Law_law 687 = .ok (.istore 5, 2) := by decide +kernel
theorem d_Law_law_689 : decode b_Law_law 689 = .ok (.aload_n 2, 1) := by decide +kernel
theorem d_Law_law_690 : decode b_Law_law 690 = .ok (.aload_n 0, 1) := by decide +kernel
theorem d_Law_law_691 : decode b_Law_law 691 = .ok (.iload 4, 2) := by decide +kernel
theorem d_Law_law_693 : decode b_Law_law 693 = .ok (.iconst 1, 1) := by decide +kernel
theorem d_Law_law_694 : decode b_Law_law 694 = .ok (.iadd, 1) := by decide +kernel
theorem d_Law_law_695 : decode b_Law_law 695 = .ok (.iaload, 1) := by decide +kernel
theorem d_Law_law_696 : decode b_Law_law 696 = .ok (.aload_n 0, 1) := by decide +kernel
theorem d_Law_law_697 : decode b_Law_law 697 = .ok (.iload 4, 2) := by decide +kernel
theorem d_Law_law_699 : decode b_Law_law 699 = .ok (.iconst 2, 1) := by decide +kernel
theorem d_Law_law_700 : decode b_Law_law 700 = .ok (.iadd, 1) := by decide +kernel
theorem d_Law_law_701 : decode b_Law_law 701 = .ok (.iaload, 1) := by decide +kernel
theorem d_Law_law_702 : decode b_Law_law 702 = .ok (.invokevirtual 108, 3) := by decide +kernel
theorem d_Law_law_705 : decode b_Law_law 705 = .ok (.istore 6, 2) := by decide +kernel
theorem d_Law_law_707 : decode b_Law_law 707 = .ok (.aload_n 2, 1) := by decide +kernel
theorem d_Law_law_708 : decode b_Law_law 708 = .ok (.invokevirtual 81, 3) := by decide +kernel
theorem d_Law_law_711 : decode b_Law_law 711 = .ok (.iload 5, 2) := by decide +kernel
theorem d_Law_law_713 : decode b_Law_law 713 = .ok (.if_icmp .eq 5, 3) := by decide +kernel
theorem d_Law_law_716 : decode b_Law_law 716 = .ok (.iconst 0, 1) := by decide +kernel
theorem d_Law_law_717 : decode b_Law_law 717 = .ok (.ireturn, 1) := by decide +kernel
theorem d_Law_law_718 : decode b_Law_law 718 = .ok (.iload 5, 2) := by decide +kernel
theorem d_Law_law_720 : decode b_Law_law 720 = .ok (.ifCond .ne 15, 3) := by decide +kernel
theorem d_Law_law_723 : decode b_Law_law 723 = .ok (.aload_n 3, 1) := by decide +kernel
theorem d_Law_law_724 : decode b_Law_law 724 = .ok (.iconst 0, 1) := by decide +kernel
theorem d_Law_law_725 : decode b_Law_law 725 = .ok (.laload, 1) := by decide +kernel
theorem d_Law_law_726 : decode b_Law_law 726 = .ok (.iload 6, 2) := by decide +kernel
theorem d_Law_law_728 : decode b_Law_law 728 = .ok (.i2l, 1) := by decide +kernel
theorem d_Law_law_729 : decode b_Law_law 729 = .ok (.lcmp, 1) := by decide +kernel
theorem d_Law_law_730 : decode b_Law_law 730 = .ok (.ifCond .eq 5, 3) := by decide +kernel
theorem d_Law_law_733 : decode b_Law_law 733 = .ok (.iconst 0, 1) := by decide +kernel
theorem d_Law_law_734 : decode b_Law_law 734 = .ok (.ireturn, 1) := by decide +kernel
theorem d_Law_law_735 : decode b_Law_law 735 = .ok (.goto 561, 3) := by decide +kernel
theorem d_Law_law_738 : decode b_Law_law 738 = .ok (.aload_n 1, 1) := by decide +kernel
theorem d_Law_law_739 : decode b_Law_law 739 = .ok (.aload_n 0, 1) := by decide +kernel
theorem d_Law_law_740 : decode b_Law_law 740 = .ok (.iload 4, 2) := by decide +kernel
theorem d_Law_law_742 : decode b_Law_law 742 = .ok (.iconst 1, 1) := by decide +kernel
theorem d_Law_law_743 : decode b_Law_law 743 = .ok (.iadd, 1) := by decide +kernel
theorem d_Law_law_744 : decode b_Law_law 744 = .ok (.iaload, 1) := by decide +kernel
theorem d_Law_law_745 : decode b_Law_law 745 = .ok (.aload_n 0, 1) := by decide +kernel
theorem d_Law_law_746 : decode b_Law_law 746 = .ok (.iload 4, 2) := by decide +kernel
theorem d_Law_law_748 : decode b_Law_law 748 = .ok (.iconst 2, 1) := by decide +kernel
theorem d_Law_law_749 : decode b_Law_law 749 = .ok (.iadd, 1) := by decide +kernel
theorem d_Law_law_750 : decode b_Law_law 750 = .ok (.iaload, 1) := by decide +kernel
theorem d_Law_law_751 : decode b_Law_law 751 = .ok (.aload_n 3, 1) := by decide +kernel
theorem d_Law_law_752 : decode b_Law_law 752 = .ok (.invokestatic 109, 3) := by decide +kernel
theorem d_Law_law_755 : decode b_Law_law 755 = .ok (.istore 5, 2) := by decide +kernel
theorem d_Law_law_757 : decode b_Law_law 757 = .ok (.aload_n 2, 1) := by decide +kernel
theorem d_Law_law_758 : decode b_Law_law 758 = .ok (.aload_n 0, 1) := by decide +kernel
theorem d_Law_law_759 : decode b_Law_law 759 = .ok (.iload 4, 2) := by decide +kernel
theorem d_Law_law_761 : decode b_Law_law 761 = .ok (.iconst 1, 1) := by decide +kernel
theorem d_Law_law_762 : decode b_Law_law 762 = .ok (.iadd, 1) := by decide +kernel
theorem d_Law_law_763 : decode b_Law_law 763 = .ok (.iaload, 1) := by decide +kernel
theorem d_Law_law_764 : decode b_Law_law 764 = .ok (.aload_n 0, 1) := by decide +kernel
theorem d_Law_law_765 : decode b_Law_law 765 = .ok (.iload 4, 2) := by decide +kernel
theorem d_Law_law_767 : decode b_Law_law 767 = .ok (.iconst 2, 1) := by decide +kernel
theorem d_Law_law_768 : decode b_Law_law 768 = .ok (.iadd, 1) := by decide +kernel
theorem d_Law_law_769 : decode b_Law_law 769 = .ok (.iaload, 1) := by decide +kernel
theorem d_Law_law_770 : decode b_Law_law 770 = .ok (.invokevirtual 111, 3) := by decide +kernel
theorem d_Law_law_773 : decode b_Law_law 773 = .ok (.istore 6, 2) := by decide +kernel
theorem d_Law_law_775 : decode b_Law_law 775 = .ok (.aload_n 2, 1) := by decide +kernel
theorem d_Law_law_776 : decode b_Law_law 776 = .ok (.invokevirtual 81, 3) := by decide +kernel
theorem d_Law_law_779 : decode b_Law_law 779 = .ok (.iload 5, 2) := by decide +kernel
theorem d_Law_law_781 : decode b_Law_law 781 = .ok (.if_icmp .eq 5, 3) := by decide +kernel
theorem d_Law_law_784 : decode b_Law_law 784 = .ok (.iconst 0, 1) := by decide +kernel
theorem d_Law_law_785 : decode b_Law_law 785 = .ok (.ireturn, 1) := by decide +kernel
theorem d_Law_law_786 : decode b_Law_law 786 = .ok (.iload 5, 2) := by decide +kernel
theorem d_Law_law_788 : decode b_Law_law 788 = .ok (.ifCond .ne 15, 3) := by decide +kernel
theorem d_Law_law_791 : decode b_Law_law 791 = .ok (.aload_n 3, 1) := by decide +kernel
theorem d_Law_law_792 : decode b_Law_law 792 = .ok (.iconst 0, 1) := by decide +kernel
theorem d_Law_law_793 : decode b_Law_law 793 = .ok (.laload, 1) := by decide +kernel
theorem d_Law_law_794 : decode b_Law_law 794 = .ok (.iload 6, 2) := by decide +kernel
theorem d_Law_law_796 : decode b_Law_law 796 = .ok (.i2l, 1) := by decide +kernel
theorem d_Law_law_797 : decode b_Law_law 797 = .ok (.lcmp, 1) := by decide +kernel
theorem d_Law_law_798 : decode b_Law_law 798 = .ok (.ifCond .eq 5, 3) := by decide +kernel
theorem d_Law_law_801 : decode b_Law_law 801 = .ok (.iconst 0, 1) := by decide +kernel
theorem d_Law_law_802 : decode b_Law_law 802 = .ok (.ireturn, 1) := by decide +kernel
theorem d_Law_law_803 : decode b_Law_law 803 = .ok (.goto 493, 3) := by decide +kernel
theorem d_Law_law_806 : decode b_Law_law 806 = .ok (.aload_n 1, 1) := by decide +kernel
theorem d_Law_law_807 : decode b_Law_law 807 = .ok (.aload_n 0, 1) := by decide +kernel
theorem d_Law_law_808 : decode b_Law_law 808 = .ok (.iload 4, 2) := by decide +kernel
theorem d_Law_law_810 : decode b_Law_law 810 = .ok (.iconst 1, 1) := by decide +kernel
theorem d_Law_law_811 : decode b_Law_law 811 = .ok (.iadd, 1) := by decide +kernel
theorem d_Law_law_812 : decode b_Law_law 812 = .ok (.iaload, 1) := by decide +kernel
theorem d_Law_law_813 : decode b_Law_law 813 = .ok (.aload_n 0, 1) := by decide +kernel
theorem d_Law_law_814 : decode b_Law_law 814 = .ok (.iload 4, 2) := by decide +kernel
theorem d_Law_law_816 : decode b_Law_law 816 = .ok (.iconst 2, 1) := by decide +kernel
theorem d_Law_law_817 : decode b_Law_law 817 = .ok (.iadd, 1) := by decide +kernel
theorem d_Law_law_818 : decode b_Law_law 818 = .ok (.iaload, 1) := by decide +kernel
theorem d_Law_law_819 : decode b_Law_law 819 = .ok (.aload_n 0, 1) := by decide +kernel
theorem d_Law_law_820 : decode b_Law_law 820 = .ok (.iload 4, 2) := by decide +kernel
theorem d_Law_law_822 : decode b_Law_law 822 = .ok (.iconst 3, 1) := by decide +kernel
theorem d_Law_law_823 : decode b_Law_law 823 = .ok (.iadd, 1) := by decide +kernel
theorem d_Law_law_824 : decode b_Law_law 824 = .ok (.iaload, 1) := by decide +kernel
theorem d_Law_law_825 : decode b_Law_law 825 = .ok (.aload_n 3, 1) := by decide +kernel
theorem d_Law_law_826 : decode b_Law_law 826 = .ok (.invokestatic 112, 3) := by decide +kernel
theorem d_Law_law_829 : decode b_Law_law 829 = .ok (.istore 5, 2) := by decide +kernel
theorem d_Law_law_831 : decode b_Law_law 831 = .ok (.aload_n 2, 1) := by decide +kernel
theorem d_Law_law_832 : decode b_Law_law 832 = .ok (.aload_n 0, 1) := by decide +kernel
theorem d_Law_law_833 : decode b_Law_law 833 = .ok (.iload 4, 2) := by decide +kernel
theorem d_Law_law_835 : decode b_Law_law 835 = .ok (.iconst 1, 1) := by decide +kernel
theorem d_Law_law_836 : decode b_Law_law 836 = .ok (.iadd, 1) := by decide +kernel
theorem d_Law_law_837 : decode b_Law_law 837 = .ok (.iaload, 1) := by decide +kernel
theorem d_Law_law_838 : decode b_Law_law 838 = .ok (.aload_n 0, 1) := by decide +kernel
theorem d_Law_law_839 : decode b_Law_law 839 = .ok (.iload 4, 2) := by decide +kernel
theorem d_Law_law_841 : decode b_Law_law 841 = .ok (.iconst 2, 1) := by decide +kernel
theorem d_Law_law_842 : decode b_Law_law 842 = .ok (.iadd, 1) := by decide +kernel
theorem d_Law_law_843 : decode b_Law_law 843 = .ok (.iaload, 1) := by decide +kernel
theorem d_Law_law_844 : decode b_Law_law 844 = .ok (.aload_n 0, 1) := by decide +kernel
theorem d_Law_law_845 : decode b_Law_law 845 = .ok (.iload 4, 2) := by decide +kernel
theorem d_Law_law_847 : decode b_Law_law 847 = .ok (.iconst 3, 1) := by decide +kernel
theorem d_Law_law_848 : decode b_Law_law 848 = .ok (.iadd, 1) := by decide +kernel
theorem d_Law_law_849 : decode b_Law_law 849 = .ok (.iaload, 1) := by decide +kernel
theorem d_Law_law_850 : decode b_Law_law 850 = .ok (.invokevirtual 114, 3) := by decide +kernel
theorem d_Law_law_853 : decode b_Law_law 853 = .ok (.lstore 6, 2) := by decide +kernel
theorem d_Law_law_855 : decode b_Law_law 855 = .ok (.aload_n 2, 1) := by decide +kernel
theorem d_Law_law_856 : decode b_Law_law 856 = .ok (.invokevirtual 81, 3) := by decide +kernel
theorem d_Law_law_859 : decode b_Law_law 859 = .ok (.iload 5, 2) := by decide +kernel
theorem d_Law_law_861 : decode b_Law_law 861 = .ok (.if_icmp .eq 5, 3) := by decide +kernel
theorem d_Law_law_864 : decode b_Law_law 864 = .ok (.iconst 0, 1) := by decide +kernel
theorem d_Law_law_865 : decode b_Law_law 865 = .ok (.ireturn, 1) := by decide +kernel
theorem d_Law_law_866 : decode b_Law_law 866 = .ok (.iload 5, 2) := by decide +kernel
theorem d_Law_law_868 : decode b_Law_law 868 = .ok (.ifCond .ne 14, 3) := by decide +kernel
theorem d_Law_law_871 : decode b_Law_law 871 = .ok (.aload_n 3, 1) := by decide +kernel
theorem d_Law_law_872 : decode b_Law_law 872 = .ok (.iconst 0, 1) := by decide +kernel
theorem d_Law_law_873 : decode b_Law_law 873 = .ok (.laload, 1) := by decide +kernel
theorem d_Law_law_874 : decode b_Law_law 874 = .ok (.lload 6, 2) := by decide +kernel
theorem d_Law_law_876 : decode b_Law_law 876 = .ok (.lcmp, 1) := by decide +kernel
theorem d_Law_law_877 : decode b_Law_law 877 = .ok (.ifCond .eq 5, 3) := by decide +kernel
theorem d_Law_law_880 : decode b_Law_law 880 = .ok (.iconst 0, 1) := by decide +kernel
theorem d_Law_law_881 : decode b_Law_law 881 = .ok (.ireturn, 1) := by decide +kernel
theorem d_Law_law_882 : decode b_Law_law 882 = .ok (.goto 414, 3) := by decide +kernel
theorem d_Law_law_885 : decode b_Law_law 885 = .ok (.aload_n 1, 1) := by decide +kernel
theorem d_Law_law_886 : decode b_Law_law 886 = .ok (.aload_n 0, 1) := by decide +kernel
theorem d_Law_law_887 : decode b_Law_law 887 = .ok (.iload 4, 2) := by decide +kernel
theorem d_Law_law_889 : decode b_Law_law 889 = .ok (.iconst 1, 1) := by decide +kernel
theorem d_Law_law_890 : decode b_Law_law 890 = .ok (.iadd, 1) := by decide +kernel
theorem d_Law_law_891 : decode b_Law_law 891 = .ok (.iaload, 1) := by decide +kernel
theorem d_Law_law_892 : decode b_Law_law 892 = .ok (.aload_n 0, 1) := by decide +kernel
theorem d_Law_law_893 : decode b_Law_law 893 = .ok (.iload 4, 2) := by decide +kernel
theorem d_Law_law_895 : decode b_Law_law 895 = .ok (.iconst 2, 1) := by decide +kernel
theorem d_Law_law_896 : decode b_Law_law 896 = .ok (.iadd, 1) := by decide +kernel
theorem d_Law_law_897 : decode b_Law_law 897 = .ok (.iaload, 1) := by decide +kernel
theorem d_Law_law_898 : decode b_Law_law 898 = .ok (.aload_n 3, 1) := by decide +kernel
theorem d_Law_law_899 : decode b_Law_law 899 = .ok (.invokestatic 115, 3) := by decide +kernel
theorem d_Law_law_902 : decode b_Law_law 902 = .ok (.istore 5, 2) := by decide +kernel
theorem d_Law_law_904 : decode b_Law_law 904 = .ok (.aload_n 2, 1) := by decide +kernel
theorem d_Law_law_905 : decode b_Law_law 905 = .ok (.aload_n 0, 1) := by decide +kernel
theorem d_Law_law_906 : decode b_Law_law 906 = .ok (.iload 4, 2) := by decide +kernel
theorem d_Law_law_908 : decode b_Law_law 908 = .ok (.iconst 1, 1) := by decide +kernel
theorem d_Law_law_909 : decode b_Law_law 909 = .ok (.iadd, 1) := by decide +kernel
theorem d_Law_law_910 : decode b_Law_law 910 = .ok (.iaload, 1) := by decide +kernel
theorem d_Law_law_911 : decode b_Law_law 911 = .ok (.aload_n 0, 1) := by decide +kernel
theorem d_Law_law_912 : decode b_Law_law 912 = .ok (.iload 4, 2) := by decide +kernel
theorem d_Law_law_914 : decode b_Law_law 914 = .ok (.iconst 2, 1) := by decide +kernel
theorem d_Law_law_915 : decode b_Law_law 915 = .ok (.iadd, 1) := by decide +kernel
theorem d_Law_law_916 : decode b_Law_law 916 = .ok (.iaload, 1) := by decide +kernel
theorem d_Law_law_917 : decode b_Law_law 917 = .ok (.invokevirtual 117, 3) := by decide +kernel
theorem d_Law_law_920 : decode b_Law_law 920 = .ok (.istore 6, 2) := by decide +kernel
theorem d_Law_law_922 : decode b_Law_law 922 = .ok (.aload_n 2, 1) := by decide +kernel
theorem d_Law_law_923 : decode b_Law_law 923 = .ok (.invokevirtual 81, 3) := by decide +kernel
theorem d_Law_law_926 : decode b_Law_law 926 = .ok (.iload 5, 2) := by decide +kernel
theorem d_Law_law_928 : decode b_Law_law 928 = .ok (.if_icmp .eq 5, 3) := by decide +kernel
theorem d_Law_law_931 : decode b_Law_law 931 = .ok (.iconst 0, 1) := by decide +kernel
theorem d_Law_law_932 : decode b_Law_law 932 = .ok (.ireturn, 1) := by decide +kernel
theorem d_Law_law_933 : decode b_Law_law 933 = .ok (.iload 5, 2) := by decide +kernel
theorem d_Law_law_935 : decode b_Law_law 935 = .ok (.ifCond .ne 22, 3) := by decide +kernel
theorem d_Law_law_938 : decode b_Law_law 938 = .ok (.aload_n 3, 1) := by decide +kernel
theorem d_Law_law_939 : decode b_Law_law 939 = .ok (.iconst 0, 1) := by decide +kernel
theorem d_Law_law_940 : decode b_Law_law 940 = .ok (.laload, 1) := by decide +kernel
theorem d_Law_law_941 : decode b_Law_law 941 = .ok (.iload 6, 2) := by decide +kernel
theorem d_Law_law_943 : decode b_Law_law 943 = .ok (.ifCond .eq 7, 3) := by decide +kernel
theorem d_Law_law_946 : decode b_Law_law 946 = .ok (.lconst 1, 1) := by decide +kernel
theorem d_Law_law_947 : decode b_Law_law 947 = .ok (.goto 4, 3) := by decide +kernel
theorem d_Law_law_950 : decode b_Law_law 950 = .ok (.lconst 0, 1) := by decide +kernel
theorem d_Law_law_951 : decode b_Law_law 951 = .ok (.lcmp, 1) := by decide +kernel
theorem d_Law_law_952 : decode b_Law_law 952 = .ok (.ifCond .eq 5, 3) := by decide +kernel
theorem d_Law_law_955 : decode b_Law_law 955 = .ok (.iconst 0, 1) := by decide +kernel
theorem d_Law_law_956 : decode b_Law_law 956 = .ok (.ireturn, 1) := by decide +kernel
theorem d_Law_law_957 : decode b_Law_law 957 = .ok (.goto 339, 3) := by decide +kernel
theorem d_Law_law_960 : decode b_Law_law 960 = .ok (.aload_n 1, 1) := by decide +kernel
theorem d_Law_law_961 : decode b_Law_law 961 = .ok (.aload_n 0, 1) := by decide +kernel
theorem d_Law_law_962 : decode b_Law_law 962 = .ok (.iload 4, 2) := by decide +kernel
theorem d_Law_law_964 : decode b_Law_law 964 = .ok (.iconst 1, 1) := by decide +kernel
theorem d_Law_law_965 : decode b_Law_law 965 = .ok (.iadd, 1) := by decide +kernel
theorem d_Law_law_966 : decode b_Law_law 966 = .ok (.iaload, 1) := by decide +kernel
theorem d_Law_law_967 : decode b_Law_law 967 = .ok (.aload_n 3, 1) := by decide +kernel
theorem d_Law_law_968 : decode b_Law_law 968 = .ok (.invokestatic 118, 3) := by decide +kernel
theorem d_Law_law_971 : decode b_Law_law 971 = .ok (.istore 5, 2) := by decide +kernel
theorem d_Law_law_973 : decode b_Law_law 973 = .ok (.aload_n 2, 1) := by decide +kernel
theorem d_Law_law_974 : decode b_Law_law 974 = .ok (.aload_n 0, 1) := by decide +kernel
theorem d_Law_law_975 : decode b_Law_law 975 = .ok (.iload 4, 2) := by decide +kernel
theorem d_Law_law_977 : decode b_Law_law 977 = .ok (.iconst 1, 1) := by decide +kernel
theorem d_Law_law_978 : decode b_Law_law 978 = .ok (.iadd, 1) := by decide +kernel
theorem d_Law_law_979 : decode b_Law_law 979 = .ok (.iaload, 1) := by decide +kernel
theorem d_Law_law_980 : decode b_Law_law 980 = .ok (.invokevirtual 120, 3) := by decide +kernel
theorem d_Law_law_983 : decode b_Law_law 983 = .ok (.istore 6, 2) := by decide +kernel
theorem d_Law_law_985 : decode b_Law_law 985 = .ok (.aload_n 2, 1) := by decide +kernel
theorem d_Law_law_986 : decode b_Law_law 986 = .ok (.invokevirtual 81, 3) := by decide +kernel
theorem d_Law_law_989 : decode b_Law_law 989 = .ok (.iload 5, 2) := by decide +kernel
theorem d_Law_law_991 : decode b_Law_law 991 = .ok (.if_icmp .eq 5, 3) := by decide +kernel
theorem d_Law_law_994 : decode b_Law_law 994 = .ok (.iconst 0, 1) := by decide +kernel
theorem d_Law_law_995 : decode b_Law_law 995 = .ok (.ireturn, 1) := by decide +kernel
theorem d_Law_law_996 : decode b_Law_law 996 = .ok (.iload 5, 2) := by decide +kernel
theorem d_Law_law_998 : decode b_Law_law 998 = .ok (.ifCond .ne 22, 3) := by decide +kernel
theorem d_Law_law_1001 : decode b_Law_law 1001 = .ok (.aload_n 3, 1) := by decide +kernel
theorem d_Law_law_1002 : decode b_Law_law 1002 = .ok (.iconst 0, 1) := by decide +kernel
theorem d_Law_law_1003 : decode b_Law_law 1003 = .ok (.laload, 1) := by decide +kernel
theorem d_Law_law_1004 : decode b_Law_law 1004 = .ok (.iload 6, 2) := by decide +kernel
theorem d_Law_law_1006 : decode b_Law_law 1006 = .ok (.ifCond .eq 7, 3) := by decide +kernel
theorem d_Law_law_1009 : decode b_Law_law 1009 = .ok (.lconst 1, 1) := by decide +kernel
theorem d_Law_law_1010 : decode b_Law_law 1010 = .ok (.goto 4, 3) := by decide +kernel
theorem d_Law_law_1013 : decode b_Law_law 1013 = .ok (.lconst 0, 1) := by decide +kernel
theorem d_Law_law_1014 : decode b_Law_law 1014 = .ok (.lcmp, 1) := by decide +kernel
theorem d_Law_law_1015 : decode b_Law_law 1015 = .ok (.ifCond .eq 5, 3) := by decide +kernel
theorem d_Law_law_1018 : decode b_Law_law 1018 = .ok (.iconst 0, 1) := by decide +kernel
theorem d_Law_law_1019 : decode b_Law_law 1019 = .ok (.ireturn, 1) := by decide +kernel
theorem d_Law_law_1020 : decode b_Law_law 1020 = .ok (.goto 276, 3) := by decide +kernel
theorem d_Law_law_1023 : decode b_Law_law 1023 = .ok (.aload_n 1, 1) := by decide +kernel
theorem d_Law_law_1024 : decode b_Law_law 1024 = .ok (.aload_n 0, 1) := by decide +kernel
theorem d_Law_law_1025 : decode b_Law_law 1025 = .ok (.iload 4, 2) := by decide +kernel
theorem d_Law_law_1027 : decode b_Law_law 1027 = .ok (.iconst 1, 1) := by decide +kernel
theorem d_Law_law_1028 : decode b_Law_law 1028 = .ok (.iadd, 1) := by decide +kernel
theorem d_Law_law_1029 : decode b_Law_law 1029 = .ok (.iaload, 1) := by decide +kernel
theorem d_Law_law_1030 : decode b_Law_law 1030 = .ok (.aload_n 0, 1) := by decide +kernel
theorem d_Law_law_1031 : decode b_Law_law 1031 = .ok (.iload 4, 2) := by decide +kernel
theorem d_Law_law_1033 : decode b_Law_law 1033 = .ok (.iconst 2, 1) := by decide +kernel
theorem d_Law_law_1034 : decode b_Law_law 1034 = .ok (.iadd, 1) := by decide +kernel
theorem d_Law_law_1035 : decode b_Law_law 1035 = .ok (.iaload, 1) := by decide +kernel
theorem d_Law_law_1036 : decode b_Law_law 1036 = .ok (.aload_n 0, 1) := by decide +kernel
theorem d_Law_law_1037 : decode b_Law_law 1037 = .ok (.iload 4, 2) := by decide +kernel
theorem d_Law_law_1039 : decode b_Law_law 1039 = .ok (.iconst 3, 1) := by decide +kernel
theorem d_Law_law_1040 : decode b_Law_law 1040 = .ok (.iadd, 1) := by decide +kernel
theorem d_Law_law_1041 : decode b_Law_law 1041 = .ok (.iaload, 1) := by decide +kernel
theorem d_Law_law_1042 : decode b_Law_law 1042 = .ok (.aload_n 3, 1) := by decide +kernel
theorem d_Law_law_1043 : decode b_Law_law 1043 = .ok (.invokestatic 121, 3) := by decide +kernel
theorem d_Law_law_1046 : decode b_Law_law 1046 = .ok (.istore 5, 2) := by decide +kernel
theorem d_Law_law_1048 : decode b_Law_law 1048 = .ok (.aload_n 2, 1) := by decide +kernel
theorem d_Law_law_1049 : decode b_Law_law 1049 = .ok (.aload_n 0, 1) := by decide +kernel
theorem d_Law_law_1050 : decode b_Law_law 1050 = .ok (.iload 4, 2) := by decide +kernel
theorem d_Law_law_1052 : decode b_Law_law 1052 = .ok (.iconst 1, 1) := by decide +kernel
theorem d_Law_law_1053 : decode b_Law_law 1053 = .ok (.iadd, 1) := by decide +kernel
theorem d_Law_law_1054 : decode b_Law_law 1054 = .ok (.iaload, 1) := by decide +kernel
theorem d_Law_law_1055 : decode b_Law_law 1055 = .ok (.aload_n 0, 1) := by decide +kernel
theorem d_Law_law_1056 : decode b_Law_law 1056 = .ok (.iload 4, 2) := by decide +kernel
theorem d_Law_law_1058 : decode b_Law_law 1058 = .ok (.iconst 2, 1) := by decide +kernel
theorem d_Law_law_1059 : decode b_Law_law 1059 = .ok (.iadd, 1) := by decide +kernel
theorem d_Law_law_1060 : decode b_Law_law 1060 = .ok (.iaload, 1) := by decide +kernel
theorem d_Law_law_1061 : decode b_Law_law 1061 = .ok (.aload_n 0, 1) := by decide +kernel
theorem d_Law_law_1062 : decode b_Law_law 1062 = .ok (.iload 4, 2) := by decide +kernel
theorem d_Law_law_1064 : decode b_Law_law 1064 = .ok (.iconst 3, 1) := by decide +kernel
theorem d_Law_law_1065 : decode b_Law_law 1065 = .ok (.iadd, 1) := by decide +kernel
theorem d_Law_law_1066 : decode b_Law_law 1066 = .ok (.iaload, 1) := by decide +kernel
theorem d_Law_law_1067 : decode b_Law_law 1067 = .ok (.invokevirtual 123, 3) := by decide +kernel
theorem d_Law_law_1070 : decode b_Law_law 1070 = .ok (.istore 6, 2) := by decide +kernel
theorem d_Law_law_1072 : decode b_Law_law 1072 = .ok (.aload_n 2, 1) := by decide +kernel
theorem d_Law_law_1073 : decode b_Law_law 1073 = .ok (.invokevirtual 81, 3) := by decide +kernel
theorem d_Law_law_1076 : decode b_Law_law 1076 = .ok (.iload 5, 2) := by decide +kernel
theorem d_Law_law_1078 : decode b_Law_law 1078 = .ok (.if_icmp .eq 5, 3) := by decide +kernel
theorem d_Law_law_1081 : decode b_Law_law 1081 = .ok (.iconst 0, 1) := by decide +kernel
theorem d_Law_law_1082 : decode b_Law_law 1082 = .ok (.ireturn, 1) := by decide +kernel
theorem d_Law_law_1083 : decode b_Law_law 1083 = .ok (.iload 5, 2) := by decide +kernel
theorem d_Law_law_1085 : decode b_Law_law 1085 = .ok (.ifCond .ne 15, 3) := by decide +kernel
theorem d_Law_law_1088 : decode b_Law_law 1088 = .ok (.aload_n 3, 1) := by decide +kernel
theorem d_Law_law_1089 : decode b_Law_law 1089 = .ok (.iconst 0, 1) := by decide +kernel
theorem d_Law_law_1090 : decode b_Law_law 1090 = .ok (.laload, 1) := by decide +kernel
theorem d_Law_law_1091 : decode b_Law_law 1091 = .ok (.iload 6, 2) := by decide +kernel
theorem d_Law_law_1093 : decode b_Law_law 1093 = .ok (.i2l, 1) := by decide +kernel
theorem d_Law_law_1094 : decode b_Law_law 1094 = .ok (.lcmp, 1) := by decide +kernel
theorem d_Law_law_1095 : decode b_Law_law 1095 = .ok (.ifCond .eq 5, 3) := by decide +kernel
theorem d_Law_law_1098 : decode b_Law_law 1098 = .ok (.iconst 0, 1) := by decide +kernel
theorem d_Law_law_1099 : decode b_Law_law 1099 = .ok (.ireturn, 1) := by decide +kernel
theorem d_Law_law_1100 : decode b_Law_law 1100 = .ok (.goto 196, 3) := by decide +kernel
theorem d_Law_law_1103 : decode b_Law_law 1103 = .ok (.aload_n 1, 1) := by decide +kernel
theorem d_Law_law_1104 : decode b_Law_law 1104 = .ok (.aload_n 0, 1) := by decide +kernel
theorem d_Law_law_1105 : decode b_Law_law 1105 = .ok (.iload 4, 2) := by decide +kernel
theorem d_Law_law_1107 : decode b_Law_law 1107 = .ok (.iconst 1, 1) := by decide +kernel
theorem d_Law_law_1108 : decode b_Law_law 1108 = .ok (.iadd, 1) := by decide +kernel
theorem d_Law_law_1109 : decode b_Law_law 1109 = .ok (.iaload, 1) := by decide +kernel
theorem d_Law_law_1110 : decode b_Law_law 1110 = .ok (.aload_n 3, 1) := by decide +kernel
theorem d_Law_law_1111 : decode b_Law_law 1111 = .ok (.invokestatic 124, 3) := by decide +kernel
theorem d_Law_law_1114 : decode b_Law_law 1114 = .ok (.istore 5, 2) := by decide +kernel
theorem d_Law_law_1116 : decode b_Law_law 1116 = .ok (.aload_n 2, 1) := by decide +kernel
theorem d_Law_law_1117 : decode b_Law_law 1117 = .ok (.aload_n 0, 1) := by decide +kernel
theorem d_Law_law_1118 : decode b_Law_law 1118 = .ok (.iload 4, 2) := by decide +kernel
theorem d_Law_law_1120 : decode b_Law_law 1120 = .ok (.iconst 1, 1) := by decide +kernel
theorem d_Law_law_1121 : decode b_Law_law 1121 = .ok (.iadd, 1) := by decide +kernel
theorem d_Law_law_1122 : decode b_Law_law 1122 = .ok (.iaload, 1) := by decide +kernel
theorem d_Law_law_1123 : decode b_Law_law 1123 = .ok (.invokevirtual 126, 3) := by decide +kernel
theorem d_Law_law_1126 : decode b_Law_law 1126 = .ok (.istore 6, 2) := by decide +kernel
theorem d_Law_law_1128 : decode b_Law_law 1128 = .ok (.aload_n 2, 1) := by decide +kernel
theorem d_Law_law_1129 : decode b_Law_law 1129 = .ok (.invokevirtual 81, 3) := by decide +kernel
theorem d_Law_law_1132 : decode b_Law_law 1132 = .ok (.iload 5, 2) := by decide +kernel
theorem d_Law_law_1134 : decode b_Law_law 1134 = .ok (.if_icmp .eq 5, 3) := by decide +kernel
theorem d_Law_law_1137 : decode b_Law_law 1137 = .ok (.iconst 0, 1) := by decide +kernel
theorem d_Law_law_1138 : decode b_Law_law 1138 = .ok (.ireturn, 1) := by decide +kernel
theorem d_Law_law_1139 : decode b_Law_law 1139 = .ok (.iload 5, 2) := by decide +kernel
theorem d_Law_law_1141 : decode b_Law_law 1141 = .ok (.ifCond .ne 15, 3) := by decide +kernel
theorem d_Law_law_1144 : decode b_Law_law 1144 = .ok (.aload_n 3, 1) := by decide +kernel
theorem d_Law_law_1145 : decode b_Law_law 1145 = .ok (.iconst 0, 1) := by decide +kernel
theorem d_Law_law_1146 : decode b_Law_law 1146 = .ok (.laload, 1) := by decide +kernel
theorem d_Law_law_1147 : decode b_Law_law 1147 = .ok (.iload 6, 2) := by decide +kernel
theorem d_Law_law_1149 : decode b_Law_law 1149 = .ok (.i2l, 1) := by decide +kernel
theorem d_Law_law_1150 : decode b_Law_law 1150 = .ok (.lcmp, 1) := by decide +kernel
theorem d_Law_law_1151 : decode b_Law_law 1151 = .ok (.ifCond .eq 5, 3) := by decide +kernel
theorem d_Law_law_1154 : decode b_Law_law 1154 = .ok (.iconst 0, 1) := by decide +kernel
theorem d_Law_law_1155 : decode b_Law_law 1155 = .ok (.ireturn, 1) := by decide +kernel
theorem d_Law_law_1156 : decode b_Law_law 1156 = .ok (.goto 140, 3) := by decide +kernel
theorem d_Law_law_1159 : decode b_Law_law 1159 = .ok (.aload_n 1, 1) := by decide +kernel
theorem d_Law_law_1160 : decode b_Law_law 1160 = .ok (.invokevirtual 127, 3) := by decide +kernel
theorem d_Law_law_1163 : decode b_Law_law 1163 = .ok (.aload_n 2, 1) := by decide +kernel
theorem d_Law_law_1164 : decode b_Law_law 1164 = .ok (.invokevirtual 130, 3) := by decide +kernel
theorem d_Law_law_1167 : decode b_Law_law 1167 = .ok (.if_icmp .eq 129, 3) := by decide +kernel
theorem d_Law_law_1170 : decode b_Law_law 1170 = .ok (.iconst 0, 1) := by decide +kernel
theorem d_Law_law_1171 : decode b_Law_law 1171 = .ok (.ireturn, 1) := by decide +kernel
theorem d_Law_law_1172 : decode b_Law_law 1172 = .ok (.aload_n 1, 1) := by decide +kernel
theorem d_Law_law_1173 : decode b_Law_law 1173 = .ok (.aload_n 0, 1) := by decide +kernel
theorem d_Law_law_1174 : decode b_Law_law 1174 = .ok (.iload 4, 2) := by decide +kernel
theorem d_Law_law_1176 : decode b_Law_law 1176 = .ok (.iconst 1, 1) := by decide +kernel
theorem d_Law_law_1177 : decode b_Law_law 1177 = .ok (.iadd, 1) := by decide +kernel
theorem d_Law_law_1178 : decode b_Law_law 1178 = .ok (.iaload, 1) := by decide +kernel
theorem d_Law_law_1179 : decode b_Law_law 1179 = .ok (.aload_n 3, 1) := by decide +kernel
theorem d_Law_law_1180 : decode b_Law_law 1180 = .ok (.invokestatic 131, 3) := by decide +kernel
theorem d_Law_law_1183 : decode b_Law_law 1183 = .ok (.istore 5, 2) := by decide +kernel
theorem d_Law_law_1185 : decode b_Law_law 1185 = .ok (.aload_n 2, 1) := by decide +kernel
theorem d_Law_law_1186 : decode b_Law_law 1186 = .ok (.aload_n 0, 1) := by decide +kernel
theorem d_Law_law_1187 : decode b_Law_law 1187 = .ok (.iload 4, 2) := by decide +kernel
theorem d_Law_law_1189 : decode b_Law_law 1189 = .ok (.iconst 1, 1) := by decide +kernel
theorem d_Law_law_1190 : decode b_Law_law 1190 = .ok (.iadd, 1) := by decide +kernel
theorem d_Law_law_1191 : decode b_Law_law 1191 = .ok (.iaload, 1) := by decide +kernel
theorem d_Law_law_1192 : decode b_Law_law 1192 = .ok (.invokevirtual 133, 3) := by decide +kernel
theorem d_Law_law_1195 : decode b_Law_law 1195 = .ok (.istore 6, 2) := by decide +kernel
theorem d_Law_law_1197 : decode b_Law_law 1197 = .ok (.aload_n 2, 1) := by decide +kernel
theorem d_Law_law_1198 : decode b_Law_law 1198 = .ok (.invokevirtual 81, 3) := by decide +kernel
theorem d_Law_law_1201 : decode b_Law_law 1201 = .ok (.iload 5, 2) := by decide +kernel
theorem d_Law_law_1203 : decode b_Law_law 1203 = .ok (.if_icmp .eq 5, 3) := by decide +kernel
theorem d_Law_law_1206 : decode b_Law_law 1206 = .ok (.iconst 0, 1) := by decide +kernel
theorem d_Law_law_1207 : decode b_Law_law 1207 = .ok (.ireturn, 1) := by decide +kernel
theorem d_Law_law_1208 : decode b_Law_law 1208 = .ok (.iload 5, 2) := by decide +kernel
theorem d_Law_law_1210 : decode b_Law_law 1210 = .ok (.ifCond .ne 15, 3) := by decide +kernel
theorem d_Law_law_1213 : decode b_Law_law 1213 = .ok (.aload_n 3, 1) := by decide +kernel
theorem d_Law_law_1214 : decode b_Law_law 1214 = .ok (.iconst 0, 1) := by decide +kernel
theorem d_Law_law_1215 : decode b_Law_law 1215 = .ok (.laload, 1) := by decide +kernel
theorem d_Law_law_1216 : decode b_Law_law 1216 = .ok (.iload 6, 2) := by decide +kernel
theorem d_Law_law_1218 : decode b_Law_law 1218 = .ok (.i2l, 1) := by decide +kernel
theorem d_Law_law_1219 : decode b_Law_law 1219 = .ok (.lcmp, 1) := by decide +kernel
theorem d_Law_law_1220 : decode b_Law_law 1220 = .ok (.ifCond .eq 5, 3) := by decide +kernel
theorem d_Law_law_1223 : decode b_Law_law 1223 = .ok (.iconst 0, 1) := by decide +kernel
theorem d_Law_law_1224 : decode b_Law_law 1224 = .ok (.ireturn, 1) := by decide +kernel
theorem d_Law_law_1225 : decode b_Law_law 1225 = .ok (.goto 71, 3) := by decide +kernel
theorem d_Law_law_1228 : decode b_Law_law 1228 = .ok (.aload_n 1, 1) := by decide +kernel
theorem d_Law_law_1229 : decode b_Law_law 1229 = .ok (.aload_n 0, 1) := by decide +kernel
theorem d_Law_law_1230 : decode b_Law_law 1230 = .ok (.iload 4, 2) := by decide +kernel
theorem d_Law_law_1232 : decode b_Law_law 1232 = .ok (.iconst 1, 1) := by decide +kernel
theorem d_Law_law_1233 : decode b_Law_law 1233 = .ok (.iadd, 1) := by decide +kernel
theorem d_Law_law_1234 : decode b_Law_law 1234 = .ok (.iaload, 1) := by decide +kernel
theorem d_Law_law_1235 : decode b_Law_law 1235 = .ok (.aload_n 0, 1) := by decide +kernel
theorem d_Law_law_1236 : decode b_Law_law 1236 = .ok (.iload 4, 2) := by decide +kernel
theorem d_Law_law_1238 : decode b_Law_law 1238 = .ok (.iconst 2, 1) := by decide +kernel
theorem d_Law_law_1239 : decode b_Law_law 1239 = .ok (.iadd, 1) := by decide +kernel
theorem d_Law_law_1240 : decode b_Law_law 1240 = .ok (.iaload, 1) := by decide +kernel
theorem d_Law_law_1241 : decode b_Law_law 1241 = .ok (.aload_n 3, 1) := by decide +kernel
theorem d_Law_law_1242 : decode b_Law_law 1242 = .ok (.invokestatic 134, 3) := by decide +kernel
theorem d_Law_law_1245 : decode b_Law_law 1245 = .ok (.istore 5, 2) := by decide +kernel
theorem d_Law_law_1247 : decode b_Law_law 1247 = .ok (.aload_n 2, 1) := by decide +kernel
theorem d_Law_law_1248 : decode b_Law_law 1248 = .ok (.aload_n 0, 1) := by decide +kernel
theorem d_Law_law_1249 : decode b_Law_law 1249 = .ok (.iload 4, 2) := by decide +kernel
theorem d_Law_law_1251 : decode b_Law_law 1251 = .ok (.iconst 1, 1) := by decide +kernel
theorem d_Law_law_1252 : decode b_Law_law 1252 = .ok (.iadd, 1) := by decide +kernel
theorem d_Law_law_1253 : decode b_Law_law 1253 = .ok (.iaload, 1) := by decide +kernel
theorem d_Law_law_1254 : decode b_Law_law 1254 = .ok (.aload_n 0, 1) := by decide +kernel
theorem d_Law_law_1255 : decode b_Law_law 1255 = .ok (.iload 4, 2) := by decide +kernel
theorem d_Law_law_1257 : decode b_Law_law 1257 = .ok (.iconst 2, 1) := by decide +kernel
theorem d_Law_law_1258 : decode b_Law_law 1258 = .ok (.iadd, 1) := by decide +kernel
theorem d_Law_law_1259 : decode b_Law_law 1259 = .ok (.iaload, 1) := by decide +kernel
theorem d_Law_law_1260 : decode b_Law_law 1260 = .ok (.invokevirtual 136, 3) := by decide +kernel
theorem d_Law_law_1263 : decode b_Law_law 1263 = .ok (.istore 6, 2) := by decide +kernel
theorem d_Law_law_1265 : decode b_Law_law 1265 = .ok (.aload_n 2, 1) := by decide +kernel
theorem d_Law_law_1266 : decode b_Law_law 1266 = .ok (.invokevirtual 81, 3) := by decide +kernel
theorem d_Law_law_1269 : decode b_Law_law 1269 = .ok (.iload 5, 2) := by decide +kernel
theorem d_Law_law_1271 : decode b_Law_law 1271 = .ok (.if_icmp .eq 5, 3) := by decide +kernel
theorem d_Law_law_1274 : decode b_Law_law 1274 = .ok (.iconst 0, 1) := by decide +kernel
theorem d_Law_law_1275 : decode b_Law_law 1275 = .ok (.ireturn, 1) := by decide +kernel
theorem d_Law_law_1276 : decode b_Law_law 1276 = .ok (.iload 5, 2) := by decide +kernel
theorem d_Law_law_1278 : decode b_Law_law 1278 = .ok (.ifCond .ne 15, 3) := by decide +kernel
theorem d_Law_law_1281 : decode b_Law_law 1281 = .ok (.aload_n 3, 1) := by decide +kernel
theorem d_Law_law_1282 : decode b_Law_law 1282 = .ok (.iconst 0, 1) := by decide +kernel
theorem d_Law_law_1283 : decode b_Law_law 1283 = .ok (.laload, 1) := by decide +kernel
theorem d_Law_law_1284 : decode b_Law_law 1284 = .ok (.iload 6, 2) := by decide +kernel
theorem d_Law_law_1286 : decode b_Law_law 1286 = .ok (.i2l, 1) := by decide +kernel
theorem d_Law_law_1287 : decode b_Law_law 1287 = .ok (.lcmp, 1) := by decide +kernel
theorem d_Law_law_1288 : decode b_Law_law 1288 = .ok (.ifCond .eq 5, 3) := by decide +kernel
theorem d_Law_law_1291 : decode b_Law_law 1291 = .ok (.iconst 0, 1) := by decide +kernel
theorem d_Law_law_1292 : decode b_Law_law 1292 = .ok (.ireturn, 1) := by decide +kernel
theorem d_Law_law_1293 : decode b_Law_law 1293 = .ok (.goto 3, 3) := by decide +kernel
theorem d_Law_law_1296 : decode b_Law_law 1296 = .ok (.iinc 4 5, 3) := by decide +kernel
theorem d_Law_law_1299 : decode b_Law_law 1299 = .ok (.goto (-1276), 3) := by decide +kernel
theorem d_Law_law_1302 : decode b_Law_law 1302 = .ok (.iconst 1, 1) := by decide +kernel
theorem d_Law_law_1303 : decode b_Law_law 1303 = .ok (.ireturn, 1) := by decide +kernel
def f_Law_law_L23 (L : Nat) (xs : Nat → Int32) (b : Nat) (r1 : Option Nat) (r2 : Option Nat) (r3 : Option Nat) : Nat → Int32 → Mp → Nat → Option (Nat × Int32 × Mp × Nat)
  | 0, _, _, _ => none
  | n + 1, x4, w, sz => if ((Int32.ofNat L) - (5 : Int32)) < x4 then (some (0, x4, w, sz)) else ((xsc L xs x4).bind fun v_8 => if (v_8 &&& (31 : Int32)) = 0 then ((xsc L xs (x4 + (1 : Int32))).bind fun v_9 => (xsc L xs (x4 + (2 : Int32))).bind fun v_10 => (xsc L xs (x4 + (3 : Int32))).bind fun v_11 => (xsc L xs (x4 + (4 : Int32))).bind fun v_12 => (f_Law_leaf w sz r1 v_9 v_10 v_11 v_12 r3).bind fun q_13 => (xsc L xs (x4 + (1 : Int32))).bind fun v_14 => (xsc L xs (x4 + (2 : Int32))).bind fun v_15 => (xsc L xs (x4 + (3 : Int32))).bind fun v_16 => (xsc L xs (x4 + (4 : Int32))).bind fun v_17 => (xo q_13.2.1 r2 5).bind fun b_19 => (f_Mod_leaf q_13.2.1 b_19 v_14 v_15 v_16 v_17).bind fun q_18 => (xo q_18.2 r2 5).bind fun b_21 => (f_Mod_thrown q_18.2 b_21).bind fun q_20 => if q_20 = q_13.1 then (if q_13.1 = 0 then ((aJ q_18.2 r3 5 (0 : Int32)).bind fun v_22 => if (lg_cmp v_22 q_18.1.toInt64) = 0 then (f_Law_law_L23 L xs b r1 r2 r3 n (x4 + 5) q_18.2 q_13.2.2) else (some (2, x4, q_18.2, q_13.2.2))) else (f_Law_law_L23 L xs b r1 r2 r3 n (x4 + 5) q_18.2 q_13.2.2)) else (some (1, x4, q_18.2, q_13.2.2))) else (if (v_8 &&& (31 : Int32)) = 1 then ((xsc L xs (x4 + (1 : Int32))).bind fun v_23 => (xsc L xs (x4 + (2 : Int32))).bind fun v_24 => (xsc L xs (x4 + (3 : Int32))).bind fun v_25 => (xsc L xs (x4 + (4 : Int32))).bind fun v_26 => (f_Law_pixel w sz r1 v_23 v_24 v_25 v_26 r3).bind fun q_27 => (xsc L xs (x4 + (1 : Int32))).bind fun v_28 => (xsc L xs (x4 + (2 : Int32))).bind fun v_29 => (xsc L xs (x4 + (3 : Int32))).bind fun v_30 => (xsc L xs (x4 + (4 : Int32))).bind fun v_31 => (xo q_27.2.1 r2 5).bind fun b_33 => (f_Mod_pixel q_27.2.1 b_33 v_28 v_29 v_30 v_31).bind fun q_32 => (xo q_32.2 r2 5).bind fun b_35 => (f_Mod_thrown q_32.2 b_35).bind fun q_34 => if q_34 = q_27.1 then (if q_27.1 = 0 then ((aJ q_32.2 r3 5 (0 : Int32)).bind fun v_36 => xJ1 (fun (y_37 : Int64) => if (lg_cmp v_36 y_37) = 0 then (f_Law_law_L23 L xs b r1 r2 r3 n (x4 + 5) q_32.2 q_27.2.2) else (some (4, x4, q_32.2, q_27.2.2))) fun J_38 => if q_32.1 = 0 then (J_38 (0 : Int64)) else (J_38 (1 : Int64))) else (f_Law_law_L23 L xs b r1 r2 r3 n (x4 + 5) q_32.2 q_27.2.2)) else (some (3, x4, q_32.2, q_27.2.2))) else (if (v_8 &&& (31 : Int32)) = 2 then ((xsc L xs (x4 + (1 : Int32))).bind fun v_39 => (xsc L xs (x4 + (2 : Int32))).bind fun v_40 => (f_Law_reserve w sz r1 v_39 v_40 r3).bind fun q_41 => (xsc L xs (x4 + (1 : Int32))).bind fun v_42 => (xsc L xs (x4 + (2 : Int32))).bind fun v_43 => (xo q_41.2.1 r2 5).bind fun b_45 => (f_Mod_reserve q_41.2.1 b_45 v_42 v_43).bind fun q_44 => (xo q_44.2 r2 5).bind fun b_47 => (f_Mod_thrown q_44.2 b_47).bind fun q_46 => if q_46 = q_41.1 then (if q_41.1 = 0 then ((aJ q_44.2 r3 5 (0 : Int32)).bind fun v_48 => xJ1 (fun (y_49 : Int64) => if (lg_cmp v_48 y_49) = 0 then (f_Law_law_L23 L xs b r1 r2 r3 n (x4 + 5) q_44.2 q_41.2.2) else (some (6, x4, q_44.2, q_41.2.2))) fun J_50 => if q_44.1 = 0 then (J_50 (0 : Int64)) else (J_50 (1 : Int64))) else (f_Law_law_L23 L xs b r1 r2 r3 n (x4 + 5) q_44.2 q_41.2.2)) else (some (5, x4, q_44.2, q_41.2.2))) else (if (v_8 &&& (31 : Int32)) = 3 then ((xsc L xs (x4 + (1 : Int32))).bind fun v_51 => (xsc L xs (x4 + (2 : Int32))).bind fun v_52 => (f_Law_match w sz r1 v_51 v_52 r3).bind fun q_53 => (xsc L xs (x4 + (1 : Int32))).bind fun v_54 => (xsc L xs (x4 + (2 : Int32))).bind fun v_55 => (xo q_53.2.1 r2 5).bind fun b_57 => (f_Mod_match q_53.2.1 b_57 v_54 v_55).bind fun q_56 => (xo q_56.2 r2 5).bind fun b_59 => (f_Mod_thrown q_56.2 b_59).bind fun q_58 => if q_58 = q_53.1 then (if q_53.1 = 0 then ((aJ q_56.2 r3 5 (0 : Int32)).bind fun v_60 => if (lg_cmp v_60 q_56.1.toInt64) = 0 then (f_Law_law_L23 L xs b r1 r2 r3 n (x4 + 5) q_56.2 q_53.2.2) else (some (8, x4, q_56.2, q_53.2.2))) else (f_Law_law_L23 L xs b r1 r2 r3 n (x4 + 5) q_56.2 q_53.2.2)) else (some (7, x4, q_56.2, q_53.2.2))) else (if (v_8 &&& (31 : Int32)) = 4 then ((xsc L xs (x4 + (1 : Int32))).bind fun v_61 => (f_Law_apart w sz r1 v_61 r3).bind fun q_62 => (xsc L xs (x4 + (1 : Int32))).bind fun v_63 => (xo q_62.2.1 r2 5).bind fun b_65 => (f_Mod_apart q_62.2.1 b_65 v_63).bind fun q_64 => (xo q_64.2 r2 5).bind fun b_67 => (f_Mod_thrown q_64.2 b_67).bind fun q_66 => if q_66 = q_62.1 then (if q_62.1 = 0 then ((aJ q_64.2 r3 5 (0 : Int32)).bind fun v_68 => if (lg_cmp v_68 q_64.1.toInt64) = 0 then (f_Law_law_L23 L xs b r1 r2 r3 n (x4 + 5) q_64.2 q_62.2.2) else (some (10, x4, q_64.2, q_62.2.2))) else (f_Law_law_L23 L xs b r1 r2 r3 n (x4 + 5) q_64.2 q_62.2.2)) else (some (9, x4, q_64.2, q_62.2.2))) else (if (v_8 &&& (31 : Int32)) = 5 then ((xsc L xs (x4 + (1 : Int32))).bind fun v_69 => (xsc L xs (x4 + (2 : Int32))).bind fun v_70 => (xsc L xs (x4 + (3 : Int32))).bind fun v_71 => (f_Law_place w sz r1 v_69 v_70 v_71 r3).bind fun q_72 => (xsc L xs (x4 + (1 : Int32))).bind fun v_73 => (xsc L xs (x4 + (2 : Int32))).bind fun v_74 => (xsc L xs (x4 + (3 : Int32))).bind fun v_75 => (xo q_72.2.1 r2 5).bind fun b_77 => (f_Mod_place q_72.2.1 b_77 v_73 v_74 v_75).bind fun q_76 => (xo q_76.2 r2 5).bind fun b_79 => (f_Mod_thrown q_76.2 b_79).bind fun q_78 => if q_78 = q_72.1 then (if q_72.1 = 0 then ((aJ q_76.2 r3 5 (0 : Int32)).bind fun v_80 => if (lg_cmp v_80 q_76.1.toInt64) = 0 then (f_Law_law_L23 L xs b r1 r2 r3 n (x4 + 5) q_76.2 q_72.2.2) else (some (12, x4, q_76.2, q_72.2.2))) else (f_Law_law_L23 L xs b r1 r2 r3 n (x4 + 5) q_76.2 q_72.2.2)) else (some (11, x4, q_76.2, q_72.2.2))) else (if (v_8 &&& (31 : Int32)) = 6 then ((xsc L xs (x4 + (1 : Int32))).bind fun v_81 => (xsc L xs (x4 + (2 : Int32))).bind fun v_82 => (xsc L xs (x4 + (3 : Int32))).bind fun v_83 => (f_Law_at w sz r1 v_81 v_82 v_83 r3).bind fun q_84 => (xsc L xs (x4 + (1 : Int32))).bind fun v_85 => (xsc L xs (x4 + (2 : Int32))).bind fun v_86 => (xsc L xs (x4 + (3 : Int32))).bind fun v_87 => (xo q_84.2.1 r2 5).bind fun b_89 => (f_Mod_at q_84.2.1 b_89 v_85 v_86 v_87).bind fun q_88 => (xo q_88.2 r2 5).bind fun b_91 => (f_Mod_thrown q_88.2 b_91).bind fun q_90 => if q_90 = q_84.1 then (if q_84.1 = 0 then ((aJ q_88.2 r3 5 (0 : Int32)).bind fun v_92 => if (lg_cmp v_92 q_88.1.toInt64) = 0 then (f_Law_law_L23 L xs b r1 r2 r3 n (x4 + 5) q_88.2 q_84.2.2) else (some (14, x4, q_88.2, q_84.2.2))) else (f_Law_law_L23 L xs b r1 r2 r3 n (x4 + 5) q_88.2 q_84.2.2)) else (some (13, x4, q_88.2, q_84.2.2))) else (if (v_8 &&& (31 : Int32)) = 7 then ((xsc L xs (x4 + (1 : Int32))).bind fun v_93 => (xsc L xs (x4 + (2 : Int32))).bind fun v_94 => (f_Law_about w sz r1 v_93 v_94 r3).bind fun q_95 => (xsc L xs (x4 + (1 : Int32))).bind fun v_96 => (xsc L xs (x4 + (2 : Int32))).bind fun v_97 => (xo q_95.2.1 r2 5).bind fun b_99 => (f_Mod_about q_95.2.1 b_99 v_96 v_97).bind fun q_98 => (xo q_98.2 r2 5).bind fun b_101 => (f_Mod_thrown q_98.2 b_101).bind fun q_100 => if q_100 = q_95.1 then (if q_95.1 = 0 then ((aJ q_98.2 r3 5 (0 : Int32)).bind fun v_102 => if (lg_cmp v_102 q_98.1.toInt64) = 0 then (f_Law_law_L23 L xs b r1 r2 r3 n (x4 + 5) q_98.2 q_95.2.2) else (some (16, x4, q_98.2, q_95.2.2))) else (f_Law_law_L23 L xs b r1 r2 r3 n (x4 + 5) q_98.2 q_95.2.2)) else (some (15, x4, q_98.2, q_95.2.2))) else (if (v_8 &&& (31 : Int32)) = 8 then ((xsc L xs (x4 + (1 : Int32))).bind fun v_103 => (xsc L xs (x4 + (2 : Int32))).bind fun v_104 => (f_Law_seam w sz r1 v_103 v_104 r3).bind fun q_105 => (xsc L xs (x4 + (1 : Int32))).bind fun v_106 => (xsc L xs (x4 + (2 : Int32))).bind fun v_107 => (xo q_105.2.1 r2 5).bind fun b_109 => (f_Mod_seam q_105.2.1 b_109 v_106 v_107).bind fun q_108 => (xo q_108.2 r2 5).bind fun b_111 => (f_Mod_thrown q_108.2 b_111).bind fun q_110 => if q_110 = q_105.1 then (if q_105.1 = 0 then ((aJ q_108.2 r3 5 (0 : Int32)).bind fun v_112 => if (lg_cmp v_112 q_108.1.toInt64) = 0 then (f_Law_law_L23 L xs b r1 r2 r3 n (x4 + 5) q_108.2 q_105.2.2) else (some (18, x4, q_108.2, q_105.2.2))) else (f_Law_law_L23 L xs b r1 r2 r3 n (x4 + 5) q_108.2 q_105.2.2)) else (some (17, x4, q_108.2, q_105.2.2))) else (if (v_8 &&& (31 : Int32)) = 9 then ((xsc L xs (x4 + (1 : Int32))).bind fun v_113 => (xsc L xs (x4 + (2 : Int32))).bind fun v_114 => (xsc L xs (x4 + (3 : Int32))).bind fun v_115 => (f_Law_sum w sz r1 v_113 v_114 v_115 r3).bind fun q_116 => (xsc L xs (x4 + (1 : Int32))).bind fun v_117 => (xsc L xs (x4 + (2 : Int32))).bind fun v_118 => (xsc L xs (x4 + (3 : Int32))).bind fun v_119 => (xo q_116.2.1 r2 5).bind fun b_121 => (f_Mod_sum q_116.2.1 b_121 v_117 v_118 v_119).bind fun q_120 => (xo q_120.2 r2 5).bind fun b_123 => (f_Mod_thrown q_120.2 b_123).bind fun q_122 => if q_122 = q_116.1 then (if q_116.1 = 0 then ((aJ q_120.2 r3 5 (0 : Int32)).bind fun v_124 => if (lg_cmp v_124 q_120.1) = 0 then (f_Law_law_L23 L xs b r1 r2 r3 n (x4 + 5) q_120.2 q_116.2.2) else (some (20, x4, q_120.2, q_116.2.2))) else (f_Law_law_L23 L xs b r1 r2 r3 n (x4 + 5) q_120.2 q_116.2.2)) else (some (19, x4, q_120.2, q_116.2.2))) else (if (v_8 &&& (31 : Int32)) = 10 then ((xsc L xs (x4 + (1 : Int32))).bind fun v_125 => (xsc L xs (x4 + (2 : Int32))).bind fun v_126 => (f_Law_mirrored w sz r1 v_125 v_126 r3).bind fun q_127 => (xsc L xs (x4 + (1 : Int32))).bind fun v_128 => (xsc L xs (x4 + (2 : Int32))).bind fun v_129 => (xo q_127.2.1 r2 5).bind fun b_131 => (f_Mod_mirrored q_127.2.1 b_131 v_128 v_129).bind fun q_130 => (xo q_130.2 r2 5).bind fun b_133 => (f_Mod_thrown q_130.2 b_133).bind fun q_132 => if q_132 = q_127.1 then (if q_127.1 = 0 then ((aJ q_130.2 r3 5 (0 : Int32)).bind fun v_134 => xJ1 (fun (y_135 : Int64) => if (lg_cmp v_134 y_135) = 0 then (f_Law_law_L23 L xs b r1 r2 r3 n (x4 + 5) q_130.2 q_127.2.2) else (some (22, x4, q_130.2, q_127.2.2))) fun J_136 => if q_130.1 = 0 then (J_136 (0 : Int64)) else (J_136 (1 : Int64))) else (f_Law_law_L23 L xs b r1 r2 r3 n (x4 + 5) q_130.2 q_127.2.2)) else (some (21, x4, q_130.2, q_127.2.2))) else (if (v_8 &&& (31 : Int32)) = 11 then ((xsc L xs (x4 + (1 : Int32))).bind fun v_137 => (f_Law_balance w sz r1 v_137 r3).bind fun q_138 => (xsc L xs (x4 + (1 : Int32))).bind fun v_139 => (xo q_138.2.1 r2 5).bind fun b_141 => (f_Mod_balance q_138.2.1 b_141 v_139).bind fun q_140 => (xo q_140.2 r2 5).bind fun b_143 => (f_Mod_thrown q_140.2 b_143).bind fun q_142 => if q_142 = q_138.1 then (if q_138.1 = 0 then ((aJ q_140.2 r3 5 (0 : Int32)).bind fun v_144 => xJ1 (fun (y_145 : Int64) => if (lg_cmp v_144 y_145) = 0 then (f_Law_law_L23 L xs b r1 r2 r3 n (x4 + 5) q_140.2 q_138.2.2) else (some (24, x4, q_140.2, q_138.2.2))) fun J_146 => if q_140.1 = 0 then (J_146 (0 : Int64)) else (J_146 (1 : Int64))) else (f_Law_law_L23 L xs b r1 r2 r3 n (x4 + 5) q_140.2 q_138.2.2)) else (some (23, x4, q_140.2, q_138.2.2))) else (if (v_8 &&& (31 : Int32)) = 12 then ((xsc L xs (x4 + (1 : Int32))).bind fun v_147 => (xsc L xs (x4 + (2 : Int32))).bind fun v_148 => (xsc L xs (x4 + (3 : Int32))).bind fun v_149 => (f_Law_number w sz r1 v_147 v_148 v_149 r3).bind fun q_150 => (xsc L xs (x4 + (1 : Int32))).bind fun v_151 => (xsc L xs (x4 + (2 : Int32))).bind fun v_152 => (xsc L xs (x4 + (3 : Int32))).bind fun v_153 => (xo q_150.2.1 r2 5).bind fun b_155 => (f_Mod_number q_150.2.1 b_155 v_151 v_152 v_153).bind fun q_154 => (xo q_154.2 r2 5).bind fun b_157 => (f_Mod_thrown q_154.2 b_157).bind fun q_156 => if q_156 = q_150.1 then (if q_150.1 = 0 then ((aJ q_154.2 r3 5 (0 : Int32)).bind fun v_158 => if (lg_cmp v_158 q_154.1.toInt64) = 0 then (f_Law_law_L23 L xs b r1 r2 r3 n (x4 + 5) q_154.2 q_150.2.2) else (some (26, x4, q_154.2, q_150.2.2))) else (f_Law_law_L23 L xs b r1 r2 r3 n (x4 + 5) q_154.2 q_150.2.2)) else (some (25, x4, q_154.2, q_150.2.2))) else (if (v_8 &&& (31 : Int32)) = 13 then ((xsc L xs (x4 + (1 : Int32))).bind fun v_159 => (f_Law_want w sz r1 v_159 r3).bind fun q_160 => (xsc L xs (x4 + (1 : Int32))).bind fun v_161 => (xo q_160.2.1 r2 5).bind fun b_163 => (f_Mod_want q_160.2.1 b_163 v_161).bind fun q_162 => (xo q_162.2 r2 5).bind fun b_165 => (f_Mod_thrown q_162.2 b_165).bind fun q_164 => if q_164 = q_160.1 then (if q_160.1 = 0 then ((aJ q_162.2 r3 5 (0 : Int32)).bind fun v_166 => if (lg_cmp v_166 q_162.1.toInt64) = 0 then (f_Law_law_L23 L xs b r1 r2 r3 n (x4 + 5) q_162.2 q_160.2.2) else (some (28, x4, q_162.2, q_160.2.2))) else (f_Law_law_L23 L xs b r1 r2 r3 n (x4 + 5) q_162.2 q_160.2.2)) else (some (27, x4, q_162.2, q_160.2.2))) else (if (v_8 &&& (31 : Int32)) = 14 then ((xo w r1 0).bind fun b_168 => (f_LM_clear w b_168).bind fun q_167 => (xo q_167.2 r2 5).bind fun b_170 => (f_Mod_clear q_167.2 b_170).bind fun q_169 => if q_167.1 = q_169.1 then (f_Law_law_L23 L xs b r1 r2 r3 n (x4 + 5) q_169.2 sz) else (some (29, x4, q_169.2, sz))) else (if (v_8 &&& (31 : Int32)) = 15 then ((xsc L xs (x4 + (1 : Int32))).bind fun v_171 => (f_Law_faces 0 0 1 w sz r1 v_171 r3).bind fun q_172 => (xsc L xs (x4 + (1 : Int32))).bind fun v_173 => (xo q_172.2.1 r2 5).bind fun b_175 => (f_Mod_faces q_172.2.1 b_175 v_173).bind fun q_174 => (xo q_174.2 r2 5).bind fun b_177 => (f_Mod_thrown q_174.2 b_177).bind fun q_176 => if q_176 = q_172.1 then (if q_172.1 = 0 then ((aJ q_174.2 r3 5 (0 : Int32)).bind fun v_178 => if (lg_cmp v_178 q_174.1.toInt64) = 0 then (f_Law_law_L23 L xs b r1 r2 r3 n (x4 + 5) q_174.2 q_172.2.2) else (some (31, x4, q_174.2, q_172.2.2))) else (f_Law_law_L23 L xs b r1 r2 r3 n (x4 + 5) q_174.2 q_172.2.2)) else (some (30, x4, q_174.2, q_172.2.2))) else (if (v_8 &&& (31 : Int32)) = 16 then ((xsc L xs (x4 + (1 : Int32))).bind fun v_179 => (xsc L xs (x4 + (2 : Int32))).bind fun v_180 => (f_Law_planned w sz r1 v_179 v_180 r3).bind fun q_181 => (xsc L xs (x4 + (1 : Int32))).bind fun v_182 => (xsc L xs (x4 + (2 : Int32))).bind fun v_183 => (xo q_181.2.1 r2 5).bind fun b_185 => (f_Mod_planned q_181.2.1 b_185 v_182 v_183).bind fun q_184 => (xo q_184.2 r2 5).bind fun b_187 => (f_Mod_thrown q_184.2 b_187).bind fun q_186 => if q_186 = q_181.1 then (if q_181.1 = 0 then ((aJ q_184.2 r3 5 (0 : Int32)).bind fun v_188 => if (lg_cmp v_188 q_184.1.toInt64) = 0 then (f_Law_law_L23 L xs b r1 r2 r3 n (x4 + 5) q_184.2 q_181.2.2) else (some (33, x4, q_184.2, q_181.2.2))) else (f_Law_law_L23 L xs b r1 r2 r3 n (x4 + 5) q_184.2 q_181.2.2)) else (some (32, x4, q_184.2, q_181.2.2))) else (f_Law_law_L23 L xs b r1 r2 r3 n (x4 + 5) w sz))))))))))))))))))
set_option maxHeartbeats 4000000 in
set_option maxRecDepth 100000 in
theorem w_Law_law_L23 {p : Program} {l : Launch} {e : Env} {R : Room} {s : State} {m : MethodId} {args : Array Value} {below : List Frame} {meth : Method} {c : Code} {Q : State → Prop} {cells slots : Nat} {G : Gx} {b : Nat} {r1 : Option Nat} {r2 : Option Nat} {r3 : Option Nat} (C0 : CallFix p m c b_Law_law 8 s args wA R_Law) (hE : xE G vwCl xaty s) (hR1 : 8 ≤ R.frames) (hR2 : 193 ≤ R.locals) (hR3 : (cells + 2 * 11) ≤ R.cells) (hR4 : (slots + 2 * 152) ≤ R.slots) (hlt : l.stackTraces = false) {L : Nat} {xs : Nat → Int32} (hX : va_X b L xs s s.heap) (hbl : b < s.heap.size) (hbA : ¬ xA G b) : ∀ (n : Nat) (x4 : Int32) (w : Mp) (sz : Nat) (H : Heap) (locs : List Loc) (_ : n ≤ 2) (q : Nat × Int32 × Mp × Nat) (ls : Array Slot), xhd G vwCl w H → xS G s H locs → H.size = sz → xL ls 8 [(0, .inr (.inl (some b))), (1, .inr (.inl r1)), (2, .inr (.inl r2)), (3, .inr (.inl r3)), (4, .inl x4)] → f_Law_law_L23 L xs b r1 r2 r3 n x4 w sz = some q → ((q.1 = 0 → ∀ (H : Heap) (locs : List Loc) (ls : Array Slot), xhd G vwCl q.2.2.1 H → xS G s H locs → H.size = q.2.2.2 → xL ls 8 [(0, .inr (.inl (some b))), (1, .inr (.inl r1)), (2, .inr (.inl r2)), (3, .inr (.inl r3)), (4, .inl q.2.1)] → W p l e R s m args below meth c H locs (cells + 2 * 11) (slots + 2 * 152) Q (F0 m 1302 ls [])) ∧ (q.1 = 1 → ∀ (H : Heap) (locs : List Loc) (ls : Array Slot), xhd G vwCl q.2.2.1 H → xS G s H locs → H.size = q.2.2.2 → xL ls 8 [(0, .inr (.inl (some b))), (1, .inr (.inl r1)), (2, .inr (.inl r2)), (3, .inr (.inl r3)), (4, .inl q.2.1)] → W p l e R s m args below meth c H locs (cells + 2 * 11) (slots + 2 * 152) Q (F0 m 190 ls [])) ∧ (q.1 = 2 → ∀ (H : Heap) (locs : List Loc) (ls : Array Slot), xhd G vwCl q.2.2.1 H → xS G s H locs → H.size = q.2.2.2 → xL ls 8 [(0, .inr (.inl (some b))), (1, .inr (.inl r1)), (2, .inr (.inl r2)), (3, .inr (.inl r3)), (4, .inl q.2.1)] → W p l e R s m args below meth c H locs (cells + 2 * 11) (slots + 2 * 152) Q (F0 m 207 ls [])) ∧ (q.1 = 3 → ∀ (H : Heap) (locs : List Loc) (ls : Array Slot), xhd G vwCl q.2.2.1 H → xS G s H locs → H.size = q.2.2.2 → xL ls 8 [(0, .inr (.inl (some b))), (1, .inr (.inl r1)), (2, .inr (.inl r2)), (3, .inr (.inl r3)), (4, .inl q.2.1)] → W p l e R s m args below meth c H locs (cells + 2 * 11) (slots + 2 * 152) Q (F0 m 282 ls [])) ∧ (q.1 = 4 → ∀ (H : Heap) (locs : List Loc) (ls : Array Slot), xhd G vwCl q.2.2.1 H → xS G s H locs → H.size = q.2.2.2 → xL ls 8 [(0, .inr (.inl (some b))), (1, .inr (.inl r1)), (2, .inr (.inl r2)), (3, .inr (.inl r3)), (4, .inl q.2.1)] → W p l e R s m args below meth c H locs (cells + 2 * 11) (slots + 2 * 152) Q (F0 m 306 ls [])) ∧ (q.1 = 5 → ∀ (H : Heap) (locs : List Loc) (ls : Array Slot), xhd G vwCl q.2.2.1 H → xS G s H locs → H.size = q.2.2.2 → xL ls 8 [(0, .inr (.inl (some b))), (1, .inr (.inl r1)), (2, .inr (.inl r2)), (3, .inr (.inl r3)), (4, .inl q.2.1)] → W p l e R s m args below meth c H locs (cells + 2 * 11) (slots + 2 * 152) Q (F0 m 357 ls [])) ∧ (q.1 = 6 → ∀ (H : Heap) (locs : List Loc) (ls : Array Slot), xhd G vwCl q.2.2.1 H → xS G s H locs → H.size = q.2.2.2 → xL ls 8 [(0, .inr (.inl (some b))), (1, .inr (.inl r1)), (2, .inr (.inl r2)), (3, .inr (.inl r3)), (4, .inl q.2.1)] → W p l e R s m args below meth c H locs (cells + 2 * 11) (slots + 2 * 152) Q (F0 m 381 ls [])) ∧ (q.1 = 7 → ∀ (H : Heap) (locs : List Loc) (ls : Array Slot), xhd G vwCl q.2.2.1 H → xS G s H locs → H.size = q.2.2.2 → xL ls 8 [(0, .inr (.inl (some b))), (1, .inr (.inl r1)), (2, .inr (.inl r2)), (3, .inr (.inl r3)), (4, .inl q.2.1)] → W p l e R s m args below meth c H locs (cells + 2 * 11) (slots + 2 * 152) Q (F0 m 432 ls [])) ∧ (q.1 = 8 → ∀ (H : Heap) (locs : List Loc) (ls : Array Slot), xhd G vwCl q.2.2.1 H → xS G s H locs → H.size = q.2.2.2 → xL ls 8 [(0, .inr (.inl (some b))), (1, .inr (.inl r1)), (2, .inr (.inl r2)), (3, .inr (.inl r3)), (4, .inl q.2.1)] → W p l e R s m args below meth c H locs (cells + 2 * 11) (slots + 2 * 152) Q (F0 m 449 ls [])) ∧ (q.1 = 9 → ∀ (H : Heap) (locs : List Loc) (ls : Array Slot), xhd G vwCl q.2.2.1 H → xS G s H locs → H.size = q.2.2.2 → xL ls 8 [(0, .inr (.inl (some b))), (1, .inr (.inl r1)), (2, .inr (.inl r2)), (3, .inr (.inl r3)), (4, .inl q.2.1)] → W p l e R s m args below meth c H locs (cells + 2 * 11) (slots + 2 * 152) Q (F0 m 488 ls [])) ∧ (q.1 = 10 → ∀ (H : Heap) (locs : List Loc) (ls : Array Slot), xhd G vwCl q.2.2.1 H → xS G s H locs → H.size = q.2.2.2 → xL ls 8 [(0, .inr (.inl (some b))), (1, .inr (.inl r1)), (2, .inr (.inl r2)), (3, .inr (.inl r3)), (4, .inl q.2.1)] → W p l e R s m args below meth c H locs (cells + 2 * 11) (slots + 2 * 152) Q (F0 m 505 ls [])) ∧ (q.1 = 11 → ∀ (H : Heap) (locs : List Loc) (ls : Array Slot), xhd G vwCl q.2.2.1 H → xS G s H locs → H.size = q.2.2.2 → xL ls 8 [(0, .inr (.inl (some b))), (1, .inr (.inl r1)), (2, .inr (.inl r2)), (3, .inr (.inl r3)), (4, .inl q.2.1)] → W p l e R s m args below meth c H locs (cells + 2 * 11) (slots + 2 * 152) Q (F0 m 568 ls [])) ∧ (q.1 = 12 → ∀ (H : Heap) (locs : List Loc) (ls : Array Slot), xhd G vwCl q.2.2.1 H → xS G s H locs → H.size = q.2.2.2 → xL ls 8 [(0, .inr (.inl (some b))), (1, .inr (.inl r1)), (2, .inr (.inl r2)), (3, .inr (.inl r3)), (4, .inl q.2.1)] → W p l e R s m args below meth c H locs (cells + 2 * 11) (slots + 2 * 152) Q (F0 m 585 ls [])) ∧ (q.1 = 13 → ∀ (H : Heap) (locs : List Loc) (ls : Array Slot), xhd G vwCl q.2.2.1 H → xS G s H locs → H.size = q.2.2.2 → xL ls 8 [(0, .inr (.inl (some b))), (1, .inr (.inl r1)), (2, .inr (.inl r2)), (3, .inr (.inl r3)), (4, .inl q.2.1)] → W p l e R s m args below meth c H locs (cells + 2 * 11) (slots + 2 * 152) Q (F0 m 648 ls [])) ∧ (q.1 = 14 → ∀ (H : Heap) (locs : List Loc) (ls : Array Slot), xhd G vwCl q.2.2.1 H → xS G s H locs → H.size = q.2.2.2 → xL ls 8 [(0, .inr (.inl (some b))), (1, .inr (.inl r1)), (2, .inr (.inl r2)), (3, .inr (.inl r3)), (4, .inl q.2.1)] → W p l e R s m args below meth c H locs (cells + 2 * 11) (slots + 2 * 152) Q (F0 m 665 ls [])) ∧ (q.1 = 15 → ∀ (H : Heap) (locs : List Loc) (ls : Array Slot), xhd G vwCl q.2.2.1 H → xS G s H locs → H.size = q.2.2.2 → xL ls 8 [(0, .inr (.inl (some b))), (1, .inr (.inl r1)), (2, .inr (.inl r2)), (3, .inr (.inl r3)), (4, .inl q.2.1)] → W p l e R s m args below meth c H locs (cells + 2 * 11) (slots + 2 * 152) Q (F0 m 716 ls [])) ∧ (q.1 = 16 → ∀ (H : Heap) (locs : List Loc) (ls : Array Slot), xhd G vwCl q.2.2.1 H → xS G s H locs → H.size = q.2.2.2 → xL ls 8 [(0, .inr (.inl (some b))), (1, .inr (.inl r1)), (2, .inr (.inl r2)), (3, .inr (.inl r3)), (4, .inl q.2.1)] → W p l e R s m args below meth c H locs (cells + 2 * 11) (slots + 2 * 152) Q (F0 m 733 ls [])) ∧ (q.1 = 17 → ∀ (H : Heap) (locs : List Loc) (ls : Array Slot), xhd G vwCl q.2.2.1 H → xS G s H locs → H.size = q.2.2.2 → xL ls 8 [(0, .inr (.inl (some b))), (1, .inr (.inl r1)), (2, .inr (.inl r2)), (3, .inr (.inl r3)), (4, .inl q.2.1)] → W p l e R s m args below meth c H locs (cells + 2 * 11) (slots + 2 * 152) Q (F0 m 784 ls [])) ∧ (q.1 = 18 → ∀ (H : Heap) (locs : List Loc) (ls : Array Slot), xhd G vwCl q.2.2.1 H → xS G s H locs → H.size = q.2.2.2 → xL ls 8 [(0, .inr (.inl (some b))), (1, .inr (.inl r1)), (2, .inr (.inl r2)), (3, .inr (.inl r3)), (4, .inl q.2.1)] → W p l e R s m args below meth c H locs (cells + 2 * 11) (slots + 2 * 152) Q (F0 m 801 ls [])) ∧ (q.1 = 19 → ∀ (H : Heap) (locs : List Loc) (ls : Array Slot), xhd G vwCl q.2.2.1 H → xS G s H locs → H.size = q.2.2.2 → xL ls 8 [(0, .inr (.inl (some b))), (1, .inr (.inl r1)), (2, .inr (.inl r2)), (3, .inr (.inl r3)), (4, .inl q.2.1)] → W p l e R s m args below meth c H locs (cells + 2 * 11) (slots + 2 * 152) Q (F0 m 864 ls [])) ∧ (q.1 = 20 → ∀ (H : Heap) (locs : List Loc) (ls : Array Slot), xhd G vwCl q.2.2.1 H → xS G s H locs → H.size = q.2.2.2 → xL ls 8 [(0, .inr (.inl (some b))), (1, .inr (.inl r1)), (2, .inr (.inl r2)), (3, .inr (.inl r3)), (4, .inl q.2.1)] → W p l e R s m args below meth c H locs (cells + 2 * 11) (slots + 2 * 152) Q (F0 m 880 ls [])) ∧ (q.1 = 21 → ∀ (H : Heap) (locs : List Loc) (ls : Array Slot), xhd G vwCl q.2.2.1 H → xS G s H locs → H.size = q.2.2.2 → xL ls 8 [(0, .inr (.inl (some b))), (1, .inr (.inl r1)), (2, .inr (.inl r2)), (3, .inr (.inl r3)), (4, .inl q.2.1)] → W p l e R s m args below meth c H locs (cells + 2 * 11) (slots + 2 * 152) Q (F0 m 931 ls [])) ∧ (q.1 = 22 → ∀ (H : Heap) (locs : List Loc) (ls : Array Slot), xhd G vwCl q.2.2.1 H → xS G s H locs → H.size = q.2.2.2 → xL ls 8 [(0, .inr (.inl (some b))), (1, .inr (.inl r1)), (2, .inr (.inl r2)), (3, .inr (.inl r3)), (4, .inl q.2.1)] → W p l e R s m args below meth c H locs (cells + 2 * 11) (slots + 2 * 152) Q (F0 m 955 ls [])) ∧ (q.1 = 23 → ∀ (H : Heap) (locs : List Loc) (ls : Array Slot), xhd G vwCl q.2.2.1 H → xS G s H locs → H.size = q.2.2.2 → xL ls 8 [(0, .inr (.inl (some b))), (1, .inr (.inl r1)), (2, .inr (.inl r2)), (3, .inr (.inl r3)), (4, .inl q.2.1)] → W p l e R s m args below meth c H locs (cells + 2 * 11) (slots + 2 * 152) Q (F0 m 994 ls [])) ∧ (q.1 = 24 → ∀ (H : Heap) (locs : List Loc) (ls : Array Slot), xhd G vwCl q.2.2.1 H → xS G s H locs → H.size = q.2.2.2 → xL ls 8 [(0, .inr (.inl (some b))), (1, .inr (.inl r1)), (2, .inr (.inl r2)), (3, .inr (.inl r3)), (4, .inl q.2.1)] → W p l e R s m args below meth c H locs (cells + 2 * 11) (slots + 2 * 152) Q (F0 m 1018 ls [])) ∧ (q.1 = 25 → ∀ (H : Heap) (locs : List Loc) (ls : Array Slot), xhd G vwCl q.2.2.1 H → xS G s H locs → H.size = q.2.2.2 → xL ls 8 [(0, .inr (.inl (some b))), (1, .inr (.inl r1)), (2, .inr (.inl r2)), (3, .inr (.inl r3)), (4, .inl q.2.1)] → W p l e R s m args below meth c H locs (cells + 2 * 11) (slots + 2 * 152) Q (F0 m 1081 ls [])) ∧ (q.1 = 26 → ∀ (H : Heap) (locs : List Loc) (ls : Array Slot), xhd G vwCl q.2.2.1 H → xS G s H locs → H.size = q.2.2.2 → xL ls 8 [(0, .inr (.inl (some b))), (1, .inr (.inl r1)), (2, .inr (.inl r2)), (3, .inr (.inl r3)), (4, .inl q.2.1)] → W p l e R s m args below meth c H locs (cells + 2 * 11) (slots + 2 * 152) Q (F0 m 1098 ls [])) ∧ (q.1 = 27 → ∀ (H : Heap) (locs : List Loc) (ls : Array Slot), xhd G vwCl q.2.2.1 H → xS G s H locs → H.size = q.2.2.2 → xL ls 8 [(0, .inr (.inl (some b))), (1, .inr (.inl r1)), (2, .inr (.inl r2)), (3, .inr (.inl r3)), (4, .inl q.2.1)] → W p l e R s m args below meth c H locs (cells + 2 * 11) (slots + 2 * 152) Q (F0 m 1137 ls [])) ∧ (q.1 = 28 → ∀ (H : Heap) (locs : List Loc) (ls : Array Slot), xhd G vwCl q.2.2.1 H → xS G s H locs → H.size = q.2.2.2 → xL ls 8 [(0, .inr (.inl (some b))), (1, .inr (.inl r1)), (2, .inr (.inl r2)), (3, .inr (.inl r3)), (4, .inl q.2.1)] → W p l e R s m args below meth c H locs (cells + 2 * 11) (slots + 2 * 152) Q (F0 m 1154 ls [])) ∧ (q.1 = 29 → ∀ (H : Heap) (locs : List Loc) (ls : Array Slot), xhd G vwCl q.2.2.1 H → xS G s H locs → H.size = q.2.2.2 → xL ls 8 [(0, .inr (.inl (some b))), (1, .inr (.inl r1)), (2, .inr (.inl r2)), (3, .inr (.inl r3)), (4, .inl q.2.1)] → W p l e R s m args below meth c H locs (cells + 2 * 11) (slots + 2 * 152) Q (F0 m 1170 ls [])) ∧ (q.1 = 30 → ∀ (H : Heap) (locs : List Loc) (ls : Array Slot), xhd G vwCl q.2.2.1 H → xS G s H locs → H.size = q.2.2.2 → xL ls 8 [(0, .inr (.inl (some b))), (1, .inr (.inl r1)), (2, .inr (.inl r2)), (3, .inr (.inl r3)), (4, .inl q.2.1)] → W p l e R s m args below meth c H locs (cells + 2 * 11) (slots + 2 * 152) Q (F0 m 1206 ls [])) ∧ (q.1 = 31 → ∀ (H : Heap) (locs : List Loc) (ls : Array Slot), xhd G vwCl q.2.2.1 H → xS G s H locs → H.size = q.2.2.2 → xL ls 8 [(0, .inr (.inl (some b))), (1, .inr (.inl r1)), (2, .inr (.inl r2)), (3, .inr (.inl r3)), (4, .inl q.2.1)] → W p l e R s m args below meth c H locs (cells + 2 * 11) (slots + 2 * 152) Q (F0 m 1223 ls [])) ∧ (q.1 = 32 → ∀ (H : Heap) (locs : List Loc) (ls : Array Slot), xhd G vwCl q.2.2.1 H → xS G s H locs → H.size = q.2.2.2 → xL ls 8 [(0, .inr (.inl (some b))), (1, .inr (.inl r1)), (2, .inr (.inl r2)), (3, .inr (.inl r3)), (4, .inl q.2.1)] → W p l e R s m args below meth c H locs (cells + 2 * 11) (slots + 2 * 152) Q (F0 m 1274 ls [])) ∧ (q.1 = 33 → ∀ (H : Heap) (locs : List Loc) (ls : Array Slot), xhd G vwCl q.2.2.1 H → xS G s H locs → H.size = q.2.2.2 → xL ls 8 [(0, .inr (.inl (some b))), (1, .inr (.inl r1)), (2, .inr (.inl r2)), (3, .inr (.inl r3)), (4, .inl q.2.1)] → W p l e R s m args below meth c H locs (cells + 2 * 11) (slots + 2 * 152) Q (F0 m 1291 ls []))) → W p l e R s m args below meth c H locs (cells + (2 - n) * 11) (slots + (2 - n) * 152) Q (F0 m 23 ls []) := by
  intro n
  induction n with
  | zero => intro _ _ _ _ _ _ q ls hH hS hz hl h; cases h
  | succ n ih =>
    intro x4 w sz H locs hn q ls hH hS hz hl h K
    rw [f_Law_law_L23] at h
    refine x_iload C0 hl 4 d_Law_law_23 rfl ?_
    refine x_aload_n C0 hl 0 d_Law_law_25 rfl rfl ?_
    refine x_slen C0 hX hbl hbA hS d_Law_law_26 ?_
    refine lv_iconst (v := 5) C0.1 C0.2.1 d_Law_law_27 (by decide) ?_
    refine lv_isub C0.1 C0.2.1 d_Law_law_28 ?_
    refine x_icmp_gt C0 1302 d_Law_law_29 (by decide) h (fun h => ?_) (fun h => ?_)
    · cases h
      refine W.widen (k := cells + 2 * 11) (n := slots + 2 * 152) (by omega) (by omega) ?_
      exact K.1 rfl _ _ ls hH hS hz (x_sub hl [0, 1, 2, 3, 4] rfl)
    · refine x_aload_n C0 hl 0 d_Law_law_32 rfl rfl ?_
      refine x_iload C0 hl 4 d_Law_law_33 rfl ?_
      refine x_sld C0 hX hbl hbA hS d_Law_law_35 h (fun v_8 h => ?_)
      refine lv_bipush (v := 31) C0.1 C0.2.1 d_Law_law_36 (by decide) ?_
      refine lv_iand C0.1 C0.2.1 d_Law_law_38 ?_
      by_cases z : (v_8 &&& (31 : Int32)) = 0
      · rw [if_pos z] at h
        refine lv_tableIn (tgt := 120) C0.1 C0.2.1 d_Law_law_39 (by rw [z]; decide) (by rw [z]; decide) (by rw [z]; rfl) (by decide) ?_
        refine x_aload_n C0 hl 1 d_Law_law_120 rfl rfl ?_
        refine x_aload_n C0 hl 0 d_Law_law_121 rfl rfl ?_
        refine x_iload C0 hl 4 d_Law_law_122 rfl ?_
        refine lv_iconst (v := 1) C0.1 C0.2.1 d_Law_law_124 (by decide) ?_
        refine lv_iadd C0.1 C0.2.1 d_Law_law_125 ?_
        refine x_sld C0 hX hbl hbA hS d_Law_law_126 h (fun v_9 h => ?_)
        refine x_aload_n C0 hl 0 d_Law_law_127 rfl rfl ?_
        refine x_iload C0 hl 4 d_Law_law_128 rfl ?_
        refine lv_iconst (v := 2) C0.1 C0.2.1 d_Law_law_130 (by decide) ?_
        refine lv_iadd C0.1 C0.2.1 d_Law_law_131 ?_
        refine x_sld C0 hX hbl hbA hS d_Law_law_132 h (fun v_10 h => ?_)
        refine x_aload_n C0 hl 0 d_Law_law_133 rfl rfl ?_
        refine x_iload C0 hl 4 d_Law_law_134 rfl ?_
        refine lv_iconst (v := 3) C0.1 C0.2.1 d_Law_law_136 (by decide) ?_
        refine lv_iadd C0.1 C0.2.1 d_Law_law_137 ?_
        refine x_sld C0 hX hbl hbA hS d_Law_law_138 h (fun v_11 h => ?_)
        refine x_aload_n C0 hl 0 d_Law_law_139 rfl rfl ?_
        refine x_iload C0 hl 4 d_Law_law_140 rfl ?_
        refine lv_iconst (v := 4) C0.1 C0.2.1 d_Law_law_142 (by decide) ?_
        refine lv_iadd C0.1 C0.2.1 d_Law_law_143 ?_
        refine x_sld C0 hX hbl hbA hS d_Law_law_144 h (fun v_12 h => ?_)
        refine x_aload_n C0 hl 3 d_Law_law_145 rfl rfl ?_
        obtain ⟨q_13, e9, h⟩ := Option.bind_eq_some_iff.mp h
        have e9 := (show f_Law_leaf w (Array.size H) r1 v_9 v_10 v_11 v_12 r3 = some q_13 by rw [hz]; exact e9)
        refine x_call hS (vx_runSW (As := [va_rf r1, .int v_9, .int v_10, .int v_11, .int v_12, va_rf r3]) (rest := []) C0 (c_Law_leaf l G w _ r1 v_9 v_10 v_11 v_12 r3 q_13 e9 hlt) (vx_cwSW 6 C0.2.2.2.2 (x_goodW kw_1_104 kw_1_102 kw_1_103 kw_1_0) rfl rfl rfl (by decide +kernel) (x_rm hR1 hR2 (Nat.le_of_ble_eq_true rfl) (Nat.le_of_ble_eq_true rfl))) (x_preS hE hH hS) rfl rfl hl.1 rfl (lv_room (by first | exact Nat.le_of_ble_eq_true rfl | simp only [List.map_cons, List.map_nil, List.sum_cons, List.sum_nil, va_rf_cat, x_catI, x_catL, x_catA] <;> decide)) d_Law_law_146 ⟨Nat.le_trans (by omega) hR3, Nat.le_trans (by omega) hR4⟩) (fun H locs hH hS hz => ?_)
        refine W.widen (k := cells + (2 - (n + 1)) * 11 + 2) (n := slots + (2 - (n + 1)) * 152 + 152) (by omega) (by omega) ?_
        refine x_istore (lv' := [(5, .inl q_13.1), (0, .inr (.inl (some b))), (1, .inr (.inl r1)), (2, .inr (.inl r2)), (3, .inr (.inl r3)), (4, .inl x4)]) C0 hl d_Law_law_149 (by decide) rfl (fun ls hl => ?_)
        refine x_aload_n C0 hl 3 d_Law_law_151 rfl rfl ?_
        refine x_aload_n C0 hl 1 d_Law_law_152 rfl rfl ?_
        refine x_iload C0 hl 5 d_Law_law_153 rfl ?_
        refine lv_iconst (v := 1) C0.1 C0.2.1 d_Law_law_155 (by decide) ?_
        refine lv_iadd C0.1 C0.2.1 d_Law_law_156 ?_
        refine x_sld C0 hX hbl hbA hS d_Law_law_157 h (fun v_14 h => ?_)
        refine x_aload_n C0 hl 1 d_Law_law_158 rfl rfl ?_
        refine x_iload C0 hl 5 d_Law_law_159 rfl ?_
        refine lv_iconst (v := 2) C0.1 C0.2.1 d_Law_law_161 (by decide) ?_
        refine lv_iadd C0.1 C0.2.1 d_Law_law_162 ?_
        refine x_sld C0 hX hbl hbA hS d_Law_law_163 h (fun v_15 h => ?_)
        refine x_aload_n C0 hl 1 d_Law_law_164 rfl rfl ?_
        refine x_iload C0 hl 5 d_Law_law_165 rfl ?_
        refine lv_iconst (v := 3) C0.1 C0.2.1 d_Law_law_167 (by decide) ?_
        refine lv_iadd C0.1 C0.2.1 d_Law_law_168 ?_
        refine x_sld C0 hX hbl hbA hS d_Law_law_169 h (fun v_16 h => ?_)
        refine x_aload_n C0 hl 1 d_Law_law_170 rfl rfl ?_
        refine x_iload C0 hl 5 d_Law_law_171 rfl ?_
        refine lv_iconst (v := 4) C0.1 C0.2.1 d_Law_law_173 (by decide) ?_
        refine lv_iadd C0.1 C0.2.1 d_Law_law_174 ?_
        refine x_sld C0 hX hbl hbA hS d_Law_law_175 h (fun v_17 h => ?_)
        obtain ⟨b_19, e9, h⟩ := Option.bind_eq_some_iff.mp h
        obtain ⟨e8, fs9, hb9⟩ := xo_inv e9
        obtain ⟨q_18, e9, h⟩ := Option.bind_eq_some_iff.mp h
        refine x_call0 hS (va_runV (As := [.int v_14, .int v_15, .int v_16, .int v_17]) (rest := []) C0 (c_Mod_leaf l G q_13.2.1 _ b_19 v_14 v_15 v_16 v_17 q_18 e9) (x_cwV 4 C0 kw_4_151 kw_4_154 kw_1_3 kw_4_152 kw_4_153 (by decide +kernel) (x_rm hR1 hR2 (Nat.le_of_ble_eq_true rfl) (Nat.le_of_ble_eq_true rfl))) (x_preV hE hH hS (ci := 5) rfl hb9) rfl rfl hl.1 (by rw [e8]; rfl) (lv_room (by first | exact Nat.le_of_ble_eq_true rfl | simp only [List.map_cons, List.map_nil, List.sum_cons, List.sum_nil, va_rf_cat, x_catI, x_catL, x_catA] <;> decide)) d_Law_law_176 (x_le0 (Nat.le_trans (by omega) hR3) (Nat.le_trans (by omega) hR4))) (fun H locs hH hS hz9 => ?_)
        have hz := hz9.trans hz
        refine x_istore (lv' := [(6, .inl q_18.1), (5, .inl q_13.1), (0, .inr (.inl (some b))), (1, .inr (.inl r1)), (2, .inr (.inl r2)), (3, .inr (.inl r3)), (4, .inl x4)]) C0 hl d_Law_law_179 (by decide) rfl (fun ls hl => ?_)
        refine x_aload_n C0 hl 4 d_Law_law_181 rfl rfl ?_
        obtain ⟨b_21, e9, h⟩ := Option.bind_eq_some_iff.mp h
        obtain ⟨e8, fs9, hb9⟩ := xo_inv e9
        obtain ⟨q_20, e9, h⟩ := Option.bind_eq_some_iff.mp h
        refine x_callP (va_runV (As := []) (rest := []) C0 (c_Mod_thrown l G q_18.2 _ b_21 q_20 e9) (x_cwV 0 C0 kw_4_147 kw_4_150 kw_1_3 kw_4_148 kw_4_149 (by decide +kernel) (x_rm hR1 hR2 (Nat.le_of_ble_eq_true rfl) (Nat.le_of_ble_eq_true rfl))) (x_preV hE hH hS (ci := 5) rfl hb9) rfl rfl hl.1 (by rw [e8]; rfl) (lv_room (by first | exact Nat.le_of_ble_eq_true rfl | simp only [List.map_cons, List.map_nil, List.sum_cons, List.sum_nil, va_rf_cat, x_catI, x_catL, x_catA] <;> decide)) d_Law_law_182 (x_le0 (Nat.le_trans (by omega) hR3) (Nat.le_trans (by omega) hR4))) ?_
        refine x_iload C0 hl 1 d_Law_law_185 rfl ?_
        refine x_icmp_eq C0 192 d_Law_law_187 (by decide) h (fun h => ?_) (fun h => ?_)
        · refine x_iload C0 hl 1 d_Law_law_192 rfl ?_
          refine x_if_ne C0 209 d_Law_law_194 (by decide) h (fun h => ?_) (fun h => ?_)
          · refine x_goto C0 1296 d_Law_law_209 (by decide) ?_
            refine x_iinc (v := 5) (lv' := [(4, .inl (x4 + 5)), (6, .inl q_18.1), (5, .inl q_13.1), (0, .inr (.inl (some b))), (1, .inr (.inl r1)), (2, .inr (.inl r2)), (3, .inr (.inl r3))]) C0 hl 6 d_Law_law_1296 rfl (by decide) (by decide) rfl (fun ls hl => ?_)
            refine x_goto C0 23 d_Law_law_1299 (by decide) ?_
            refine W.widen (k := cells + (2 - n) * 11) (n := slots + (2 - n) * 152) (by omega) (by omega) ?_
            exact ih _ _ _ _ _ (by omega) q ls hH hS hz (x_sub hl [3, 4, 5, 6, 0] rfl) h K
          · refine x_aload_n C0 hl 5 d_Law_law_197 rfl rfl ?_
            refine lv_iconst (v := 0) C0.1 C0.2.1 d_Law_law_198 (by decide) ?_
            refine x_lald C0 hE hH (t := 5) rfl d_Law_law_199 h (fun v_22 h => ?_)
            refine x_iload C0 hl 0 d_Law_law_200 rfl ?_
            refine lv_i2l C0.1 C0.2.1 d_Law_law_202 rfl ?_
            refine W.lcmp C0.1 C0.2.1 d_Law_law_203 ?_
            refine x_if_eq C0 209 d_Law_law_204 (by decide) h (fun h => ?_) (fun h => ?_)
            · refine x_goto C0 1296 d_Law_law_209 (by decide) ?_
              refine x_iinc (v := 5) (lv' := [(4, .inl (x4 + 5)), (6, .inl q_18.1), (5, .inl q_13.1), (0, .inr (.inl (some b))), (1, .inr (.inl r1)), (2, .inr (.inl r2)), (3, .inr (.inl r3))]) C0 hl 6 d_Law_law_1296 rfl (by decide) (by decide) rfl (fun ls hl => ?_)
              refine x_goto C0 23 d_Law_law_1299 (by decide) ?_
              refine W.widen (k := cells + (2 - n) * 11) (n := slots + (2 - n) * 152) (by omega) (by omega) ?_
              exact ih _ _ _ _ _ (by omega) q ls hH hS hz (x_sub hl [3, 4, 5, 6, 0] rfl) h K
            · cases h
              refine W.widen (k := cells + 2 * 11) (n := slots + 2 * 152) (by omega) (by omega) ?_
              exact K.2.2.1 rfl _ _ ls hH hS hz (x_sub hl [2, 3, 4, 5, 6] rfl)
        · cases h
          refine W.widen (k := cells + 2 * 11) (n := slots + 2 * 152) (by omega) (by omega) ?_
          exact K.2.1 rfl _ _ ls hH hS hz (x_sub hl [2, 3, 4, 5, 6] rfl)
      rw [if_neg z] at h
      have z0 := lv_neT z (a := 0) (by decide)
      by_cases z : (v_8 &&& (31 : Int32)) = 1
      · rw [if_pos z] at h
        refine lv_tableIn (tgt := 212) C0.1 C0.2.1 d_Law_law_39 (by rw [z]; decide) (by rw [z]; decide) (by rw [z]; rfl) (by decide) ?_
        refine x_aload_n C0 hl 1 d_Law_law_212 rfl rfl ?_
        refine x_aload_n C0 hl 0 d_Law_law_213 rfl rfl ?_
        refine x_iload C0 hl 4 d_Law_law_214 rfl ?_
        refine lv_iconst (v := 1) C0.1 C0.2.1 d_Law_law_216 (by decide) ?_
        refine lv_iadd C0.1 C0.2.1 d_Law_law_217 ?_
        refine x_sld C0 hX hbl hbA hS d_Law_law_218 h (fun v_23 h => ?_)
        refine x_aload_n C0 hl 0 d_Law_law_219 rfl rfl ?_
        refine x_iload C0 hl 4 d_Law_law_220 rfl ?_
        refine lv_iconst (v := 2) C0.1 C0.2.1 d_Law_law_222 (by decide) ?_
        refine lv_iadd C0.1 C0.2.1 d_Law_law_223 ?_
        refine x_sld C0 hX hbl hbA hS d_Law_law_224 h (fun v_24 h => ?_)
        refine x_aload_n C0 hl 0 d_Law_law_225 rfl rfl ?_
        refine x_iload C0 hl 4 d_Law_law_226 rfl ?_
        refine lv_iconst (v := 3) C0.1 C0.2.1 d_Law_law_228 (by decide) ?_
        refine lv_iadd C0.1 C0.2.1 d_Law_law_229 ?_
        refine x_sld C0 hX hbl hbA hS d_Law_law_230 h (fun v_25 h => ?_)
        refine x_aload_n C0 hl 0 d_Law_law_231 rfl rfl ?_
        refine x_iload C0 hl 4 d_Law_law_232 rfl ?_
        refine lv_iconst (v := 4) C0.1 C0.2.1 d_Law_law_234 (by decide) ?_
        refine lv_iadd C0.1 C0.2.1 d_Law_law_235 ?_
        refine x_sld C0 hX hbl hbA hS d_Law_law_236 h (fun v_26 h => ?_)
        refine x_aload_n C0 hl 3 d_Law_law_237 rfl rfl ?_
        obtain ⟨q_27, e9, h⟩ := Option.bind_eq_some_iff.mp h
        have e9 := (show f_Law_pixel w (Array.size H) r1 v_23 v_24 v_25 v_26 r3 = some q_27 by rw [hz]; exact e9)
        refine x_call hS (vx_runSW (As := [va_rf r1, .int v_23, .int v_24, .int v_25, .int v_26, va_rf r3]) (rest := []) C0 (c_Law_pixel l G w _ r1 v_23 v_24 v_25 v_26 r3 q_27 e9 hlt) (vx_cwSW 6 C0.2.2.2.2 (x_goodW kw_2_12 kw_2_10 kw_2_11 kw_1_0) rfl rfl rfl (by decide +kernel) (x_rm hR1 hR2 (Nat.le_of_ble_eq_true rfl) (Nat.le_of_ble_eq_true rfl))) (x_preS hE hH hS) rfl rfl hl.1 rfl (lv_room (by first | exact Nat.le_of_ble_eq_true rfl | simp only [List.map_cons, List.map_nil, List.sum_cons, List.sum_nil, va_rf_cat, x_catI, x_catL, x_catA] <;> decide)) d_Law_law_238 ⟨Nat.le_trans (by omega) hR3, Nat.le_trans (by omega) hR4⟩) (fun H locs hH hS hz => ?_)
        refine W.widen (k := cells + (2 - (n + 1)) * 11 + 1) (n := slots + (2 - (n + 1)) * 152 + 6) (by omega) (by omega) ?_
        refine x_istore (lv' := [(5, .inl q_27.1), (0, .inr (.inl (some b))), (1, .inr (.inl r1)), (2, .inr (.inl r2)), (3, .inr (.inl r3)), (4, .inl x4)]) C0 hl d_Law_law_241 (by decide) rfl (fun ls hl => ?_)
        refine x_aload_n C0 hl 3 d_Law_law_243 rfl rfl ?_
        refine x_aload_n C0 hl 1 d_Law_law_244 rfl rfl ?_
        refine x_iload C0 hl 5 d_Law_law_245 rfl ?_
        refine lv_iconst (v := 1) C0.1 C0.2.1 d_Law_law_247 (by decide) ?_
        refine lv_iadd C0.1 C0.2.1 d_Law_law_248 ?_
        refine x_sld C0 hX hbl hbA hS d_Law_law_249 h (fun v_28 h => ?_)
        refine x_aload_n C0 hl 1 d_Law_law_250 rfl rfl ?_
        refine x_iload C0 hl 5 d_Law_law_251 rfl ?_
        refine lv_iconst (v := 2) C0.1 C0.2.1 d_Law_law_253 (by decide) ?_
        refine lv_iadd C0.1 C0.2.1 d_Law_law_254 ?_
        refine x_sld C0 hX hbl hbA hS d_Law_law_255 h (fun v_29 h => ?_)
        refine x_aload_n C0 hl 1 d_Law_law_256 rfl rfl ?_
        refine x_iload C0 hl 5 d_Law_law_257 rfl ?_
        refine lv_iconst (v := 3) C0.1 C0.2.1 d_Law_law_259 (by decide) ?_
        refine lv_iadd C0.1 C0.2.1 d_Law_law_260 ?_
        refine x_sld C0 hX hbl hbA hS d_Law_law_261 h (fun v_30 h => ?_)
        refine x_aload_n C0 hl 1 d_Law_law_262 rfl rfl ?_
        refine x_iload C0 hl 5 d_Law_law_263 rfl ?_
        refine lv_iconst (v := 4) C0.1 C0.2.1 d_Law_law_265 (by decide) ?_
        refine lv_iadd C0.1 C0.2.1 d_Law_law_266 ?_
        refine x_sld C0 hX hbl hbA hS d_Law_law_267 h (fun v_31 h => ?_)
        obtain ⟨b_33, e9, h⟩ := Option.bind_eq_some_iff.mp h
        obtain ⟨e8, fs9, hb9⟩ := xo_inv e9
        obtain ⟨q_32, e9, h⟩ := Option.bind_eq_some_iff.mp h
        refine x_call0 hS (va_runV (As := [.int v_28, .int v_29, .int v_30, .int v_31]) (rest := []) C0 (c_Mod_pixel l G q_27.2.1 _ b_33 v_28 v_29 v_30 v_31 q_32 e9) (x_cwV 4 C0 kw_4_158 kw_4_161 kw_1_3 kw_4_159 kw_4_160 (by decide +kernel) (x_rm hR1 hR2 (Nat.le_of_ble_eq_true rfl) (Nat.le_of_ble_eq_true rfl))) (x_preV hE hH hS (ci := 5) rfl hb9) rfl rfl hl.1 (by rw [e8]; rfl) (lv_room (by first | exact Nat.le_of_ble_eq_true rfl | simp only [List.map_cons, List.map_nil, List.sum_cons, List.sum_nil, va_rf_cat, x_catI, x_catL, x_catA] <;> decide)) d_Law_law_268 (x_le0 (Nat.le_trans (by omega) hR3) (Nat.le_trans (by omega) hR4))) (fun H locs hH hS hz9 => ?_)
        have hz := hz9.trans hz
        refine x_istore (lv' := [(6, .inl q_32.1), (5, .inl q_27.1), (0, .inr (.inl (some b))), (1, .inr (.inl r1)), (2, .inr (.inl r2)), (3, .inr (.inl r3)), (4, .inl x4)]) C0 hl d_Law_law_271 (by decide) rfl (fun ls hl => ?_)
        refine x_aload_n C0 hl 4 d_Law_law_273 rfl rfl ?_
        obtain ⟨b_35, e9, h⟩ := Option.bind_eq_some_iff.mp h
        obtain ⟨e8, fs9, hb9⟩ := xo_inv e9
        obtain ⟨q_34, e9, h⟩ := Option.bind_eq_some_iff.mp h
        refine x_callP (va_runV (As := []) (rest := []) C0 (c_Mod_thrown l G q_32.2 _ b_35 q_34 e9) (x_cwV 0 C0 kw_4_147 kw_4_150 kw_1_3 kw_4_148 kw_4_149 (by decide +kernel) (x_rm hR1 hR2 (Nat.le_of_ble_eq_true rfl) (Nat.le_of_ble_eq_true rfl))) (x_preV hE hH hS (ci := 5) rfl hb9) rfl rfl hl.1 (by rw [e8]; rfl) (lv_room (by first | exact Nat.le_of_ble_eq_true rfl | simp only [List.map_cons, List.map_nil, List.sum_cons, List.sum_nil, va_rf_cat, x_catI, x_catL, x_catA] <;> decide)) d_Law_law_274 (x_le0 (Nat.le_trans (by omega) hR3) (Nat.le_trans (by omega) hR4))) ?_
        refine x_iload C0 hl 1 d_Law_law_277 rfl ?_
        refine x_icmp_eq C0 284 d_Law_law_279 (by decide) h (fun h => ?_) (fun h => ?_)
        · refine x_iload C0 hl 1 d_Law_law_284 rfl ?_
          refine x_if_ne C0 308 d_Law_law_286 (by decide) h (fun h => ?_) (fun h => ?_)
          · refine x_goto C0 1296 d_Law_law_308 (by decide) ?_
            refine x_iinc (v := 5) (lv' := [(4, .inl (x4 + 5)), (6, .inl q_32.1), (5, .inl q_27.1), (0, .inr (.inl (some b))), (1, .inr (.inl r1)), (2, .inr (.inl r2)), (3, .inr (.inl r3))]) C0 hl 6 d_Law_law_1296 rfl (by decide) (by decide) rfl (fun ls hl => ?_)
            refine x_goto C0 23 d_Law_law_1299 (by decide) ?_
            refine W.widen (k := cells + (2 - n) * 11) (n := slots + (2 - n) * 152) (by omega) (by omega) ?_
            exact ih _ _ _ _ _ (by omega) q ls hH hS hz (x_sub hl [3, 4, 5, 6, 0] rfl) h K
          · refine x_aload_n C0 hl 5 d_Law_law_289 rfl rfl ?_
            refine lv_iconst (v := 0) C0.1 C0.2.1 d_Law_law_290 (by decide) ?_
            refine x_lald C0 hE hH (t := 5) rfl d_Law_law_291 h (fun v_36 h => ?_)
            refine x_iload C0 hl 0 d_Law_law_292 rfl ?_
            refine xj1 h (fun J_38 eJ_38 h => ?_)
            have kJ_38 : ∀ (y_37 : Int64) (ls : Array Slot), xL ls 8 [(0, .inr (.inl (some b))), (1, .inr (.inl r1)), (2, .inr (.inl r2)), (3, .inr (.inl r3)), (4, .inl x4)] → J_38 y_37 = some q → W p l e R s m args below meth c H locs (cells + (2 - (n + 1)) * 11 + 1) (slots + (2 - (n + 1)) * 152 + 6) Q (F0 m 302 ls [.long y_37, .long v_36]) := by
              intro y_37 ls hl h
              rw [eJ_38] at h
              refine W.lcmp C0.1 C0.2.1 d_Law_law_302 ?_
              refine x_if_eq C0 308 d_Law_law_303 (by decide) h (fun h => ?_) (fun h => ?_)
              · refine x_goto C0 1296 d_Law_law_308 (by decide) ?_
                refine x_iinc (v := 5) (lv' := [(4, .inl (x4 + 5)), (0, .inr (.inl (some b))), (1, .inr (.inl r1)), (2, .inr (.inl r2)), (3, .inr (.inl r3))]) C0 hl 4 d_Law_law_1296 rfl (by decide) (by decide) rfl (fun ls hl => ?_)
                refine x_goto C0 23 d_Law_law_1299 (by decide) ?_
                refine W.widen (k := cells + (2 - n) * 11) (n := slots + (2 - n) * 152) (by omega) (by omega) ?_
                exact ih _ _ _ _ _ (by omega) q ls hH hS hz (x_sub hl [1, 2, 3, 4, 0] rfl) h K
              · cases h
                refine W.widen (k := cells + 2 * 11) (n := slots + 2 * 152) (by omega) (by omega) ?_
                exact K.2.2.2.2.1 rfl _ _ ls hH hS hz (x_sub hl [0, 1, 2, 3, 4] rfl)
            refine x_if_eq C0 301 d_Law_law_294 (by decide) h (fun h => ?_) (fun h => ?_)
            · refine lv_lconst (v := 0) C0.1 C0.2.1 d_Law_law_301 (by decide) ?_
              exact kJ_38 _ ls (x_sub hl [2, 3, 4, 5, 6] rfl) h
            · refine lv_lconst (v := 1) C0.1 C0.2.1 d_Law_law_297 (by decide) ?_
              refine x_goto C0 302 d_Law_law_298 (by decide) ?_
              exact kJ_38 _ ls (x_sub hl [2, 3, 4, 5, 6] rfl) h
        · cases h
          refine W.widen (k := cells + 2 * 11) (n := slots + 2 * 152) (by omega) (by omega) ?_
          exact K.2.2.2.1 rfl _ _ ls hH hS hz (x_sub hl [2, 3, 4, 5, 6] rfl)
      rw [if_neg z] at h
      have z1 := lv_neT z (a := 1) (by decide)
      by_cases z : (v_8 &&& (31 : Int32)) = 2
      · rw [if_pos z] at h
        refine lv_tableIn (tgt := 311) C0.1 C0.2.1 d_Law_law_39 (by rw [z]; decide) (by rw [z]; decide) (by rw [z]; rfl) (by decide) ?_
        refine x_aload_n C0 hl 1 d_Law_law_311 rfl rfl ?_
        refine x_aload_n C0 hl 0 d_Law_law_312 rfl rfl ?_
        refine x_iload C0 hl 4 d_Law_law_313 rfl ?_
        refine lv_iconst (v := 1) C0.1 C0.2.1 d_Law_law_315 (by decide) ?_
        refine lv_iadd C0.1 C0.2.1 d_Law_law_316 ?_
        refine x_sld C0 hX hbl hbA hS d_Law_law_317 h (fun v_39 h => ?_)
        refine x_aload_n C0 hl 0 d_Law_law_318 rfl rfl ?_
        refine x_iload C0 hl 4 d_Law_law_319 rfl ?_
        refine lv_iconst (v := 2) C0.1 C0.2.1 d_Law_law_321 (by decide) ?_
        refine lv_iadd C0.1 C0.2.1 d_Law_law_322 ?_
        refine x_sld C0 hX hbl hbA hS d_Law_law_323 h (fun v_40 h => ?_)
        refine x_aload_n C0 hl 3 d_Law_law_324 rfl rfl ?_
        obtain ⟨q_41, e9, h⟩ := Option.bind_eq_some_iff.mp h
        have e9 := (show f_Law_reserve w (Array.size H) r1 v_39 v_40 r3 = some q_41 by rw [hz]; exact e9)
        refine x_call hS (vx_runSW (As := [va_rf r1, .int v_39, .int v_40, va_rf r3]) (rest := []) C0 (c_Law_reserve l G w _ r1 v_39 v_40 r3 q_41 e9 hlt) (vx_cwSW 4 C0.2.2.2.2 (x_goodW kw_2_49 kw_2_47 kw_2_48 kw_1_0) rfl rfl rfl (by decide +kernel) (x_rm hR1 hR2 (Nat.le_of_ble_eq_true rfl) (Nat.le_of_ble_eq_true rfl))) (x_preS hE hH hS) rfl rfl hl.1 rfl (lv_room (by first | exact Nat.le_of_ble_eq_true rfl | simp only [List.map_cons, List.map_nil, List.sum_cons, List.sum_nil, va_rf_cat, x_catI, x_catL, x_catA] <;> decide)) d_Law_law_325 ⟨Nat.le_trans (by omega) hR3, Nat.le_trans (by omega) hR4⟩) (fun H locs hH hS hz => ?_)
        refine W.widen (k := cells + (2 - (n + 1)) * 11 + 1) (n := slots + (2 - (n + 1)) * 152 + 6) (by omega) (by omega) ?_
        refine x_istore (lv' := [(5, .inl q_41.1), (0, .inr (.inl (some b))), (1, .inr (.inl r1)), (2, .inr (.inl r2)), (3, .inr (.inl r3)), (4, .inl x4)]) C0 hl d_Law_law_328 (by decide) rfl (fun ls hl => ?_)
        refine x_aload_n C0 hl 3 d_Law_law_330 rfl rfl ?_
        refine x_aload_n C0 hl 1 d_Law_law_331 rfl rfl ?_
        refine x_iload C0 hl 5 d_Law_law_332 rfl ?_
        refine lv_iconst (v := 1) C0.1 C0.2.1 d_Law_law_334 (by decide) ?_
        refine lv_iadd C0.1 C0.2.1 d_Law_law_335 ?_
        refine x_sld C0 hX hbl hbA hS d_Law_law_336 h (fun v_42 h => ?_)
        refine x_aload_n C0 hl 1 d_Law_law_337 rfl rfl ?_
        refine x_iload C0 hl 5 d_Law_law_338 rfl ?_
        refine lv_iconst (v := 2) C0.1 C0.2.1 d_Law_law_340 (by decide) ?_
        refine lv_iadd C0.1 C0.2.1 d_Law_law_341 ?_
        refine x_sld C0 hX hbl hbA hS d_Law_law_342 h (fun v_43 h => ?_)
        obtain ⟨b_45, e9, h⟩ := Option.bind_eq_some_iff.mp h
        obtain ⟨e8, fs9, hb9⟩ := xo_inv e9
        obtain ⟨q_44, e9, h⟩ := Option.bind_eq_some_iff.mp h
        refine x_call0 hS (va_runV (As := [.int v_42, .int v_43]) (rest := []) C0 (c_Mod_reserve l G q_41.2.1 _ b_45 v_42 v_43 q_44 e9) (x_cwV 2 C0 kw_4_162 kw_4_165 kw_1_3 kw_4_163 kw_4_164 (by decide +kernel) (x_rm hR1 hR2 (Nat.le_of_ble_eq_true rfl) (Nat.le_of_ble_eq_true rfl))) (x_preV hE hH hS (ci := 5) rfl hb9) rfl rfl hl.1 (by rw [e8]; rfl) (lv_room (by first | exact Nat.le_of_ble_eq_true rfl | simp only [List.map_cons, List.map_nil, List.sum_cons, List.sum_nil, va_rf_cat, x_catI, x_catL, x_catA] <;> decide)) d_Law_law_343 (x_le0 (Nat.le_trans (by omega) hR3) (Nat.le_trans (by omega) hR4))) (fun H locs hH hS hz9 => ?_)
        have hz := hz9.trans hz
        refine x_istore (lv' := [(6, .inl q_44.1), (5, .inl q_41.1), (0, .inr (.inl (some b))), (1, .inr (.inl r1)), (2, .inr (.inl r2)), (3, .inr (.inl r3)), (4, .inl x4)]) C0 hl d_Law_law_346 (by decide) rfl (fun ls hl => ?_)
        refine x_aload_n C0 hl 4 d_Law_law_348 rfl rfl ?_
        obtain ⟨b_47, e9, h⟩ := Option.bind_eq_some_iff.mp h
        obtain ⟨e8, fs9, hb9⟩ := xo_inv e9
        obtain ⟨q_46, e9, h⟩ := Option.bind_eq_some_iff.mp h
        refine x_callP (va_runV (As := []) (rest := []) C0 (c_Mod_thrown l G q_44.2 _ b_47 q_46 e9) (x_cwV 0 C0 kw_4_147 kw_4_150 kw_1_3 kw_4_148 kw_4_149 (by decide +kernel) (x_rm hR1 hR2 (Nat.le_of_ble_eq_true rfl) (Nat.le_of_ble_eq_true rfl))) (x_preV hE hH hS (ci := 5) rfl hb9) rfl rfl hl.1 (by rw [e8]; rfl) (lv_room (by first | exact Nat.le_of_ble_eq_true rfl | simp only [List.map_cons, List.map_nil, List.sum_cons, List.sum_nil, va_rf_cat, x_catI, x_catL, x_catA] <;> decide)) d_Law_law_349 (x_le0 (Nat.le_trans (by omega) hR3) (Nat.le_trans (by omega) hR4))) ?_
        refine x_iload C0 hl 1 d_Law_law_352 rfl ?_
        refine x_icmp_eq C0 359 d_Law_law_354 (by decide) h (fun h => ?_) (fun h => ?_)
        · refine x_iload C0 hl 1 d_Law_law_359 rfl ?_
          refine x_if_ne C0 383 d_Law_law_361 (by decide) h (fun h => ?_) (fun h => ?_)
          · refine x_goto C0 1296 d_Law_law_383 (by decide) ?_
            refine x_iinc (v := 5) (lv' := [(4, .inl (x4 + 5)), (6, .inl q_44.1), (5, .inl q_41.1), (0, .inr (.inl (some b))), (1, .inr (.inl r1)), (2, .inr (.inl r2)), (3, .inr (.inl r3))]) C0 hl 6 d_Law_law_1296 rfl (by decide) (by decide) rfl (fun ls hl => ?_)
            refine x_goto C0 23 d_Law_law_1299 (by decide) ?_
            refine W.widen (k := cells + (2 - n) * 11) (n := slots + (2 - n) * 152) (by omega) (by omega) ?_
            exact ih _ _ _ _ _ (by omega) q ls hH hS hz (x_sub hl [3, 4, 5, 6, 0] rfl) h K
          · refine x_aload_n C0 hl 5 d_Law_law_364 rfl rfl ?_
            refine lv_iconst (v := 0) C0.1 C0.2.1 d_Law_law_365 (by decide) ?_
            refine x_lald C0 hE hH (t := 5) rfl d_Law_law_366 h (fun v_48 h => ?_)
            refine x_iload C0 hl 0 d_Law_law_367 rfl ?_
            refine xj1 h (fun J_50 eJ_50 h => ?_)
            have kJ_50 : ∀ (y_49 : Int64) (ls : Array Slot), xL ls 8 [(0, .inr (.inl (some b))), (1, .inr (.inl r1)), (2, .inr (.inl r2)), (3, .inr (.inl r3)), (4, .inl x4)] → J_50 y_49 = some q → W p l e R s m args below meth c H locs (cells + (2 - (n + 1)) * 11 + 1) (slots + (2 - (n + 1)) * 152 + 6) Q (F0 m 377 ls [.long y_49, .long v_48]) := by
              intro y_49 ls hl h
              rw [eJ_50] at h
              refine W.lcmp C0.1 C0.2.1 d_Law_law_377 ?_
              refine x_if_eq C0 383 d_Law_law_378 (by decide) h (fun h => ?_) (fun h => ?_)
              · refine x_goto C0 1296 d_Law_law_383 (by decide) ?_
                refine x_iinc (v := 5) (lv' := [(4, .inl (x4 + 5)), (0, .inr (.inl (some b))), (1, .inr (.inl r1)), (2, .inr (.inl r2)), (3, .inr (.inl r3))]) C0 hl 4 d_Law_law_1296 rfl (by decide) (by decide) rfl (fun ls hl => ?_)
                refine x_goto C0 23 d_Law_law_1299 (by decide) ?_
                refine W.widen (k := cells + (2 - n) * 11) (n := slots + (2 - n) * 152) (by omega) (by omega) ?_
                exact ih _ _ _ _ _ (by omega) q ls hH hS hz (x_sub hl [1, 2, 3, 4, 0] rfl) h K
              · cases h
                refine W.widen (k := cells + 2 * 11) (n := slots + 2 * 152) (by omega) (by omega) ?_
                exact K.2.2.2.2.2.2.1 rfl _ _ ls hH hS hz (x_sub hl [0, 1, 2, 3, 4] rfl)
            refine x_if_eq C0 376 d_Law_law_369 (by decide) h (fun h => ?_) (fun h => ?_)
            · refine lv_lconst (v := 0) C0.1 C0.2.1 d_Law_law_376 (by decide) ?_
              exact kJ_50 _ ls (x_sub hl [2, 3, 4, 5, 6] rfl) h
            · refine lv_lconst (v := 1) C0.1 C0.2.1 d_Law_law_372 (by decide) ?_
              refine x_goto C0 377 d_Law_law_373 (by decide) ?_
              exact kJ_50 _ ls (x_sub hl [2, 3, 4, 5, 6] rfl) h
        · cases h
          refine W.widen (k := cells + 2 * 11) (n := slots + 2 * 152) (by omega) (by omega) ?_
          exact K.2.2.2.2.2.1 rfl _ _ ls hH hS hz (x_sub hl [2, 3, 4, 5, 6] rfl)
      rw [if_neg z] at h
      have z2 := lv_neT z (a := 2) (by decide)
      by_cases z : (v_8 &&& (31 : Int32)) = 3
      · rw [if_pos z] at h
        refine lv_tableIn (tgt := 386) C0.1 C0.2.1 d_Law_law_39 (by rw [z]; decide) (by rw [z]; decide) (by rw [z]; rfl) (by decide) ?_
        refine x_aload_n C0 hl 1 d_Law_law_386 rfl rfl ?_
        refine x_aload_n C0 hl 0 d_Law_law_387 rfl rfl ?_
        refine x_iload C0 hl 4 d_Law_law_388 rfl ?_
        refine lv_iconst (v := 1) C0.1 C0.2.1 d_Law_law_390 (by decide) ?_
        refine lv_iadd C0.1 C0.2.1 d_Law_law_391 ?_
        refine x_sld C0 hX hbl hbA hS d_Law_law_392 h (fun v_51 h => ?_)
        refine x_aload_n C0 hl 0 d_Law_law_393 rfl rfl ?_
        refine x_iload C0 hl 4 d_Law_law_394 rfl ?_
        refine lv_iconst (v := 2) C0.1 C0.2.1 d_Law_law_396 (by decide) ?_
        refine lv_iadd C0.1 C0.2.1 d_Law_law_397 ?_
        refine x_sld C0 hX hbl hbA hS d_Law_law_398 h (fun v_52 h => ?_)
        refine x_aload_n C0 hl 3 d_Law_law_399 rfl rfl ?_
        obtain ⟨q_53, e9, h⟩ := Option.bind_eq_some_iff.mp h
        have e9 := (show f_Law_match w (Array.size H) r1 v_51 v_52 r3 = some q_53 by rw [hz]; exact e9)
        refine x_call hS (vx_runSW (As := [va_rf r1, .int v_51, .int v_52, va_rf r3]) (rest := []) C0 (c_Law_match l G w _ r1 v_51 v_52 r3 q_53 e9 hlt) (vx_cwSW 4 C0.2.2.2.2 (x_goodW kw_2_59 kw_2_57 kw_2_58 kw_1_0) rfl rfl rfl (by decide +kernel) (x_rm hR1 hR2 (Nat.le_of_ble_eq_true rfl) (Nat.le_of_ble_eq_true rfl))) (x_preS hE hH hS) rfl rfl hl.1 rfl (lv_room (by first | exact Nat.le_of_ble_eq_true rfl | simp only [List.map_cons, List.map_nil, List.sum_cons, List.sum_nil, va_rf_cat, x_catI, x_catL, x_catA] <;> decide)) d_Law_law_400 ⟨Nat.le_trans (by omega) hR3, Nat.le_trans (by omega) hR4⟩) (fun H locs hH hS hz => ?_)
        refine W.widen (k := cells + (2 - (n + 1)) * 11 + 11) (n := slots + (2 - (n + 1)) * 152 + 55) (by omega) (by omega) ?_
        refine x_istore (lv' := [(5, .inl q_53.1), (0, .inr (.inl (some b))), (1, .inr (.inl r1)), (2, .inr (.inl r2)), (3, .inr (.inl r3)), (4, .inl x4)]) C0 hl d_Law_law_403 (by decide) rfl (fun ls hl => ?_)
        refine x_aload_n C0 hl 3 d_Law_law_405 rfl rfl ?_
        refine x_aload_n C0 hl 1 d_Law_law_406 rfl rfl ?_
        refine x_iload C0 hl 5 d_Law_law_407 rfl ?_
        refine lv_iconst (v := 1) C0.1 C0.2.1 d_Law_law_409 (by decide) ?_
        refine lv_iadd C0.1 C0.2.1 d_Law_law_410 ?_
        refine x_sld C0 hX hbl hbA hS d_Law_law_411 h (fun v_54 h => ?_)
        refine x_aload_n C0 hl 1 d_Law_law_412 rfl rfl ?_
        refine x_iload C0 hl 5 d_Law_law_413 rfl ?_
        refine lv_iconst (v := 2) C0.1 C0.2.1 d_Law_law_415 (by decide) ?_
        refine lv_iadd C0.1 C0.2.1 d_Law_law_416 ?_
        refine x_sld C0 hX hbl hbA hS d_Law_law_417 h (fun v_55 h => ?_)
        obtain ⟨b_57, e9, h⟩ := Option.bind_eq_some_iff.mp h
        obtain ⟨e8, fs9, hb9⟩ := xo_inv e9
        obtain ⟨q_56, e9, h⟩ := Option.bind_eq_some_iff.mp h
        refine x_call0 hS (va_runV (As := [.int v_54, .int v_55]) (rest := []) C0 (c_Mod_match l G q_53.2.1 _ b_57 v_54 v_55 q_56 e9) (x_cwV 2 C0 kw_4_166 kw_4_169 kw_1_3 kw_4_167 kw_4_168 (by decide +kernel) (x_rm hR1 hR2 (Nat.le_of_ble_eq_true rfl) (Nat.le_of_ble_eq_true rfl))) (x_preV hE hH hS (ci := 5) rfl hb9) rfl rfl hl.1 (by rw [e8]; rfl) (lv_room (by first | exact Nat.le_of_ble_eq_true rfl | simp only [List.map_cons, List.map_nil, List.sum_cons, List.sum_nil, va_rf_cat, x_catI, x_catL, x_catA] <;> decide)) d_Law_law_418 (x_le0 (Nat.le_trans (by omega) hR3) (Nat.le_trans (by omega) hR4))) (fun H locs hH hS hz9 => ?_)
        have hz := hz9.trans hz
        refine x_istore (lv' := [(6, .inl q_56.1), (5, .inl q_53.1), (0, .inr (.inl (some b))), (1, .inr (.inl r1)), (2, .inr (.inl r2)), (3, .inr (.inl r3)), (4, .inl x4)]) C0 hl d_Law_law_421 (by decide) rfl (fun ls hl => ?_)
        refine x_aload_n C0 hl 4 d_Law_law_423 rfl rfl ?_
        obtain ⟨b_59, e9, h⟩ := Option.bind_eq_some_iff.mp h
        obtain ⟨e8, fs9, hb9⟩ := xo_inv e9
        obtain ⟨q_58, e9, h⟩ := Option.bind_eq_some_iff.mp h
        refine x_callP (va_runV (As := []) (rest := []) C0 (c_Mod_thrown l G q_56.2 _ b_59 q_58 e9) (x_cwV 0 C0 kw_4_147 kw_4_150 kw_1_3 kw_4_148 kw_4_149 (by decide +kernel) (x_rm hR1 hR2 (Nat.le_of_ble_eq_true rfl) (Nat.le_of_ble_eq_true rfl))) (x_preV hE hH hS (ci := 5) rfl hb9) rfl rfl hl.1 (by rw [e8]; rfl) (lv_room (by first | exact Nat.le_of_ble_eq_true rfl | simp only [List.map_cons, List.map_nil, List.sum_cons, List.sum_nil, va_rf_cat, x_catI, x_catL, x_catA] <;> decide)) d_Law_law_424 (x_le0 (Nat.le_trans (by omega) hR3) (Nat.le_trans (by omega) hR4))) ?_
        refine x_iload C0 hl 1 d_Law_law_427 rfl ?_
        refine x_icmp_eq C0 434 d_Law_law_429 (by decide) h (fun h => ?_) (fun h => ?_)
        · refine x_iload C0 hl 1 d_Law_law_434 rfl ?_
          refine x_if_ne C0 451 d_Law_law_436 (by decide) h (fun h => ?_) (fun h => ?_)
          · refine x_goto C0 1296 d_Law_law_451 (by decide) ?_
            refine x_iinc (v := 5) (lv' := [(4, .inl (x4 + 5)), (6, .inl q_56.1), (5, .inl q_53.1), (0, .inr (.inl (some b))), (1, .inr (.inl r1)), (2, .inr (.inl r2)), (3, .inr (.inl r3))]) C0 hl 6 d_Law_law_1296 rfl (by decide) (by decide) rfl (fun ls hl => ?_)
            refine x_goto C0 23 d_Law_law_1299 (by decide) ?_
            refine W.widen (k := cells + (2 - n) * 11) (n := slots + (2 - n) * 152) (by omega) (by omega) ?_
            exact ih _ _ _ _ _ (by omega) q ls hH hS hz (x_sub hl [3, 4, 5, 6, 0] rfl) h K
          · refine x_aload_n C0 hl 5 d_Law_law_439 rfl rfl ?_
            refine lv_iconst (v := 0) C0.1 C0.2.1 d_Law_law_440 (by decide) ?_
            refine x_lald C0 hE hH (t := 5) rfl d_Law_law_441 h (fun v_60 h => ?_)
            refine x_iload C0 hl 0 d_Law_law_442 rfl ?_
            refine lv_i2l C0.1 C0.2.1 d_Law_law_444 rfl ?_
            refine W.lcmp C0.1 C0.2.1 d_Law_law_445 ?_
            refine x_if_eq C0 451 d_Law_law_446 (by decide) h (fun h => ?_) (fun h => ?_)
            · refine x_goto C0 1296 d_Law_law_451 (by decide) ?_
              refine x_iinc (v := 5) (lv' := [(4, .inl (x4 + 5)), (6, .inl q_56.1), (5, .inl q_53.1), (0, .inr (.inl (some b))), (1, .inr (.inl r1)), (2, .inr (.inl r2)), (3, .inr (.inl r3))]) C0 hl 6 d_Law_law_1296 rfl (by decide) (by decide) rfl (fun ls hl => ?_)
              refine x_goto C0 23 d_Law_law_1299 (by decide) ?_
              refine W.widen (k := cells + (2 - n) * 11) (n := slots + (2 - n) * 152) (by omega) (by omega) ?_
              exact ih _ _ _ _ _ (by omega) q ls hH hS hz (x_sub hl [3, 4, 5, 6, 0] rfl) h K
            · cases h
              refine W.widen (k := cells + 2 * 11) (n := slots + 2 * 152) (by omega) (by omega) ?_
              exact K.2.2.2.2.2.2.2.2.1 rfl _ _ ls hH hS hz (x_sub hl [2, 3, 4, 5, 6] rfl)
        · cases h
          refine W.widen (k := cells + 2 * 11) (n := slots + 2 * 152) (by omega) (by omega) ?_
          exact K.2.2.2.2.2.2.2.1 rfl _ _ ls hH hS hz (x_sub hl [2, 3, 4, 5, 6] rfl)
      rw [if_neg z] at h
      have z3 := lv_neT z (a := 3) (by decide)
      by_cases z : (v_8 &&& (31 : Int32)) = 4
      · rw [if_pos z] at h
        refine lv_tableIn (tgt := 454) C0.1 C0.2.1 d_Law_law_39 (by rw [z]; decide) (by rw [z]; decide) (by rw [z]; rfl) (by decide) ?_
        refine x_aload_n C0 hl 1 d_Law_law_454 rfl rfl ?_
        refine x_aload_n C0 hl 0 d_Law_law_455 rfl rfl ?_
        refine x_iload C0 hl 4 d_Law_law_456 rfl ?_
        refine lv_iconst (v := 1) C0.1 C0.2.1 d_Law_law_458 (by decide) ?_
        refine lv_iadd C0.1 C0.2.1 d_Law_law_459 ?_
        refine x_sld C0 hX hbl hbA hS d_Law_law_460 h (fun v_61 h => ?_)
        refine x_aload_n C0 hl 3 d_Law_law_461 rfl rfl ?_
        obtain ⟨q_62, e9, h⟩ := Option.bind_eq_some_iff.mp h
        have e9 := (show f_Law_apart w (Array.size H) r1 v_61 r3 = some q_62 by rw [hz]; exact e9)
        refine x_call hS (vx_runSW (As := [va_rf r1, .int v_61, va_rf r3]) (rest := []) C0 (c_Law_apart l G w _ r1 v_61 r3 q_62 e9 hlt) (vx_cwSW 3 C0.2.2.2.2 (x_goodW kw_2_143 kw_2_141 kw_2_142 kw_1_0) rfl rfl rfl (by decide +kernel) (x_rm hR1 hR2 (Nat.le_of_ble_eq_true rfl) (Nat.le_of_ble_eq_true rfl))) (x_preS hE hH hS) rfl rfl hl.1 rfl (lv_room (by first | exact Nat.le_of_ble_eq_true rfl | simp only [List.map_cons, List.map_nil, List.sum_cons, List.sum_nil, va_rf_cat, x_catI, x_catL, x_catA] <;> decide)) d_Law_law_462 ⟨Nat.le_trans (by omega) hR3, Nat.le_trans (by omega) hR4⟩) (fun H locs hH hS hz => ?_)
        refine W.widen (k := cells + (2 - (n + 1)) * 11 + 1) (n := slots + (2 - (n + 1)) * 152 + 6) (by omega) (by omega) ?_
        refine x_istore (lv' := [(5, .inl q_62.1), (0, .inr (.inl (some b))), (1, .inr (.inl r1)), (2, .inr (.inl r2)), (3, .inr (.inl r3)), (4, .inl x4)]) C0 hl d_Law_law_465 (by decide) rfl (fun ls hl => ?_)
        refine x_aload_n C0 hl 3 d_Law_law_467 rfl rfl ?_
        refine x_aload_n C0 hl 1 d_Law_law_468 rfl rfl ?_
        refine x_iload C0 hl 5 d_Law_law_469 rfl ?_
        refine lv_iconst (v := 1) C0.1 C0.2.1 d_Law_law_471 (by decide) ?_
        refine lv_iadd C0.1 C0.2.1 d_Law_law_472 ?_
        refine x_sld C0 hX hbl hbA hS d_Law_law_473 h (fun v_63 h => ?_)
        obtain ⟨b_65, e9, h⟩ := Option.bind_eq_some_iff.mp h
        obtain ⟨e8, fs9, hb9⟩ := xo_inv e9
        obtain ⟨q_64, e9, h⟩ := Option.bind_eq_some_iff.mp h
        refine x_call0 hS (va_runV (As := [.int v_63]) (rest := []) C0 (c_Mod_apart l G q_62.2.1 _ b_65 v_63 q_64 e9) (x_cwV 1 C0 kw_4_174 kw_4_177 kw_1_3 kw_4_175 kw_4_176 (by decide +kernel) (x_rm hR1 hR2 (Nat.le_of_ble_eq_true rfl) (Nat.le_of_ble_eq_true rfl))) (x_preV hE hH hS (ci := 5) rfl hb9) rfl rfl hl.1 (by rw [e8]; rfl) (lv_room (by first | exact Nat.le_of_ble_eq_true rfl | simp only [List.map_cons, List.map_nil, List.sum_cons, List.sum_nil, va_rf_cat, x_catI, x_catL, x_catA] <;> decide)) d_Law_law_474 (x_le0 (Nat.le_trans (by omega) hR3) (Nat.le_trans (by omega) hR4))) (fun H locs hH hS hz9 => ?_)
        have hz := hz9.trans hz
        refine x_istore (lv' := [(6, .inl q_64.1), (5, .inl q_62.1), (0, .inr (.inl (some b))), (1, .inr (.inl r1)), (2, .inr (.inl r2)), (3, .inr (.inl r3)), (4, .inl x4)]) C0 hl d_Law_law_477 (by decide) rfl (fun ls hl => ?_)
        refine x_aload_n C0 hl 4 d_Law_law_479 rfl rfl ?_
        obtain ⟨b_67, e9, h⟩ := Option.bind_eq_some_iff.mp h
        obtain ⟨e8, fs9, hb9⟩ := xo_inv e9
        obtain ⟨q_66, e9, h⟩ := Option.bind_eq_some_iff.mp h
        refine x_callP (va_runV (As := []) (rest := []) C0 (c_Mod_thrown l G q_64.2 _ b_67 q_66 e9) (x_cwV 0 C0 kw_4_147 kw_4_150 kw_1_3 kw_4_148 kw_4_149 (by decide +kernel) (x_rm hR1 hR2 (Nat.le_of_ble_eq_true rfl) (Nat.le_of_ble_eq_true rfl))) (x_preV hE hH hS (ci := 5) rfl hb9) rfl rfl hl.1 (by rw [e8]; rfl) (lv_room (by first | exact Nat.le_of_ble_eq_true rfl | simp only [List.map_cons, List.map_nil, List.sum_cons, List.sum_nil, va_rf_cat, x_catI, x_catL, x_catA] <;> decide)) d_Law_law_480 (x_le0 (Nat.le_trans (by omega) hR3) (Nat.le_trans (by omega) hR4))) ?_
        refine x_iload C0 hl 1 d_Law_law_483 rfl ?_
        refine x_icmp_eq C0 490 d_Law_law_485 (by decide) h (fun h => ?_) (fun h => ?_)
        · refine x_iload C0 hl 1 d_Law_law_490 rfl ?_
          refine x_if_ne C0 507 d_Law_law_492 (by decide) h (fun h => ?_) (fun h => ?_)
          · refine x_goto C0 1296 d_Law_law_507 (by decide) ?_
            refine x_iinc (v := 5) (lv' := [(4, .inl (x4 + 5)), (6, .inl q_64.1), (5, .inl q_62.1), (0, .inr (.inl (some b))), (1, .inr (.inl r1)), (2, .inr (.inl r2)), (3, .inr (.inl r3))]) C0 hl 6 d_Law_law_1296 rfl (by decide) (by decide) rfl (fun ls hl => ?_)
            refine x_goto C0 23 d_Law_law_1299 (by decide) ?_
            refine W.widen (k := cells + (2 - n) * 11) (n := slots + (2 - n) * 152) (by omega) (by omega) ?_
            exact ih _ _ _ _ _ (by omega) q ls hH hS hz (x_sub hl [3, 4, 5, 6, 0] rfl) h K
          · refine x_aload_n C0 hl 5 d_Law_law_495 rfl rfl ?_
            refine lv_iconst (v := 0) C0.1 C0.2.1 d_Law_law_496 (by decide) ?_
            refine x_lald C0 hE hH (t := 5) rfl d_Law_law_497 h (fun v_68 h => ?_)
            refine x_iload C0 hl 0 d_Law_law_498 rfl ?_
            refine lv_i2l C0.1 C0.2.1 d_Law_law_500 rfl ?_
            refine W.lcmp C0.1 C0.2.1 d_Law_law_501 ?_
            refine x_if_eq C0 507 d_Law_law_502 (by decide) h (fun h => ?_) (fun h => ?_)
            · refine x_goto C0 1296 d_Law_law_507 (by decide) ?_
              refine x_iinc (v := 5) (lv' := [(4, .inl (x4 + 5)), (6, .inl q_64.1), (5, .inl q_62.1), (0, .inr (.inl (some b))), (1, .inr (.inl r1)), (2, .inr (.inl r2)), (3, .inr (.inl r3))]) C0 hl 6 d_Law_law_1296 rfl (by decide) (by decide) rfl (fun ls hl => ?_)
              refine x_goto C0 23 d_Law_law_1299 (by decide) ?_
              refine W.widen (k := cells + (2 - n) * 11) (n := slots + (2 - n) * 152) (by omega) (by omega) ?_
              exact ih _ _ _ _ _ (by omega) q ls hH hS hz (x_sub hl [3, 4, 5, 6, 0] rfl) h K
            · cases h
              refine W.widen (k := cells + 2 * 11) (n := slots + 2 * 152) (by omega) (by omega) ?_
              exact K.2.2.2.2.2.2.2.2.2.2.1 rfl _ _ ls hH hS hz (x_sub hl [2, 3, 4, 5, 6] rfl)
        · cases h
          refine W.widen (k := cells + 2 * 11) (n := slots + 2 * 152) (by omega) (by omega) ?_
          exact K.2.2.2.2.2.2.2.2.2.1 rfl _ _ ls hH hS hz (x_sub hl [2, 3, 4, 5, 6] rfl)
      rw [if_neg z] at h
      have z4 := lv_neT z (a := 4) (by decide)
      by_cases z : (v_8 &&& (31 : Int32)) = 5
      · rw [if_pos z] at h
        refine lv_tableIn (tgt := 510) C0.1 C0.2.1 d_Law_law_39 (by rw [z]; decide) (by rw [z]; decide) (by rw [z]; rfl) (by decide) ?_
        refine x_aload_n C0 hl 1 d_Law_law_510 rfl rfl ?_
        refine x_aload_n C0 hl 0 d_Law_law_511 rfl rfl ?_
        refine x_iload C0 hl 4 d_Law_law_512 rfl ?_
        refine lv_iconst (v := 1) C0.1 C0.2.1 d_Law_law_514 (by decide) ?_
        refine lv_iadd C0.1 C0.2.1 d_Law_law_515 ?_
        refine x_sld C0 hX hbl hbA hS d_Law_law_516 h (fun v_69 h => ?_)
        refine x_aload_n C0 hl 0 d_Law_law_517 rfl rfl ?_
        refine x_iload C0 hl 4 d_Law_law_518 rfl ?_
        refine lv_iconst (v := 2) C0.1 C0.2.1 d_Law_law_520 (by decide) ?_
        refine lv_iadd C0.1 C0.2.1 d_Law_law_521 ?_
        refine x_sld C0 hX hbl hbA hS d_Law_law_522 h (fun v_70 h => ?_)
        refine x_aload_n C0 hl 0 d_Law_law_523 rfl rfl ?_
        refine x_iload C0 hl 4 d_Law_law_524 rfl ?_
        refine lv_iconst (v := 3) C0.1 C0.2.1 d_Law_law_526 (by decide) ?_
        refine lv_iadd C0.1 C0.2.1 d_Law_law_527 ?_
        refine x_sld C0 hX hbl hbA hS d_Law_law_528 h (fun v_71 h => ?_)
        refine x_aload_n C0 hl 3 d_Law_law_529 rfl rfl ?_
        obtain ⟨q_72, e9, h⟩ := Option.bind_eq_some_iff.mp h
        have e9 := (show f_Law_place w (Array.size H) r1 v_69 v_70 v_71 r3 = some q_72 by rw [hz]; exact e9)
        refine x_call hS (vx_runSW (As := [va_rf r1, .int v_69, .int v_70, .int v_71, va_rf r3]) (rest := []) C0 (c_Law_place l G w _ r1 v_69 v_70 v_71 r3 q_72 e9 hlt) (vx_cwSW 5 C0.2.2.2.2 (x_goodW kw_2_155 kw_2_153 kw_2_154 kw_1_0) rfl rfl rfl (by decide +kernel) (x_rm hR1 hR2 (Nat.le_of_ble_eq_true rfl) (Nat.le_of_ble_eq_true rfl))) (x_preS hE hH hS) rfl rfl hl.1 rfl (lv_room (by first | exact Nat.le_of_ble_eq_true rfl | simp only [List.map_cons, List.map_nil, List.sum_cons, List.sum_nil, va_rf_cat, x_catI, x_catL, x_catA] <;> decide)) d_Law_law_530 ⟨Nat.le_trans (by omega) hR3, Nat.le_trans (by omega) hR4⟩) (fun H locs hH hS hz => ?_)
        refine W.widen (k := cells + (2 - (n + 1)) * 11 + 1) (n := slots + (2 - (n + 1)) * 152 + 6) (by omega) (by omega) ?_
        refine x_istore (lv' := [(5, .inl q_72.1), (0, .inr (.inl (some b))), (1, .inr (.inl r1)), (2, .inr (.inl r2)), (3, .inr (.inl r3)), (4, .inl x4)]) C0 hl d_Law_law_533 (by decide) rfl (fun ls hl => ?_)
        refine x_aload_n C0 hl 3 d_Law_law_535 rfl rfl ?_
        refine x_aload_n C0 hl 1 d_Law_law_536 rfl rfl ?_
        refine x_iload C0 hl 5 d_Law_law_537 rfl ?_
        refine lv_iconst (v := 1) C0.1 C0.2.1 d_Law_law_539 (by decide) ?_
        refine lv_iadd C0.1 C0.2.1 d_Law_law_540 ?_
        refine x_sld C0 hX hbl hbA hS d_Law_law_541 h (fun v_73 h => ?_)
        refine x_aload_n C0 hl 1 d_Law_law_542 rfl rfl ?_
        refine x_iload C0 hl 5 d_Law_law_543 rfl ?_
        refine lv_iconst (v := 2) C0.1 C0.2.1 d_Law_law_545 (by decide) ?_
        refine lv_iadd C0.1 C0.2.1 d_Law_law_546 ?_
        refine x_sld C0 hX hbl hbA hS d_Law_law_547 h (fun v_74 h => ?_)
        refine x_aload_n C0 hl 1 d_Law_law_548 rfl rfl ?_
        refine x_iload C0 hl 5 d_Law_law_549 rfl ?_
        refine lv_iconst (v := 3) C0.1 C0.2.1 d_Law_law_551 (by decide) ?_
        refine lv_iadd C0.1 C0.2.1 d_Law_law_552 ?_
        refine x_sld C0 hX hbl hbA hS d_Law_law_553 h (fun v_75 h => ?_)
        obtain ⟨b_77, e9, h⟩ := Option.bind_eq_some_iff.mp h
        obtain ⟨e8, fs9, hb9⟩ := xo_inv e9
        obtain ⟨q_76, e9, h⟩ := Option.bind_eq_some_iff.mp h
        refine x_call0 hS (va_runV (As := [.int v_73, .int v_74, .int v_75]) (rest := []) C0 (c_Mod_place l G q_72.2.1 _ b_77 v_73 v_74 v_75 q_76 e9) (x_cwV 3 C0 kw_4_182 kw_4_185 kw_1_3 kw_4_183 kw_4_184 (by decide +kernel) (x_rm hR1 hR2 (Nat.le_of_ble_eq_true rfl) (Nat.le_of_ble_eq_true rfl))) (x_preV hE hH hS (ci := 5) rfl hb9) rfl rfl hl.1 (by rw [e8]; rfl) (lv_room (by first | exact Nat.le_of_ble_eq_true rfl | simp only [List.map_cons, List.map_nil, List.sum_cons, List.sum_nil, va_rf_cat, x_catI, x_catL, x_catA] <;> decide)) d_Law_law_554 (x_le0 (Nat.le_trans (by omega) hR3) (Nat.le_trans (by omega) hR4))) (fun H locs hH hS hz9 => ?_)
        have hz := hz9.trans hz
        refine x_istore (lv' := [(6, .inl q_76.1), (5, .inl q_72.1), (0, .inr (.inl (some b))), (1, .inr (.inl r1)), (2, .inr (.inl r2)), (3, .inr (.inl r3)), (4, .inl x4)]) C0 hl d_Law_law_557 (by decide) rfl (fun ls hl => ?_)
        refine x_aload_n C0 hl 4 d_Law_law_559 rfl rfl ?_
        obtain ⟨b_79, e9, h⟩ := Option.bind_eq_some_iff.mp h
        obtain ⟨e8, fs9, hb9⟩ := xo_inv e9
        obtain ⟨q_78, e9, h⟩ := Option.bind_eq_some_iff.mp h
        refine x_callP (va_runV (As := []) (rest := []) C0 (c_Mod_thrown l G q_76.2 _ b_79 q_78 e9) (x_cwV 0 C0 kw_4_147 kw_4_150 kw_1_3 kw_4_148 kw_4_149 (by decide +kernel) (x_rm hR1 hR2 (Nat.le_of_ble_eq_true rfl) (Nat.le_of_ble_eq_true rfl))) (x_preV hE hH hS (ci := 5) rfl hb9) rfl rfl hl.1 (by rw [e8]; rfl) (lv_room (by first | exact Nat.le_of_ble_eq_true rfl | simp only [List.map_cons, List.map_nil, List.sum_cons, List.sum_nil, va_rf_cat, x_catI, x_catL, x_catA] <;> decide)) d_Law_law_560 (x_le0 (Nat.le_trans (by omega) hR3) (Nat.le_trans (by omega) hR4))) ?_
        refine x_iload C0 hl 1 d_Law_law_563 rfl ?_
        refine x_icmp_eq C0 570 d_Law_law_565 (by decide) h (fun h => ?_) (fun h => ?_)
        · refine x_iload C0 hl 1 d_Law_law_570 rfl ?_
          refine x_if_ne C0 587 d_Law_law_572 (by decide) h (fun h => ?_) (fun h => ?_)
          · refine x_goto C0 1296 d_Law_law_587 (by decide) ?_
            refine x_iinc (v := 5) (lv' := [(4, .inl (x4 + 5)), (6, .inl q_76.1), (5, .inl q_72.1), (0, .inr (.inl (some b))), (1, .inr (.inl r1)), (2, .inr (.inl r2)), (3, .inr (.inl r3))]) C0 hl 6 d_Law_law_1296 rfl (by decide) (by decide) rfl (fun ls hl => ?_)
            refine x_goto C0 23 d_Law_law_1299 (by decide) ?_
            refine W.widen (k := cells + (2 - n) * 11) (n := slots + (2 - n) * 152) (by omega) (by omega) ?_
            exact ih _ _ _ _ _ (by omega) q ls hH hS hz (x_sub hl [3, 4, 5, 6, 0] rfl) h K
          · refine x_aload_n C0 hl 5 d_Law_law_575 rfl rfl ?_
            refine lv_iconst (v := 0) C0.1 C0.2.1 d_Law_law_576 (by decide) ?_
            refine x_lald C0 hE hH (t := 5) rfl d_Law_law_577 h (fun v_80 h => ?_)
            refine x_iload C0 hl 0 d_Law_law_578 rfl ?_
            refine lv_i2l C0.1 C0.2.1 d_Law_law_580 rfl ?_
            refine W.lcmp C0.1 C0.2.1 d_Law_law_581 ?_
            refine x_if_eq C0 587 d_Law_law_582 (by decide) h (fun h => ?_) (fun h => ?_)
            · refine x_goto C0 1296 d_Law_law_587 (by decide) ?_
              refine x_iinc (v := 5) (lv' := [(4, .inl (x4 + 5)), (6, .inl q_76.1), (5, .inl q_72.1), (0, .inr (.inl (some b))), (1, .inr (.inl r1)), (2, .inr (.inl r2)), (3, .inr (.inl r3))]) C0 hl 6 d_Law_law_1296 rfl (by decide) (by decide) rfl (fun ls hl => ?_)
              refine x_goto C0 23 d_Law_law_1299 (by decide) ?_
              refine W.widen (k := cells + (2 - n) * 11) (n := slots + (2 - n) * 152) (by omega) (by omega) ?_
              exact ih _ _ _ _ _ (by omega) q ls hH hS hz (x_sub hl [3, 4, 5, 6, 0] rfl) h K
            · cases h
              refine W.widen (k := cells + 2 * 11) (n := slots + 2 * 152) (by omega) (by omega) ?_
              exact K.2.2.2.2.2.2.2.2.2.2.2.2.1 rfl _ _ ls hH hS hz (x_sub hl [2, 3, 4, 5, 6] rfl)
        · cases h
          refine W.widen (k := cells + 2 * 11) (n := slots + 2 * 152) (by omega) (by omega) ?_
          exact K.2.2.2.2.2.2.2.2.2.2.2.1 rfl _ _ ls hH hS hz (x_sub hl [2, 3, 4, 5, 6] rfl)
      rw [if_neg z] at h
      have z5 := lv_neT z (a := 5) (by decide)
      by_cases z : (v_8 &&& (31 : Int32)) = 6
      · rw [if_pos z] at h
        refine lv_tableIn (tgt := 590) C0.1 C0.2.1 d_Law_law_39 (by rw [z]; decide) (by rw [z]; decide) (by rw [z]; rfl) (by decide) ?_
        refine x_aload_n C0 hl 1 d_Law_law_590 rfl rfl ?_
        refine x_aload_n C0 hl 0 d_Law_law_591 rfl rfl ?_
        refine x_iload C0 hl 4 d_Law_law_592 rfl ?_
        refine lv_iconst (v := 1) C0.1 C0.2.1 d_Law_law_594 (by decide) ?_
        refine lv_iadd C0.1 C0.2.1 d_Law_law_595 ?_
        refine x_sld C0 hX hbl hbA hS d_Law_law_596 h (fun v_81 h => ?_)
        refine x_aload_n C0 hl 0 d_Law_law_597 rfl rfl ?_
        refine x_iload C0 hl 4 d_Law_law_598 rfl ?_
        refine lv_iconst (v := 2) C0.1 C0.2.1 d_Law_law_600 (by decide) ?_
        refine lv_iadd C0.1 C0.2.1 d_Law_law_601 ?_
        refine x_sld C0 hX hbl hbA hS d_Law_law_602 h (fun v_82 h => ?_)
        refine x_aload_n C0 hl 0 d_Law_law_603 rfl rfl ?_
        refine x_iload C0 hl 4 d_Law_law_604 rfl ?_
        refine lv_iconst (v := 3) C0.1 C0.2.1 d_Law_law_606 (by decide) ?_
        refine lv_iadd C0.1 C0.2.1 d_Law_law_607 ?_
        refine x_sld C0 hX hbl hbA hS d_Law_law_608 h (fun v_83 h => ?_)
        refine x_aload_n C0 hl 3 d_Law_law_609 rfl rfl ?_
        obtain ⟨q_84, e9, h⟩ := Option.bind_eq_some_iff.mp h
        have e9 := (show f_Law_at w (Array.size H) r1 v_81 v_82 v_83 r3 = some q_84 by rw [hz]; exact e9)
        refine x_call hS (vx_runSW (As := [va_rf r1, .int v_81, .int v_82, .int v_83, va_rf r3]) (rest := []) C0 (c_Law_at l G w _ r1 v_81 v_82 v_83 r3 q_84 e9 hlt) (vx_cwSW 5 C0.2.2.2.2 (x_goodW kw_2_203 kw_2_201 kw_2_202 kw_1_0) rfl rfl rfl (by decide +kernel) (x_rm hR1 hR2 (Nat.le_of_ble_eq_true rfl) (Nat.le_of_ble_eq_true rfl))) (x_preS hE hH hS) rfl rfl hl.1 rfl (lv_room (by first | exact Nat.le_of_ble_eq_true rfl | simp only [List.map_cons, List.map_nil, List.sum_cons, List.sum_nil, va_rf_cat, x_catI, x_catL, x_catA] <;> decide)) d_Law_law_610 ⟨Nat.le_trans (by omega) hR3, Nat.le_trans (by omega) hR4⟩) (fun H locs hH hS hz => ?_)
        refine W.widen (k := cells + (2 - (n + 1)) * 11 + 1) (n := slots + (2 - (n + 1)) * 152 + 6) (by omega) (by omega) ?_
        refine x_istore (lv' := [(5, .inl q_84.1), (0, .inr (.inl (some b))), (1, .inr (.inl r1)), (2, .inr (.inl r2)), (3, .inr (.inl r3)), (4, .inl x4)]) C0 hl d_Law_law_613 (by decide) rfl (fun ls hl => ?_)
        refine x_aload_n C0 hl 3 d_Law_law_615 rfl rfl ?_
        refine x_aload_n C0 hl 1 d_Law_law_616 rfl rfl ?_
        refine x_iload C0 hl 5 d_Law_law_617 rfl ?_
        refine lv_iconst (v := 1) C0.1 C0.2.1 d_Law_law_619 (by decide) ?_
        refine lv_iadd C0.1 C0.2.1 d_Law_law_620 ?_
        refine x_sld C0 hX hbl hbA hS d_Law_law_621 h (fun v_85 h => ?_)
        refine x_aload_n C0 hl 1 d_Law_law_622 rfl rfl ?_
        refine x_iload C0 hl 5 d_Law_law_623 rfl ?_
        refine lv_iconst (v := 2) C0.1 C0.2.1 d_Law_law_625 (by decide) ?_
        refine lv_iadd C0.1 C0.2.1 d_Law_law_626 ?_
        refine x_sld C0 hX hbl hbA hS d_Law_law_627 h (fun v_86 h => ?_)
        refine x_aload_n C0 hl 1 d_Law_law_628 rfl rfl ?_
        refine x_iload C0 hl 5 d_Law_law_629 rfl ?_
        refine lv_iconst (v := 3) C0.1 C0.2.1 d_Law_law_631 (by decide) ?_
        refine lv_iadd C0.1 C0.2.1 d_Law_law_632 ?_
        refine x_sld C0 hX hbl hbA hS d_Law_law_633 h (fun v_87 h => ?_)
        obtain ⟨b_89, e9, h⟩ := Option.bind_eq_some_iff.mp h
        obtain ⟨e8, fs9, hb9⟩ := xo_inv e9
        obtain ⟨q_88, e9, h⟩ := Option.bind_eq_some_iff.mp h
        refine x_call0 hS (va_runV (As := [.int v_85, .int v_86, .int v_87]) (rest := []) C0 (c_Mod_at l G q_84.2.1 _ b_89 v_85 v_86 v_87 q_88 e9) (x_cwV 3 C0 kw_4_230 kw_4_233 kw_1_3 kw_4_231 kw_4_232 (by decide +kernel) (x_rm hR1 hR2 (Nat.le_of_ble_eq_true rfl) (Nat.le_of_ble_eq_true rfl))) (x_preV hE hH hS (ci := 5) rfl hb9) rfl rfl hl.1 (by rw [e8]; rfl) (lv_room (by first | exact Nat.le_of_ble_eq_true rfl | simp only [List.map_cons, List.map_nil, List.sum_cons, List.sum_nil, va_rf_cat, x_catI, x_catL, x_catA] <;> decide)) d_Law_law_634 (x_le0 (Nat.le_trans (by omega) hR3) (Nat.le_trans (by omega) hR4))) (fun H locs hH hS hz9 => ?_)
        have hz := hz9.trans hz
        refine x_istore (lv' := [(6, .inl q_88.1), (5, .inl q_84.1), (0, .inr (.inl (some b))), (1, .inr (.inl r1)), (2, .inr (.inl r2)), (3, .inr (.inl r3)), (4, .inl x4)]) C0 hl d_Law_law_637 (by decide) rfl (fun ls hl => ?_)
        refine x_aload_n C0 hl 4 d_Law_law_639 rfl rfl ?_
        obtain ⟨b_91, e9, h⟩ := Option.bind_eq_some_iff.mp h
        obtain ⟨e8, fs9, hb9⟩ := xo_inv e9
        obtain ⟨q_90, e9, h⟩ := Option.bind_eq_some_iff.mp h
        refine x_callP (va_runV (As := []) (rest := []) C0 (c_Mod_thrown l G q_88.2 _ b_91 q_90 e9) (x_cwV 0 C0 kw_4_147 kw_4_150 kw_1_3 kw_4_148 kw_4_149 (by decide +kernel) (x_rm hR1 hR2 (Nat.le_of_ble_eq_true rfl) (Nat.le_of_ble_eq_true rfl))) (x_preV hE hH hS (ci := 5) rfl hb9) rfl rfl hl.1 (by rw [e8]; rfl) (lv_room (by first | exact Nat.le_of_ble_eq_true rfl | simp only [List.map_cons, List.map_nil, List.sum_cons, List.sum_nil, va_rf_cat, x_catI, x_catL, x_catA] <;> decide)) d_Law_law_640 (x_le0 (Nat.le_trans (by omega) hR3) (Nat.le_trans (by omega) hR4))) ?_
        refine x_iload C0 hl 1 d_Law_law_643 rfl ?_
        refine x_icmp_eq C0 650 d_Law_law_645 (by decide) h (fun h => ?_) (fun h => ?_)
        · refine x_iload C0 hl 1 d_Law_law_650 rfl ?_
          refine x_if_ne C0 667 d_Law_law_652 (by decide) h (fun h => ?_) (fun h => ?_)
          · refine x_goto C0 1296 d_Law_law_667 (by decide) ?_
            refine x_iinc (v := 5) (lv' := [(4, .inl (x4 + 5)), (6, .inl q_88.1), (5, .inl q_84.1), (0, .inr (.inl (some b))), (1, .inr (.inl r1)), (2, .inr (.inl r2)), (3, .inr (.inl r3))]) C0 hl 6 d_Law_law_1296 rfl (by decide) (by decide) rfl (fun ls hl => ?_)
            refine x_goto C0 23 d_Law_law_1299 (by decide) ?_
            refine W.widen (k := cells + (2 - n) * 11) (n := slots + (2 - n) * 152) (by omega) (by omega) ?_
            exact ih _ _ _ _ _ (by omega) q ls hH hS hz (x_sub hl [3, 4, 5, 6, 0] rfl) h K
          · refine x_aload_n C0 hl 5 d_Law_law_655 rfl rfl ?_
            refine lv_iconst (v := 0) C0.1 C0.2.1 d_Law_law_656 (by decide) ?_
            refine x_lald C0 hE hH (t := 5) rfl d_Law_law_657 h (fun v_92 h => ?_)
            refine x_iload C0 hl 0 d_Law_law_658 rfl ?_
            refine lv_i2l C0.1 C0.2.1 d_Law_law_660 rfl ?_
            refine W.lcmp C0.1 C0.2.1 d_Law_law_661 ?_
            refine x_if_eq C0 667 d_Law_law_662 (by decide) h (fun h => ?_) (fun h => ?_)
            · refine x_goto C0 1296 d_Law_law_667 (by decide) ?_
              refine x_iinc (v := 5) (lv' := [(4, .inl (x4 + 5)), (6, .inl q_88.1), (5, .inl q_84.1), (0, .inr (.inl (some b))), (1, .inr (.inl r1)), (2, .inr (.inl r2)), (3, .inr (.inl r3))]) C0 hl 6 d_Law_law_1296 rfl (by decide) (by decide) rfl (fun ls hl => ?_)
              refine x_goto C0 23 d_Law_law_1299 (by decide) ?_
              refine W.widen (k := cells + (2 - n) * 11) (n := slots + (2 - n) * 152) (by omega) (by omega) ?_
              exact ih _ _ _ _ _ (by omega) q ls hH hS hz (x_sub hl [3, 4, 5, 6, 0] rfl) h K
            · cases h
              refine W.widen (k := cells + 2 * 11) (n := slots + 2 * 152) (by omega) (by omega) ?_
              exact K.2.2.2.2.2.2.2.2.2.2.2.2.2.2.1 rfl _ _ ls hH hS hz (x_sub hl [2, 3, 4, 5, 6] rfl)
        · cases h
          refine W.widen (k := cells + 2 * 11) (n := slots + 2 * 152) (by omega) (by omega) ?_
          exact K.2.2.2.2.2.2.2.2.2.2.2.2.2.1 rfl _ _ ls hH hS hz (x_sub hl [2, 3, 4, 5, 6] rfl)
      rw [if_neg z] at h
      have z6 := lv_neT z (a := 6) (by decide)
      by_cases z : (v_8 &&& (31 : Int32)) = 7
      · rw [if_pos z] at h
        refine lv_tableIn (tgt := 670) C0.1 C0.2.1 d_Law_law_39 (by rw [z]; decide) (by rw [z]; decide) (by rw [z]; rfl) (by decide) ?_
        refine x_aload_n C0 hl 1 d_Law_law_670 rfl rfl ?_
        refine x_aload_n C0 hl 0 d_Law_law_671 rfl rfl ?_
        refine x_iload C0 hl 4 d_Law_law_672 rfl ?_
        refine lv_iconst (v := 1) C0.1 C0.2.1 d_Law_law_674 (by decide) ?_
        refine lv_iadd C0.1 C0.2.1 d_Law_law_675 ?_
        refine x_sld C0 hX hbl hbA hS d_Law_law_676 h (fun v_93 h => ?_)
        refine x_aload_n C0 hl 0 d_Law_law_677 rfl rfl ?_
        refine x_iload C0 hl 4 d_Law_law_678 rfl ?_
        refine lv_iconst (v := 2) C0.1 C0.2.1 d_Law_law_680 (by decide) ?_
        refine lv_iadd C0.1 C0.2.1 d_Law_law_681 ?_
        refine x_sld C0 hX hbl hbA hS d_Law_law_682 h (fun v_94 h => ?_)
        refine x_aload_n C0 hl 3 d_Law_law_683 rfl rfl ?_
        obtain ⟨q_95, e9, h⟩ := Option.bind_eq_some_iff.mp h
        have e9 := (show f_Law_about w (Array.size H) r1 v_93 v_94 r3 = some q_95 by rw [hz]; exact e9)
        refine x_call hS (vx_runSW (As := [va_rf r1, .int v_93, .int v_94, va_rf r3]) (rest := []) C0 (c_Law_about l G w _ r1 v_93 v_94 r3 q_95 e9 hlt) (vx_cwSW 4 C0.2.2.2.2 (x_goodW kw_2_221 kw_2_219 kw_2_220 kw_1_0) rfl rfl rfl (by decide +kernel) (x_rm hR1 hR2 (Nat.le_of_ble_eq_true rfl) (Nat.le_of_ble_eq_true rfl))) (x_preS hE hH hS) rfl rfl hl.1 rfl (lv_room (by first | exact Nat.le_of_ble_eq_true rfl | simp only [List.map_cons, List.map_nil, List.sum_cons, List.sum_nil, va_rf_cat, x_catI, x_catL, x_catA] <;> decide)) d_Law_law_684 ⟨Nat.le_trans (by omega) hR3, Nat.le_trans (by omega) hR4⟩) (fun H locs hH hS hz => ?_)
        refine W.widen (k := cells + (2 - (n + 1)) * 11 + 1) (n := slots + (2 - (n + 1)) * 152 + 6) (by omega) (by omega) ?_
        refine x_istore (lv' := [(5, .inl q_95.1), (0, .inr (.inl (some b))), (1, .inr (.inl r1)), (2, .inr (.inl r2)), (3, .inr (.inl r3)), (4, .inl x4)]) C0 hl d_Law_law_687 (by decide) rfl (fun ls hl => ?_)
        refine x_aload_n C0 hl 3 d_Law_law_689 rfl rfl ?_
        refine x_aload_n C0 hl 1 d_Law_law_690 rfl rfl ?_
        refine x_iload C0 hl 5 d_Law_law_691 rfl ?_
        refine lv_iconst (v := 1) C0.1 C0.2.1 d_Law_law_693 (by decide) ?_
        refine lv_iadd C0.1 C0.2.1 d_Law_law_694 ?_
        refine x_sld C0 hX hbl hbA hS d_Law_law_695 h (fun v_96 h => ?_)
        refine x_aload_n C0 hl 1 d_Law_law_696 rfl rfl ?_
        refine x_iload C0 hl 5 d_Law_law_697 rfl ?_
        refine lv_iconst (v := 2) C0.1 C0.2.1 d_Law_law_699 (by decide) ?_
        refine lv_iadd C0.1 C0.2.1 d_Law_law_700 ?_
        refine x_sld C0 hX hbl hbA hS d_Law_law_701 h (fun v_97 h => ?_)
        obtain ⟨b_99, e9, h⟩ := Option.bind_eq_some_iff.mp h
        obtain ⟨e8, fs9, hb9⟩ := xo_inv e9
        obtain ⟨q_98, e9, h⟩ := Option.bind_eq_some_iff.mp h
        refine x_call0 hS (va_runV (As := [.int v_96, .int v_97]) (rest := []) C0 (c_Mod_about l G q_95.2.1 _ b_99 v_96 v_97 q_98 e9) (x_cwV 2 C0 kw_4_238 kw_5_1 kw_1_3 kw_4_239 kw_5_0 (by decide +kernel) (x_rm hR1 hR2 (Nat.le_of_ble_eq_true rfl) (Nat.le_of_ble_eq_true rfl))) (x_preV hE hH hS (ci := 5) rfl hb9) rfl rfl hl.1 (by rw [e8]; rfl) (lv_room (by first | exact Nat.le_of_ble_eq_true rfl | simp only [List.map_cons, List.map_nil, List.sum_cons, List.sum_nil, va_rf_cat, x_catI, x_catL, x_catA] <;> decide)) d_Law_law_702 (x_le0 (Nat.le_trans (by omega) hR3) (Nat.le_trans (by omega) hR4))) (fun H locs hH hS hz9 => ?_)
        have hz := hz9.trans hz
        refine x_istore (lv' := [(6, .inl q_98.1), (5, .inl q_95.1), (0, .inr (.inl (some b))), (1, .inr (.inl r1)), (2, .inr (.inl r2)), (3, .inr (.inl r3)), (4, .inl x4)]) C0 hl d_Law_law_705 (by decide) rfl (fun ls hl => ?_)
        refine x_aload_n C0 hl 4 d_Law_law_707 rfl rfl ?_
        obtain ⟨b_101, e9, h⟩ := Option.bind_eq_some_iff.mp h
        obtain ⟨e8, fs9, hb9⟩ := xo_inv e9
        obtain ⟨q_100, e9, h⟩ := Option.bind_eq_some_iff.mp h
        refine x_callP (va_runV (As := []) (rest := []) C0 (c_Mod_thrown l G q_98.2 _ b_101 q_100 e9) (x_cwV 0 C0 kw_4_147 kw_4_150 kw_1_3 kw_4_148 kw_4_149 (by decide +kernel) (x_rm hR1 hR2 (Nat.le_of_ble_eq_true rfl) (Nat.le_of_ble_eq_true rfl))) (x_preV hE hH hS (ci := 5) rfl hb9) rfl rfl hl.1 (by rw [e8]; rfl) (lv_room (by first | exact Nat.le_of_ble_eq_true rfl | simp only [List.map_cons, List.map_nil, List.sum_cons, List.sum_nil, va_rf_cat, x_catI, x_catL, x_catA] <;> decide)) d_Law_law_708 (x_le0 (Nat.le_trans (by omega) hR3) (Nat.le_trans (by omega) hR4))) ?_
        refine x_iload C0 hl 1 d_Law_law_711 rfl ?_
        refine x_icmp_eq C0 718 d_Law_law_713 (by decide) h (fun h => ?_) (fun h => ?_)
        · refine x_iload C0 hl 1 d_Law_law_718 rfl ?_
          refine x_if_ne C0 735 d_Law_law_720 (by decide) h (fun h => ?_) (fun h => ?_)
          · refine x_goto C0 1296 d_Law_law_735 (by decide) ?_
            refine x_iinc (v := 5) (lv' := [(4, .inl (x4 + 5)), (6, .inl q_98.1), (5, .inl q_95.1), (0, .inr (.inl (some b))), (1, .inr (.inl r1)), (2, .inr (.inl r2)), (3, .inr (.inl r3))]) C0 hl 6 d_Law_law_1296 rfl (by decide) (by decide) rfl (fun ls hl => ?_)
            refine x_goto C0 23 d_Law_law_1299 (by decide) ?_
            refine W.widen (k := cells + (2 - n) * 11) (n := slots + (2 - n) * 152) (by omega) (by omega) ?_
            exact ih _ _ _ _ _ (by omega) q ls hH hS hz (x_sub hl [3, 4, 5, 6, 0] rfl) h K
          · refine x_aload_n C0 hl 5 d_Law_law_723 rfl rfl ?_
            refine lv_iconst (v := 0) C0.1 C0.2.1 d_Law_law_724 (by decide) ?_
            refine x_lald C0 hE hH (t := 5) rfl d_Law_law_725 h (fun v_102 h => ?_)
            refine x_iload C0 hl 0 d_Law_law_726 rfl ?_
            refine lv_i2l C0.1 C0.2.1 d_Law_law_728 rfl ?_
            refine W.lcmp C0.1 C0.2.1 d_Law_law_729 ?_
            refine x_if_eq C0 735 d_Law_law_730 (by decide) h (fun h => ?_) (fun h => ?_)
            · refine x_goto C0 1296 d_Law_law_735 (by decide) ?_
              refine x_iinc (v := 5) (lv' := [(4, .inl (x4 + 5)), (6, .inl q_98.1), (5, .inl q_95.1), (0, .inr (.inl (some b))), (1, .inr (.inl r1)), (2, .inr (.inl r2)), (3, .inr (.inl r3))]) C0 hl 6 d_Law_law_1296 rfl (by decide) (by decide) rfl (fun ls hl => ?_)
              refine x_goto C0 23 d_Law_law_1299 (by decide) ?_
              refine W.widen (k := cells + (2 - n) * 11) (n := slots + (2 - n) * 152) (by omega) (by omega) ?_
              exact ih _ _ _ _ _ (by omega) q ls hH hS hz (x_sub hl [3, 4, 5, 6, 0] rfl) h K
            · cases h
              refine W.widen (k := cells + 2 * 11) (n := slots + 2 * 152) (by omega) (by omega) ?_
              exact K.2.2.2.2.2.2.2.2.2.2.2.2.2.2.2.2.1 rfl _ _ ls hH hS hz (x_sub hl [2, 3, 4, 5, 6] rfl)
        · cases h
          refine W.widen (k := cells + 2 * 11) (n := slots + 2 * 152) (by omega) (by omega) ?_
          exact K.2.2.2.2.2.2.2.2.2.2.2.2.2.2.2.1 rfl _ _ ls hH hS hz (x_sub hl [2, 3, 4, 5, 6] rfl)
      rw [if_neg z] at h
      have z7 := lv_neT z (a := 7) (by decide)
      by_cases z : (v_8 &&& (31 : Int32)) = 8
      · rw [if_pos z] at h
        refine lv_tableIn (tgt := 738) C0.1 C0.2.1 d_Law_law_39 (by rw [z]; decide) (by rw [z]; decide) (by rw [z]; rfl) (by decide) ?_
        refine x_aload_n C0 hl 1 d_Law_law_738 rfl rfl ?_
        refine x_aload_n C0 hl 0 d_Law_law_739 rfl rfl ?_
        refine x_iload C0 hl 4 d_Law_law_740 rfl ?_
        refine lv_iconst (v := 1) C0.1 C0.2.1 d_Law_law_742 (by decide) ?_
        refine lv_iadd C0.1 C0.2.1 d_Law_law_743 ?_
        refine x_sld C0 hX hbl hbA hS d_Law_law_744 h (fun v_103 h => ?_)
        refine x_aload_n C0 hl 0 d_Law_law_745 rfl rfl ?_
        refine x_iload C0 hl 4 d_Law_law_746 rfl ?_
        refine lv_iconst (v := 2) C0.1 C0.2.1 d_Law_law_748 (by decide) ?_
        refine lv_iadd C0.1 C0.2.1 d_Law_law_749 ?_
        refine x_sld C0 hX hbl hbA hS d_Law_law_750 h (fun v_104 h => ?_)
        refine x_aload_n C0 hl 3 d_Law_law_751 rfl rfl ?_
        obtain ⟨q_105, e9, h⟩ := Option.bind_eq_some_iff.mp h
        have e9 := (show f_Law_seam w (Array.size H) r1 v_103 v_104 r3 = some q_105 by rw [hz]; exact e9)
        refine x_call hS (vx_runSW (As := [va_rf r1, .int v_103, .int v_104, va_rf r3]) (rest := []) C0 (c_Law_seam l G w _ r1 v_103 v_104 r3 q_105 e9 hlt) (vx_cwSW 4 C0.2.2.2.2 (x_goodW kw_3_1 kw_2_239 kw_3_0 kw_1_0) rfl rfl rfl (by decide +kernel) (x_rm hR1 hR2 (Nat.le_of_ble_eq_true rfl) (Nat.le_of_ble_eq_true rfl))) (x_preS hE hH hS) rfl rfl hl.1 rfl (lv_room (by first | exact Nat.le_of_ble_eq_true rfl | simp only [List.map_cons, List.map_nil, List.sum_cons, List.sum_nil, va_rf_cat, x_catI, x_catL, x_catA] <;> decide)) d_Law_law_752 ⟨Nat.le_trans (by omega) hR3, Nat.le_trans (by omega) hR4⟩) (fun H locs hH hS hz => ?_)
        refine W.widen (k := cells + (2 - (n + 1)) * 11 + 1) (n := slots + (2 - (n + 1)) * 152 + 6) (by omega) (by omega) ?_
        refine x_istore (lv' := [(5, .inl q_105.1), (0, .inr (.inl (some b))), (1, .inr (.inl r1)), (2, .inr (.inl r2)), (3, .inr (.inl r3)), (4, .inl x4)]) C0 hl d_Law_law_755 (by decide) rfl (fun ls hl => ?_)
        refine x_aload_n C0 hl 3 d_Law_law_757 rfl rfl ?_
        refine x_aload_n C0 hl 1 d_Law_law_758 rfl rfl ?_
        refine x_iload C0 hl 5 d_Law_law_759 rfl ?_
        refine lv_iconst (v := 1) C0.1 C0.2.1 d_Law_law_761 (by decide) ?_
        refine lv_iadd C0.1 C0.2.1 d_Law_law_762 ?_
        refine x_sld C0 hX hbl hbA hS d_Law_law_763 h (fun v_106 h => ?_)
        refine x_aload_n C0 hl 1 d_Law_law_764 rfl rfl ?_
        refine x_iload C0 hl 5 d_Law_law_765 rfl ?_
        refine lv_iconst (v := 2) C0.1 C0.2.1 d_Law_law_767 (by decide) ?_
        refine lv_iadd C0.1 C0.2.1 d_Law_law_768 ?_
        refine x_sld C0 hX hbl hbA hS d_Law_law_769 h (fun v_107 h => ?_)
        obtain ⟨b_109, e9, h⟩ := Option.bind_eq_some_iff.mp h
        obtain ⟨e8, fs9, hb9⟩ := xo_inv e9
        obtain ⟨q_108, e9, h⟩ := Option.bind_eq_some_iff.mp h
        refine x_call0 hS (va_runV (As := [.int v_106, .int v_107]) (rest := []) C0 (c_Mod_seam l G q_105.2.1 _ b_109 v_106 v_107 q_108 e9) (x_cwV 2 C0 kw_5_7 kw_5_10 kw_1_3 kw_5_8 kw_5_9 (by decide +kernel) (x_rm hR1 hR2 (Nat.le_of_ble_eq_true rfl) (Nat.le_of_ble_eq_true rfl))) (x_preV hE hH hS (ci := 5) rfl hb9) rfl rfl hl.1 (by rw [e8]; rfl) (lv_room (by first | exact Nat.le_of_ble_eq_true rfl | simp only [List.map_cons, List.map_nil, List.sum_cons, List.sum_nil, va_rf_cat, x_catI, x_catL, x_catA] <;> decide)) d_Law_law_770 (x_le0 (Nat.le_trans (by omega) hR3) (Nat.le_trans (by omega) hR4))) (fun H locs hH hS hz9 => ?_)
        have hz := hz9.trans hz
        refine x_istore (lv' := [(6, .inl q_108.1), (5, .inl q_105.1), (0, .inr (.inl (some b))), (1, .inr (.inl r1)), (2, .inr (.inl r2)), (3, .inr (.inl r3)), (4, .inl x4)]) C0 hl d_Law_law_773 (by decide) rfl (fun ls hl => ?_)
        refine x_aload_n C0 hl 4 d_Law_law_775 rfl rfl ?_
        obtain ⟨b_111, e9, h⟩ := Option.bind_eq_some_iff.mp h
        obtain ⟨e8, fs9, hb9⟩ := xo_inv e9
        obtain ⟨q_110, e9, h⟩ := Option.bind_eq_some_iff.mp h
        refine x_callP (va_runV (As := []) (rest := []) C0 (c_Mod_thrown l G q_108.2 _ b_111 q_110 e9) (x_cwV 0 C0 kw_4_147 kw_4_150 kw_1_3 kw_4_148 kw_4_149 (by decide +kernel) (x_rm hR1 hR2 (Nat.le_of_ble_eq_true rfl) (Nat.le_of_ble_eq_true rfl))) (x_preV hE hH hS (ci := 5) rfl hb9) rfl rfl hl.1 (by rw [e8]; rfl) (lv_room (by first | exact Nat.le_of_ble_eq_true rfl | simp only [List.map_cons, List.map_nil, List.sum_cons, List.sum_nil, va_rf_cat, x_catI, x_catL, x_catA] <;> decide)) d_Law_law_776 (x_le0 (Nat.le_trans (by omega) hR3) (Nat.le_trans (by omega) hR4))) ?_
        refine x_iload C0 hl 1 d_Law_law_779 rfl ?_
        refine x_icmp_eq C0 786 d_Law_law_781 (by decide) h (fun h => ?_) (fun h => ?_)
        · refine x_iload C0 hl 1 d_Law_law_786 rfl ?_
          refine x_if_ne C0 803 d_Law_law_788 (by decide) h (fun h => ?_) (fun h => ?_)
          · refine x_goto C0 1296 d_Law_law_803 (by decide) ?_
            refine x_iinc (v := 5) (lv' := [(4, .inl (x4 + 5)), (6, .inl q_108.1), (5, .inl q_105.1), (0, .inr (.inl (some b))), (1, .inr (.inl r1)), (2, .inr (.inl r2)), (3, .inr (.inl r3))]) C0 hl 6 d_Law_law_1296 rfl (by decide) (by decide) rfl (fun ls hl => ?_)
            refine x_goto C0 23 d_Law_law_1299 (by decide) ?_
            refine W.widen (k := cells + (2 - n) * 11) (n := slots + (2 - n) * 152) (by omega) (by omega) ?_
            exact ih _ _ _ _ _ (by omega) q ls hH hS hz (x_sub hl [3, 4, 5, 6, 0] rfl) h K
          · refine x_aload_n C0 hl 5 d_Law_law_791 rfl rfl ?_
            refine lv_iconst (v := 0) C0.1 C0.2.1 d_Law_law_792 (by decide) ?_
            refine x_lald C0 hE hH (t := 5) rfl d_Law_law_793 h (fun v_112 h => ?_)
            refine x_iload C0 hl 0 d_Law_law_794 rfl ?_
            refine lv_i2l C0.1 C0.2.1 d_Law_law_796 rfl ?_
            refine W.lcmp C0.1 C0.2.1 d_Law_law_797 ?_
            refine x_if_eq C0 803 d_Law_law_798 (by decide) h (fun h => ?_) (fun h => ?_)
            · refine x_goto C0 1296 d_Law_law_803 (by decide) ?_
              refine x_iinc (v := 5) (lv' := [(4, .inl (x4 + 5)), (6, .inl q_108.1), (5, .inl q_105.1), (0, .inr (.inl (some b))), (1, .inr (.inl r1)), (2, .inr (.inl r2)), (3, .inr (.inl r3))]) C0 hl 6 d_Law_law_1296 rfl (by decide) (by decide) rfl (fun ls hl => ?_)
              refine x_goto C0 23 d_Law_law_1299 (by decide) ?_
              refine W.widen (k := cells + (2 - n) * 11) (n := slots + (2 - n) * 152) (by omega) (by omega) ?_
              exact ih _ _ _ _ _ (by omega) q ls hH hS hz (x_sub hl [3, 4, 5, 6, 0] rfl) h K
            · cases h
              refine W.widen (k := cells + 2 * 11) (n := slots + 2 * 152) (by omega) (by omega) ?_
              exact K.2.2.2.2.2.2.2.2.2.2.2.2.2.2.2.2.2.2.1 rfl _ _ ls hH hS hz (x_sub hl [2, 3, 4, 5, 6] rfl)
        · cases h
          refine W.widen (k := cells + 2 * 11) (n := slots + 2 * 152) (by omega) (by omega) ?_
          exact K.2.2.2.2.2.2.2.2.2.2.2.2.2.2.2.2.2.1 rfl _ _ ls hH hS hz (x_sub hl [2, 3, 4, 5, 6] rfl)
      rw [if_neg z] at h
      have z8 := lv_neT z (a := 8) (by decide)
      by_cases z : (v_8 &&& (31 : Int32)) = 9
      · rw [if_pos z] at h
        refine lv_tableIn (tgt := 806) C0.1 C0.2.1 d_Law_law_39 (by rw [z]; decide) (by rw [z]; decide) (by rw [z]; rfl) (by decide) ?_
        refine x_aload_n C0 hl 1 d_Law_law_806 rfl rfl ?_
        refine x_aload_n C0 hl 0 d_Law_law_807 rfl rfl ?_
        refine x_iload C0 hl 4 d_Law_law_808 rfl ?_
        refine lv_iconst (v := 1) C0.1 C0.2.1 d_Law_law_810 (by decide) ?_
        refine lv_iadd C0.1 C0.2.1 d_Law_law_811 ?_
        refine x_sld C0 hX hbl hbA hS d_Law_law_812 h (fun v_113 h => ?_)
        refine x_aload_n C0 hl 0 d_Law_law_813 rfl rfl ?_
        refine x_iload C0 hl 4 d_Law_law_814 rfl ?_
        refine lv_iconst (v := 2) C0.1 C0.2.1 d_Law_law_816 (by decide) ?_
        refine lv_iadd C0.1 C0.2.1 d_Law_law_817 ?_
        refine x_sld C0 hX hbl hbA hS d_Law_law_818 h (fun v_114 h => ?_)
        refine x_aload_n C0 hl 0 d_Law_law_819 rfl rfl ?_
        refine x_iload C0 hl 4 d_Law_law_820 rfl ?_
        refine lv_iconst (v := 3) C0.1 C0.2.1 d_Law_law_822 (by decide) ?_
        refine lv_iadd C0.1 C0.2.1 d_Law_law_823 ?_
        refine x_sld C0 hX hbl hbA hS d_Law_law_824 h (fun v_115 h => ?_)
        refine x_aload_n C0 hl 3 d_Law_law_825 rfl rfl ?_
        obtain ⟨q_116, e9, h⟩ := Option.bind_eq_some_iff.mp h
        have e9 := (show f_Law_sum w (Array.size H) r1 v_113 v_114 v_115 r3 = some q_116 by rw [hz]; exact e9)
        refine x_call hS (vx_runSW (As := [va_rf r1, .int v_113, .int v_114, .int v_115, va_rf r3]) (rest := []) C0 (c_Law_sum l G w _ r1 v_113 v_114 v_115 r3 q_116 e9 hlt) (vx_cwSW 5 C0.2.2.2.2 (x_goodW kw_3_14 kw_3_12 kw_3_13 kw_1_0) rfl rfl rfl (by decide +kernel) (x_rm hR1 hR2 (Nat.le_of_ble_eq_true rfl) (Nat.le_of_ble_eq_true rfl))) (x_preS hE hH hS) rfl rfl hl.1 rfl (lv_room (by first | exact Nat.le_of_ble_eq_true rfl | simp only [List.map_cons, List.map_nil, List.sum_cons, List.sum_nil, va_rf_cat, x_catI, x_catL, x_catA] <;> decide)) d_Law_law_826 ⟨Nat.le_trans (by omega) hR3, Nat.le_trans (by omega) hR4⟩) (fun H locs hH hS hz => ?_)
        refine W.widen (k := cells + (2 - (n + 1)) * 11 + 1) (n := slots + (2 - (n + 1)) * 152 + 6) (by omega) (by omega) ?_
        refine x_istore (lv' := [(5, .inl q_116.1), (0, .inr (.inl (some b))), (1, .inr (.inl r1)), (2, .inr (.inl r2)), (3, .inr (.inl r3)), (4, .inl x4)]) C0 hl d_Law_law_829 (by decide) rfl (fun ls hl => ?_)
        refine x_aload_n C0 hl 3 d_Law_law_831 rfl rfl ?_
        refine x_aload_n C0 hl 1 d_Law_law_832 rfl rfl ?_
        refine x_iload C0 hl 5 d_Law_law_833 rfl ?_
        refine lv_iconst (v := 1) C0.1 C0.2.1 d_Law_law_835 (by decide) ?_
        refine lv_iadd C0.1 C0.2.1 d_Law_law_836 ?_
        refine x_sld C0 hX hbl hbA hS d_Law_law_837 h (fun v_117 h => ?_)
        refine x_aload_n C0 hl 1 d_Law_law_838 rfl rfl ?_
        refine x_iload C0 hl 5 d_Law_law_839 rfl ?_
        refine lv_iconst (v := 2) C0.1 C0.2.1 d_Law_law_841 (by decide) ?_
        refine lv_iadd C0.1 C0.2.1 d_Law_law_842 ?_
        refine x_sld C0 hX hbl hbA hS d_Law_law_843 h (fun v_118 h => ?_)
        refine x_aload_n C0 hl 1 d_Law_law_844 rfl rfl ?_
        refine x_iload C0 hl 5 d_Law_law_845 rfl ?_
        refine lv_iconst (v := 3) C0.1 C0.2.1 d_Law_law_847 (by decide) ?_
        refine lv_iadd C0.1 C0.2.1 d_Law_law_848 ?_
        refine x_sld C0 hX hbl hbA hS d_Law_law_849 h (fun v_119 h => ?_)
        obtain ⟨b_121, e9, h⟩ := Option.bind_eq_some_iff.mp h
        obtain ⟨e8, fs9, hb9⟩ := xo_inv e9
        obtain ⟨q_120, e9, h⟩ := Option.bind_eq_some_iff.mp h
        refine x_call0 hS (va_runV (As := [.int v_117, .int v_118, .int v_119]) (rest := []) C0 (c_Mod_sum l G q_116.2.1 _ b_121 v_117 v_118 v_119 q_120 e9) (x_cwV 3 C0 kw_5_19 kw_5_22 kw_1_3 kw_5_20 kw_5_21 (by decide +kernel) (x_rm hR1 hR2 (Nat.le_of_ble_eq_true rfl) (Nat.le_of_ble_eq_true rfl))) (x_preV hE hH hS (ci := 5) rfl hb9) rfl rfl hl.1 (by rw [e8]; rfl) (lv_room (by first | exact Nat.le_of_ble_eq_true rfl | simp only [List.map_cons, List.map_nil, List.sum_cons, List.sum_nil, va_rf_cat, x_catI, x_catL, x_catA] <;> decide)) d_Law_law_850 (x_le0 (Nat.le_trans (by omega) hR3) (Nat.le_trans (by omega) hR4))) (fun H locs hH hS hz9 => ?_)
        have hz := hz9.trans hz
        refine x_lstore (lv' := [(6, .inr (.inr q_120.1)), (5, .inl q_116.1), (0, .inr (.inl (some b))), (1, .inr (.inl r1)), (2, .inr (.inl r2)), (3, .inr (.inl r3)), (4, .inl x4)]) C0 hl d_Law_law_853 (by decide) rfl (fun ls hl => ?_)
        refine x_aload_n C0 hl 4 d_Law_law_855 rfl rfl ?_
        obtain ⟨b_123, e9, h⟩ := Option.bind_eq_some_iff.mp h
        obtain ⟨e8, fs9, hb9⟩ := xo_inv e9
        obtain ⟨q_122, e9, h⟩ := Option.bind_eq_some_iff.mp h
        refine x_callP (va_runV (As := []) (rest := []) C0 (c_Mod_thrown l G q_120.2 _ b_123 q_122 e9) (x_cwV 0 C0 kw_4_147 kw_4_150 kw_1_3 kw_4_148 kw_4_149 (by decide +kernel) (x_rm hR1 hR2 (Nat.le_of_ble_eq_true rfl) (Nat.le_of_ble_eq_true rfl))) (x_preV hE hH hS (ci := 5) rfl hb9) rfl rfl hl.1 (by rw [e8]; rfl) (lv_room (by first | exact Nat.le_of_ble_eq_true rfl | simp only [List.map_cons, List.map_nil, List.sum_cons, List.sum_nil, va_rf_cat, x_catI, x_catL, x_catA] <;> decide)) d_Law_law_856 (x_le0 (Nat.le_trans (by omega) hR3) (Nat.le_trans (by omega) hR4))) ?_
        refine x_iload C0 hl 1 d_Law_law_859 rfl ?_
        refine x_icmp_eq C0 866 d_Law_law_861 (by decide) h (fun h => ?_) (fun h => ?_)
        · refine x_iload C0 hl 1 d_Law_law_866 rfl ?_
          refine x_if_ne C0 882 d_Law_law_868 (by decide) h (fun h => ?_) (fun h => ?_)
          · refine x_goto C0 1296 d_Law_law_882 (by decide) ?_
            refine x_iinc (v := 5) (lv' := [(4, .inl (x4 + 5)), (6, .inr (.inr q_120.1)), (5, .inl q_116.1), (0, .inr (.inl (some b))), (1, .inr (.inl r1)), (2, .inr (.inl r2)), (3, .inr (.inl r3))]) C0 hl 6 d_Law_law_1296 rfl (by decide) (by decide) rfl (fun ls hl => ?_)
            refine x_goto C0 23 d_Law_law_1299 (by decide) ?_
            refine W.widen (k := cells + (2 - n) * 11) (n := slots + (2 - n) * 152) (by omega) (by omega) ?_
            exact ih _ _ _ _ _ (by omega) q ls hH hS hz (x_sub hl [3, 4, 5, 6, 0] rfl) h K
          · refine x_aload_n C0 hl 5 d_Law_law_871 rfl rfl ?_
            refine lv_iconst (v := 0) C0.1 C0.2.1 d_Law_law_872 (by decide) ?_
            refine x_lald C0 hE hH (t := 5) rfl d_Law_law_873 h (fun v_124 h => ?_)
            refine x_lload C0 hl 0 d_Law_law_874 rfl ?_
            refine W.lcmp C0.1 C0.2.1 d_Law_law_876 ?_
            refine x_if_eq C0 882 d_Law_law_877 (by decide) h (fun h => ?_) (fun h => ?_)
            · refine x_goto C0 1296 d_Law_law_882 (by decide) ?_
              refine x_iinc (v := 5) (lv' := [(4, .inl (x4 + 5)), (6, .inr (.inr q_120.1)), (5, .inl q_116.1), (0, .inr (.inl (some b))), (1, .inr (.inl r1)), (2, .inr (.inl r2)), (3, .inr (.inl r3))]) C0 hl 6 d_Law_law_1296 rfl (by decide) (by decide) rfl (fun ls hl => ?_)
              refine x_goto C0 23 d_Law_law_1299 (by decide) ?_
              refine W.widen (k := cells + (2 - n) * 11) (n := slots + (2 - n) * 152) (by omega) (by omega) ?_
              exact ih _ _ _ _ _ (by omega) q ls hH hS hz (x_sub hl [3, 4, 5, 6, 0] rfl) h K
            · cases h
              refine W.widen (k := cells + 2 * 11) (n := slots + 2 * 152) (by omega) (by omega) ?_
              exact K.2.2.2.2.2.2.2.2.2.2.2.2.2.2.2.2.2.2.2.2.1 rfl _ _ ls hH hS hz (x_sub hl [2, 3, 4, 5, 6] rfl)
        · cases h
          refine W.widen (k := cells + 2 * 11) (n := slots + 2 * 152) (by omega) (by omega) ?_
          exact K.2.2.2.2.2.2.2.2.2.2.2.2.2.2.2.2.2.2.2.1 rfl _ _ ls hH hS hz (x_sub hl [2, 3, 4, 5, 6] rfl)
      rw [if_neg z] at h
      have z9 := lv_neT z (a := 9) (by decide)
      by_cases z : (v_8 &&& (31 : Int32)) = 10
      · rw [if_pos z] at h
        refine lv_tableIn (tgt := 885) C0.1 C0.2.1 d_Law_law_39 (by rw [z]; decide) (by rw [z]; decide) (by rw [z]; rfl) (by decide) ?_
        refine x_aload_n C0 hl 1 d_Law_law_885 rfl rfl ?_
        refine x_aload_n C0 hl 0 d_Law_law_886 rfl rfl ?_
        refine x_iload C0 hl 4 d_Law_law_887 rfl ?_
        refine lv_iconst (v := 1) C0.1 C0.2.1 d_Law_law_889 (by decide) ?_
        refine lv_iadd C0.1 C0.2.1 d_Law_law_890 ?_
        refine x_sld C0 hX hbl hbA hS d_Law_law_891 h (fun v_125 h => ?_)
        refine x_aload_n C0 hl 0 d_Law_law_892 rfl rfl ?_
        refine x_iload C0 hl 4 d_Law_law_893 rfl ?_
        refine lv_iconst (v := 2) C0.1 C0.2.1 d_Law_law_895 (by decide) ?_
        refine lv_iadd C0.1 C0.2.1 d_Law_law_896 ?_
        refine x_sld C0 hX hbl hbA hS d_Law_law_897 h (fun v_126 h => ?_)
        refine x_aload_n C0 hl 3 d_Law_law_898 rfl rfl ?_
        obtain ⟨q_127, e9, h⟩ := Option.bind_eq_some_iff.mp h
        have e9 := (show f_Law_mirrored w (Array.size H) r1 v_125 v_126 r3 = some q_127 by rw [hz]; exact e9)
        refine x_call hS (vx_runSW (As := [va_rf r1, .int v_125, .int v_126, va_rf r3]) (rest := []) C0 (c_Law_mirrored l G w _ r1 v_125 v_126 r3 q_127 e9 hlt) (vx_cwSW 4 C0.2.2.2.2 (x_goodW kw_3_23 kw_3_21 kw_3_22 kw_1_0) rfl rfl rfl (by decide +kernel) (x_rm hR1 hR2 (Nat.le_of_ble_eq_true rfl) (Nat.le_of_ble_eq_true rfl))) (x_preS hE hH hS) rfl rfl hl.1 rfl (lv_room (by first | exact Nat.le_of_ble_eq_true rfl | simp only [List.map_cons, List.map_nil, List.sum_cons, List.sum_nil, va_rf_cat, x_catI, x_catL, x_catA] <;> decide)) d_Law_law_899 ⟨Nat.le_trans (by omega) hR3, Nat.le_trans (by omega) hR4⟩) (fun H locs hH hS hz => ?_)
        refine W.widen (k := cells + (2 - (n + 1)) * 11 + 1) (n := slots + (2 - (n + 1)) * 152 + 6) (by omega) (by omega) ?_
        refine x_istore (lv' := [(5, .inl q_127.1), (0, .inr (.inl (some b))), (1, .inr (.inl r1)), (2, .inr (.inl r2)), (3, .inr (.inl r3)), (4, .inl x4)]) C0 hl d_Law_law_902 (by decide) rfl (fun ls hl => ?_)
        refine x_aload_n C0 hl 3 d_Law_law_904 rfl rfl ?_
        refine x_aload_n C0 hl 1 d_Law_law_905 rfl rfl ?_
        refine x_iload C0 hl 5 d_Law_law_906 rfl ?_
        refine lv_iconst (v := 1) C0.1 C0.2.1 d_Law_law_908 (by decide) ?_
        refine lv_iadd C0.1 C0.2.1 d_Law_law_909 ?_
        refine x_sld C0 hX hbl hbA hS d_Law_law_910 h (fun v_128 h => ?_)
        refine x_aload_n C0 hl 1 d_Law_law_911 rfl rfl ?_
        refine x_iload C0 hl 5 d_Law_law_912 rfl ?_
        refine lv_iconst (v := 2) C0.1 C0.2.1 d_Law_law_914 (by decide) ?_
        refine lv_iadd C0.1 C0.2.1 d_Law_law_915 ?_
        refine x_sld C0 hX hbl hbA hS d_Law_law_916 h (fun v_129 h => ?_)
        obtain ⟨b_131, e9, h⟩ := Option.bind_eq_some_iff.mp h
        obtain ⟨e8, fs9, hb9⟩ := xo_inv e9
        obtain ⟨q_130, e9, h⟩ := Option.bind_eq_some_iff.mp h
        refine x_call0 hS (va_runV (As := [.int v_128, .int v_129]) (rest := []) C0 (c_Mod_mirrored l G q_127.2.1 _ b_131 v_128 v_129 q_130 e9) (x_cwV 2 C0 kw_5_23 kw_5_26 kw_1_3 kw_5_24 kw_5_25 (by decide +kernel) (x_rm hR1 hR2 (Nat.le_of_ble_eq_true rfl) (Nat.le_of_ble_eq_true rfl))) (x_preV hE hH hS (ci := 5) rfl hb9) rfl rfl hl.1 (by rw [e8]; rfl) (lv_room (by first | exact Nat.le_of_ble_eq_true rfl | simp only [List.map_cons, List.map_nil, List.sum_cons, List.sum_nil, va_rf_cat, x_catI, x_catL, x_catA] <;> decide)) d_Law_law_917 (x_le0 (Nat.le_trans (by omega) hR3) (Nat.le_trans (by omega) hR4))) (fun H locs hH hS hz9 => ?_)
        have hz := hz9.trans hz
        refine x_istore (lv' := [(6, .inl q_130.1), (5, .inl q_127.1), (0, .inr (.inl (some b))), (1, .inr (.inl r1)), (2, .inr (.inl r2)), (3, .inr (.inl r3)), (4, .inl x4)]) C0 hl d_Law_law_920 (by decide) rfl (fun ls hl => ?_)
        refine x_aload_n C0 hl 4 d_Law_law_922 rfl rfl ?_
        obtain ⟨b_133, e9, h⟩ := Option.bind_eq_some_iff.mp h
        obtain ⟨e8, fs9, hb9⟩ := xo_inv e9
        obtain ⟨q_132, e9, h⟩ := Option.bind_eq_some_iff.mp h
        refine x_callP (va_runV (As := []) (rest := []) C0 (c_Mod_thrown l G q_130.2 _ b_133 q_132 e9) (x_cwV 0 C0 kw_4_147 kw_4_150 kw_1_3 kw_4_148 kw_4_149 (by decide +kernel) (x_rm hR1 hR2 (Nat.le_of_ble_eq_true rfl) (Nat.le_of_ble_eq_true rfl))) (x_preV hE hH hS (ci := 5) rfl hb9) rfl rfl hl.1 (by rw [e8]; rfl) (lv_room (by first | exact Nat.le_of_ble_eq_true rfl | simp only [List.map_cons, List.map_nil, List.sum_cons, List.sum_nil, va_rf_cat, x_catI, x_catL, x_catA] <;> decide)) d_Law_law_923 (x_le0 (Nat.le_trans (by omega) hR3) (Nat.le_trans (by omega) hR4))) ?_
        refine x_iload C0 hl 1 d_Law_law_926 rfl ?_
        refine x_icmp_eq C0 933 d_Law_law_928 (by decide) h (fun h => ?_) (fun h => ?_)
        · refine x_iload C0 hl 1 d_Law_law_933 rfl ?_
          refine x_if_ne C0 957 d_Law_law_935 (by decide) h (fun h => ?_) (fun h => ?_)
          · refine x_goto C0 1296 d_Law_law_957 (by decide) ?_
            refine x_iinc (v := 5) (lv' := [(4, .inl (x4 + 5)), (6, .inl q_130.1), (5, .inl q_127.1), (0, .inr (.inl (some b))), (1, .inr (.inl r1)), (2, .inr (.inl r2)), (3, .inr (.inl r3))]) C0 hl 6 d_Law_law_1296 rfl (by decide) (by decide) rfl (fun ls hl => ?_)
            refine x_goto C0 23 d_Law_law_1299 (by decide) ?_
            refine W.widen (k := cells + (2 - n) * 11) (n := slots + (2 - n) * 152) (by omega) (by omega) ?_
            exact ih _ _ _ _ _ (by omega) q ls hH hS hz (x_sub hl [3, 4, 5, 6, 0] rfl) h K
          · refine x_aload_n C0 hl 5 d_Law_law_938 rfl rfl ?_
            refine lv_iconst (v := 0) C0.1 C0.2.1 d_Law_law_939 (by decide) ?_
            refine x_lald C0 hE hH (t := 5) rfl d_Law_law_940 h (fun v_134 h => ?_)
            refine x_iload C0 hl 0 d_Law_law_941 rfl ?_
            refine xj1 h (fun J_136 eJ_136 h => ?_)
            have kJ_136 : ∀ (y_135 : Int64) (ls : Array Slot), xL ls 8 [(0, .inr (.inl (some b))), (1, .inr (.inl r1)), (2, .inr (.inl r2)), (3, .inr (.inl r3)), (4, .inl x4)] → J_136 y_135 = some q → W p l e R s m args below meth c H locs (cells + (2 - (n + 1)) * 11 + 1) (slots + (2 - (n + 1)) * 152 + 6) Q (F0 m 951 ls [.long y_135, .long v_134]) := by
              intro y_135 ls hl h
              rw [eJ_136] at h
              refine W.lcmp C0.1 C0.2.1 d_Law_law_951 ?_
              refine x_if_eq C0 957 d_Law_law_952 (by decide) h (fun h => ?_) (fun h => ?_)
              · refine x_goto C0 1296 d_Law_law_957 (by decide) ?_
                refine x_iinc (v := 5) (lv' := [(4, .inl (x4 + 5)), (0, .inr (.inl (some b))), (1, .inr (.inl r1)), (2, .inr (.inl r2)), (3, .inr (.inl r3))]) C0 hl 4 d_Law_law_1296 rfl (by decide) (by decide) rfl (fun ls hl => ?_)
                refine x_goto C0 23 d_Law_law_1299 (by decide) ?_
                refine W.widen (k := cells + (2 - n) * 11) (n := slots + (2 - n) * 152) (by omega) (by omega) ?_
                exact ih _ _ _ _ _ (by omega) q ls hH hS hz (x_sub hl [1, 2, 3, 4, 0] rfl) h K
              · cases h
                refine W.widen (k := cells + 2 * 11) (n := slots + 2 * 152) (by omega) (by omega) ?_
                exact K.2.2.2.2.2.2.2.2.2.2.2.2.2.2.2.2.2.2.2.2.2.2.1 rfl _ _ ls hH hS hz (x_sub hl [0, 1, 2, 3, 4] rfl)
            refine x_if_eq C0 950 d_Law_law_943 (by decide) h (fun h => ?_) (fun h => ?_)
            · refine lv_lconst (v := 0) C0.1 C0.2.1 d_Law_law_950 (by decide) ?_
              exact kJ_136 _ ls (x_sub hl [2, 3, 4, 5, 6] rfl) h
            · refine lv_lconst (v := 1) C0.1 C0.2.1 d_Law_law_946 (by decide) ?_
              refine x_goto C0 951 d_Law_law_947 (by decide) ?_
              exact kJ_136 _ ls (x_sub hl [2, 3, 4, 5, 6] rfl) h
        · cases h
          refine W.widen (k := cells + 2 * 11) (n := slots + 2 * 152) (by omega) (by omega) ?_
          exact K.2.2.2.2.2.2.2.2.2.2.2.2.2.2.2.2.2.2.2.2.2.1 rfl _ _ ls hH hS hz (x_sub hl [2, 3, 4, 5, 6] rfl)
      rw [if_neg z] at h
      have z10 := lv_neT z (a := 10) (by decide)
      by_cases z : (v_8 &&& (31 : Int32)) = 11
      · rw [if_pos z] at h
        refine lv_tableIn (tgt := 960) C0.1 C0.2.1 d_Law_law_39 (by rw [z]; decide) (by rw [z]; decide) (by rw [z]; rfl) (by decide) ?_
        refine x_aload_n C0 hl 1 d_Law_law_960 rfl rfl ?_
        refine x_aload_n C0 hl 0 d_Law_law_961 rfl rfl ?_
        refine x_iload C0 hl 4 d_Law_law_962 rfl ?_
        refine lv_iconst (v := 1) C0.1 C0.2.1 d_Law_law_964 (by decide) ?_
        refine lv_iadd C0.1 C0.2.1 d_Law_law_965 ?_
        refine x_sld C0 hX hbl hbA hS d_Law_law_966 h (fun v_137 h => ?_)
        refine x_aload_n C0 hl 3 d_Law_law_967 rfl rfl ?_
        obtain ⟨q_138, e9, h⟩ := Option.bind_eq_some_iff.mp h
        have e9 := (show f_Law_balance w (Array.size H) r1 v_137 r3 = some q_138 by rw [hz]; exact e9)
        refine x_call hS (vx_runSW (As := [va_rf r1, .int v_137, va_rf r3]) (rest := []) C0 (c_Law_balance l G w _ r1 v_137 r3 q_138 e9 hlt) (vx_cwSW 3 C0.2.2.2.2 (x_goodW kw_3_30 kw_3_28 kw_3_29 kw_1_0) rfl rfl rfl (by decide +kernel) (x_rm hR1 hR2 (Nat.le_of_ble_eq_true rfl) (Nat.le_of_ble_eq_true rfl))) (x_preS hE hH hS) rfl rfl hl.1 rfl (lv_room (by first | exact Nat.le_of_ble_eq_true rfl | simp only [List.map_cons, List.map_nil, List.sum_cons, List.sum_nil, va_rf_cat, x_catI, x_catL, x_catA] <;> decide)) d_Law_law_968 ⟨Nat.le_trans (by omega) hR3, Nat.le_trans (by omega) hR4⟩) (fun H locs hH hS hz => ?_)
        refine W.widen (k := cells + (2 - (n + 1)) * 11 + 1) (n := slots + (2 - (n + 1)) * 152 + 6) (by omega) (by omega) ?_
        refine x_istore (lv' := [(5, .inl q_138.1), (0, .inr (.inl (some b))), (1, .inr (.inl r1)), (2, .inr (.inl r2)), (3, .inr (.inl r3)), (4, .inl x4)]) C0 hl d_Law_law_971 (by decide) rfl (fun ls hl => ?_)
        refine x_aload_n C0 hl 3 d_Law_law_973 rfl rfl ?_
        refine x_aload_n C0 hl 1 d_Law_law_974 rfl rfl ?_
        refine x_iload C0 hl 5 d_Law_law_975 rfl ?_
        refine lv_iconst (v := 1) C0.1 C0.2.1 d_Law_law_977 (by decide) ?_
        refine lv_iadd C0.1 C0.2.1 d_Law_law_978 ?_
        refine x_sld C0 hX hbl hbA hS d_Law_law_979 h (fun v_139 h => ?_)
        obtain ⟨b_141, e9, h⟩ := Option.bind_eq_some_iff.mp h
        obtain ⟨e8, fs9, hb9⟩ := xo_inv e9
        obtain ⟨q_140, e9, h⟩ := Option.bind_eq_some_iff.mp h
        refine x_call0 hS (va_runV (As := [.int v_139]) (rest := []) C0 (c_Mod_balance l G q_138.2.1 _ b_141 v_139 q_140 e9) (x_cwV 1 C0 kw_5_27 kw_5_30 kw_1_3 kw_5_28 kw_5_29 (by decide +kernel) (x_rm hR1 hR2 (Nat.le_of_ble_eq_true rfl) (Nat.le_of_ble_eq_true rfl))) (x_preV hE hH hS (ci := 5) rfl hb9) rfl rfl hl.1 (by rw [e8]; rfl) (lv_room (by first | exact Nat.le_of_ble_eq_true rfl | simp only [List.map_cons, List.map_nil, List.sum_cons, List.sum_nil, va_rf_cat, x_catI, x_catL, x_catA] <;> decide)) d_Law_law_980 (x_le0 (Nat.le_trans (by omega) hR3) (Nat.le_trans (by omega) hR4))) (fun H locs hH hS hz9 => ?_)
        have hz := hz9.trans hz
        refine x_istore (lv' := [(6, .inl q_140.1), (5, .inl q_138.1), (0, .inr (.inl (some b))), (1, .inr (.inl r1)), (2, .inr (.inl r2)), (3, .inr (.inl r3)), (4, .inl x4)]) C0 hl d_Law_law_983 (by decide) rfl (fun ls hl => ?_)
        refine x_aload_n C0 hl 4 d_Law_law_985 rfl rfl ?_
        obtain ⟨b_143, e9, h⟩ := Option.bind_eq_some_iff.mp h
        obtain ⟨e8, fs9, hb9⟩ := xo_inv e9
        obtain ⟨q_142, e9, h⟩ := Option.bind_eq_some_iff.mp h
        refine x_callP (va_runV (As := []) (rest := []) C0 (c_Mod_thrown l G q_140.2 _ b_143 q_142 e9) (x_cwV 0 C0 kw_4_147 kw_4_150 kw_1_3 kw_4_148 kw_4_149 (by decide +kernel) (x_rm hR1 hR2 (Nat.le_of_ble_eq_true rfl) (Nat.le_of_ble_eq_true rfl))) (x_preV hE hH hS (ci := 5) rfl hb9) rfl rfl hl.1 (by rw [e8]; rfl) (lv_room (by first | exact Nat.le_of_ble_eq_true rfl | simp only [List.map_cons, List.map_nil, List.sum_cons, List.sum_nil, va_rf_cat, x_catI, x_catL, x_catA] <;> decide)) d_Law_law_986 (x_le0 (Nat.le_trans (by omega) hR3) (Nat.le_trans (by omega) hR4))) ?_
        refine x_iload C0 hl 1 d_Law_law_989 rfl ?_
        refine x_icmp_eq C0 996 d_Law_law_991 (by decide) h (fun h => ?_) (fun h => ?_)
        · refine x_iload C0 hl 1 d_Law_law_996 rfl ?_
          refine x_if_ne C0 1020 d_Law_law_998 (by decide) h (fun h => ?_) (fun h => ?_)
          · refine x_goto C0 1296 d_Law_law_1020 (by decide) ?_
            refine x_iinc (v := 5) (lv' := [(4, .inl (x4 + 5)), (6, .inl q_140.1), (5, .inl q_138.1), (0, .inr (.inl (some b))), (1, .inr (.inl r1)), (2, .inr (.inl r2)), (3, .inr (.inl r3))]) C0 hl 6 d_Law_law_1296 rfl (by decide) (by decide) rfl (fun ls hl => ?_)
            refine x_goto C0 23 d_Law_law_1299 (by decide) ?_
            refine W.widen (k := cells + (2 - n) * 11) (n := slots + (2 - n) * 152) (by omega) (by omega) ?_
            exact ih _ _ _ _ _ (by omega) q ls hH hS hz (x_sub hl [3, 4, 5, 6, 0] rfl) h K
          · refine x_aload_n C0 hl 5 d_Law_law_1001 rfl rfl ?_
            refine lv_iconst (v := 0) C0.1 C0.2.1 d_Law_law_1002 (by decide) ?_
            refine x_lald C0 hE hH (t := 5) rfl d_Law_law_1003 h (fun v_144 h => ?_)
            refine x_iload C0 hl 0 d_Law_law_1004 rfl ?_
            refine xj1 h (fun J_146 eJ_146 h => ?_)
            have kJ_146 : ∀ (y_145 : Int64) (ls : Array Slot), xL ls 8 [(0, .inr (.inl (some b))), (1, .inr (.inl r1)), (2, .inr (.inl r2)), (3, .inr (.inl r3)), (4, .inl x4)] → J_146 y_145 = some q → W p l e R s m args below meth c H locs (cells + (2 - (n + 1)) * 11 + 1) (slots + (2 - (n + 1)) * 152 + 6) Q (F0 m 1014 ls [.long y_145, .long v_144]) := by
              intro y_145 ls hl h
              rw [eJ_146] at h
              refine W.lcmp C0.1 C0.2.1 d_Law_law_1014 ?_
              refine x_if_eq C0 1020 d_Law_law_1015 (by decide) h (fun h => ?_) (fun h => ?_)
              · refine x_goto C0 1296 d_Law_law_1020 (by decide) ?_
                refine x_iinc (v := 5) (lv' := [(4, .inl (x4 + 5)), (0, .inr (.inl (some b))), (1, .inr (.inl r1)), (2, .inr (.inl r2)), (3, .inr (.inl r3))]) C0 hl 4 d_Law_law_1296 rfl (by decide) (by decide) rfl (fun ls hl => ?_)
                refine x_goto C0 23 d_Law_law_1299 (by decide) ?_
                refine W.widen (k := cells + (2 - n) * 11) (n := slots + (2 - n) * 152) (by omega) (by omega) ?_
                exact ih _ _ _ _ _ (by omega) q ls hH hS hz (x_sub hl [1, 2, 3, 4, 0] rfl) h K
              · cases h
                refine W.widen (k := cells + 2 * 11) (n := slots + 2 * 152) (by omega) (by omega) ?_
                exact K.2.2.2.2.2.2.2.2.2.2.2.2.2.2.2.2.2.2.2.2.2.2.2.2.1 rfl _ _ ls hH hS hz (x_sub hl [0, 1, 2, 3, 4] rfl)
            refine x_if_eq C0 1013 d_Law_law_1006 (by decide) h (fun h => ?_) (fun h => ?_)
            · refine lv_lconst (v := 0) C0.1 C0.2.1 d_Law_law_1013 (by decide) ?_
              exact kJ_146 _ ls (x_sub hl [2, 3, 4, 5, 6] rfl) h
            · refine lv_lconst (v := 1) C0.1 C0.2.1 d_Law_law_1009 (by decide) ?_
              refine x_goto C0 1014 d_Law_law_1010 (by decide) ?_
              exact kJ_146 _ ls (x_sub hl [2, 3, 4, 5, 6] rfl) h
        · cases h
          refine W.widen (k := cells + 2 * 11) (n := slots + 2 * 152) (by omega) (by omega) ?_
          exact K.2.2.2.2.2.2.2.2.2.2.2.2.2.2.2.2.2.2.2.2.2.2.2.1 rfl _ _ ls hH hS hz (x_sub hl [2, 3, 4, 5, 6] rfl)
      rw [if_neg z] at h
      have z11 := lv_neT z (a := 11) (by decide)
      by_cases z : (v_8 &&& (31 : Int32)) = 12
      · rw [if_pos z] at h
        refine lv_tableIn (tgt := 1023) C0.1 C0.2.1 d_Law_law_39 (by rw [z]; decide) (by rw [z]; decide) (by rw [z]; rfl) (by decide) ?_
        refine x_aload_n C0 hl 1 d_Law_law_1023 rfl rfl ?_
        refine x_aload_n C0 hl 0 d_Law_law_1024 rfl rfl ?_
        refine x_iload C0 hl 4 d_Law_law_1025 rfl ?_
        refine lv_iconst (v := 1) C0.1 C0.2.1 d_Law_law_1027 (by decide) ?_
        refine lv_iadd C0.1 C0.2.1 d_Law_law_1028 ?_
        refine x_sld C0 hX hbl hbA hS d_Law_law_1029 h (fun v_147 h => ?_)
        refine x_aload_n C0 hl 0 d_Law_law_1030 rfl rfl ?_
        refine x_iload C0 hl 4 d_Law_law_1031 rfl ?_
        refine lv_iconst (v := 2) C0.1 C0.2.1 d_Law_law_1033 (by decide) ?_
        refine lv_iadd C0.1 C0.2.1 d_Law_law_1034 ?_
        refine x_sld C0 hX hbl hbA hS d_Law_law_1035 h (fun v_148 h => ?_)
        refine x_aload_n C0 hl 0 d_Law_law_1036 rfl rfl ?_
        refine x_iload C0 hl 4 d_Law_law_1037 rfl ?_
        refine lv_iconst (v := 3) C0.1 C0.2.1 d_Law_law_1039 (by decide) ?_
        refine lv_iadd C0.1 C0.2.1 d_Law_law_1040 ?_
        refine x_sld C0 hX hbl hbA hS d_Law_law_1041 h (fun v_149 h => ?_)
        refine x_aload_n C0 hl 3 d_Law_law_1042 rfl rfl ?_
        obtain ⟨q_150, e9, h⟩ := Option.bind_eq_some_iff.mp h
        have e9 := (show f_Law_number w (Array.size H) r1 v_147 v_148 v_149 r3 = some q_150 by rw [hz]; exact e9)
        refine x_call hS (vx_runSW (As := [va_rf r1, .int v_147, .int v_148, .int v_149, va_rf r3]) (rest := []) C0 (c_Law_number l G w _ r1 v_147 v_148 v_149 r3 q_150 e9 hlt) (vx_cwSW 5 C0.2.2.2.2 (x_goodW kw_3_42 kw_3_40 kw_3_41 kw_1_0) rfl rfl rfl (by decide +kernel) (x_rm hR1 hR2 (Nat.le_of_ble_eq_true rfl) (Nat.le_of_ble_eq_true rfl))) (x_preS hE hH hS) rfl rfl hl.1 rfl (lv_room (by first | exact Nat.le_of_ble_eq_true rfl | simp only [List.map_cons, List.map_nil, List.sum_cons, List.sum_nil, va_rf_cat, x_catI, x_catL, x_catA] <;> decide)) d_Law_law_1043 ⟨Nat.le_trans (by omega) hR3, Nat.le_trans (by omega) hR4⟩) (fun H locs hH hS hz => ?_)
        refine W.widen (k := cells + (2 - (n + 1)) * 11 + 1) (n := slots + (2 - (n + 1)) * 152 + 6) (by omega) (by omega) ?_
        refine x_istore (lv' := [(5, .inl q_150.1), (0, .inr (.inl (some b))), (1, .inr (.inl r1)), (2, .inr (.inl r2)), (3, .inr (.inl r3)), (4, .inl x4)]) C0 hl d_Law_law_1046 (by decide) rfl (fun ls hl => ?_)
        refine x_aload_n C0 hl 3 d_Law_law_1048 rfl rfl ?_
        refine x_aload_n C0 hl 1 d_Law_law_1049 rfl rfl ?_
        refine x_iload C0 hl 5 d_Law_law_1050 rfl ?_
        refine lv_iconst (v := 1) C0.1 C0.2.1 d_Law_law_1052 (by decide) ?_
        refine lv_iadd C0.1 C0.2.1 d_Law_law_1053 ?_
        refine x_sld C0 hX hbl hbA hS d_Law_law_1054 h (fun v_151 h => ?_)
        refine x_aload_n C0 hl 1 d_Law_law_1055 rfl rfl ?_
        refine x_iload C0 hl 5 d_Law_law_1056 rfl ?_
        refine lv_iconst (v := 2) C0.1 C0.2.1 d_Law_law_1058 (by decide) ?_
        refine lv_iadd C0.1 C0.2.1 d_Law_law_1059 ?_
        refine x_sld C0 hX hbl hbA hS d_Law_law_1060 h (fun v_152 h => ?_)
        refine x_aload_n C0 hl 1 d_Law_law_1061 rfl rfl ?_
        refine x_iload C0 hl 5 d_Law_law_1062 rfl ?_
        refine lv_iconst (v := 3) C0.1 C0.2.1 d_Law_law_1064 (by decide) ?_
        refine lv_iadd C0.1 C0.2.1 d_Law_law_1065 ?_
        refine x_sld C0 hX hbl hbA hS d_Law_law_1066 h (fun v_153 h => ?_)
        obtain ⟨b_155, e9, h⟩ := Option.bind_eq_some_iff.mp h
        obtain ⟨e8, fs9, hb9⟩ := xo_inv e9
        obtain ⟨q_154, e9, h⟩ := Option.bind_eq_some_iff.mp h
        refine x_call0 hS (va_runV (As := [.int v_151, .int v_152, .int v_153]) (rest := []) C0 (c_Mod_number l G q_150.2.1 _ b_155 v_151 v_152 v_153 q_154 e9) (x_cwV 3 C0 kw_5_31 kw_5_34 kw_1_3 kw_5_32 kw_5_33 (by decide +kernel) (x_rm hR1 hR2 (Nat.le_of_ble_eq_true rfl) (Nat.le_of_ble_eq_true rfl))) (x_preV hE hH hS (ci := 5) rfl hb9) rfl rfl hl.1 (by rw [e8]; rfl) (lv_room (by first | exact Nat.le_of_ble_eq_true rfl | simp only [List.map_cons, List.map_nil, List.sum_cons, List.sum_nil, va_rf_cat, x_catI, x_catL, x_catA] <;> decide)) d_Law_law_1067 (x_le0 (Nat.le_trans (by omega) hR3) (Nat.le_trans (by omega) hR4))) (fun H locs hH hS hz9 => ?_)
        have hz := hz9.trans hz
        refine x_istore (lv' := [(6, .inl q_154.1), (5, .inl q_150.1), (0, .inr (.inl (some b))), (1, .inr (.inl r1)), (2, .inr (.inl r2)), (3, .inr (.inl r3)), (4, .inl x4)]) C0 hl d_Law_law_1070 (by decide) rfl (fun ls hl => ?_)
        refine x_aload_n C0 hl 4 d_Law_law_1072 rfl rfl ?_
        obtain ⟨b_157, e9, h⟩ := Option.bind_eq_some_iff.mp h
        obtain ⟨e8, fs9, hb9⟩ := xo_inv e9
        obtain ⟨q_156, e9, h⟩ := Option.bind_eq_some_iff.mp h
        refine x_callP (va_runV (As := []) (rest := []) C0 (c_Mod_thrown l G q_154.2 _ b_157 q_156 e9) (x_cwV 0 C0 kw_4_147 kw_4_150 kw_1_3 kw_4_148 kw_4_149 (by decide +kernel) (x_rm hR1 hR2 (Nat.le_of_ble_eq_true rfl) (Nat.le_of_ble_eq_true rfl))) (x_preV hE hH hS (ci := 5) rfl hb9) rfl rfl hl.1 (by rw [e8]; rfl) (lv_room (by first | exact Nat.le_of_ble_eq_true rfl | simp only [List.map_cons, List.map_nil, List.sum_cons, List.sum_nil, va_rf_cat, x_catI, x_catL, x_catA] <;> decide)) d_Law_law_1073 (x_le0 (Nat.le_trans (by omega) hR3) (Nat.le_trans (by omega) hR4))) ?_
        refine x_iload C0 hl 1 d_Law_law_1076 rfl ?_
        refine x_icmp_eq C0 1083 d_Law_law_1078 (by decide) h (fun h => ?_) (fun h => ?_)
        · refine x_iload C0 hl 1 d_Law_law_1083 rfl ?_
          refine x_if_ne C0 1100 d_Law_law_1085 (by decide) h (fun h => ?_) (fun h => ?_)
          · refine x_goto C0 1296 d_Law_law_1100 (by decide) ?_
            refine x_iinc (v := 5) (lv' := [(4, .inl (x4 + 5)), (6, .inl q_154.1), (5, .inl q_150.1), (0, .inr (.inl (some b))), (1, .inr (.inl r1)), (2, .inr (.inl r2)), (3, .inr (.inl r3))]) C0 hl 6 d_Law_law_1296 rfl (by decide) (by decide) rfl (fun ls hl => ?_)
            refine x_goto C0 23 d_Law_law_1299 (by decide) ?_
            refine W.widen (k := cells + (2 - n) * 11) (n := slots + (2 - n) * 152) (by omega) (by omega) ?_
            exact ih _ _ _ _ _ (by omega) q ls hH hS hz (x_sub hl [3, 4, 5, 6, 0] rfl) h K
          · refine x_aload_n C0 hl 5 d_Law_law_1088 rfl rfl ?_
            refine lv_iconst (v := 0) C0.1 C0.2.1 d_Law_law_1089 (by decide) ?_
            refine x_lald C0 hE hH (t := 5) rfl d_Law_law_1090 h (fun v_158 h => ?_)
            refine x_iload C0 hl 0 d_Law_law_1091 rfl ?_
            refine lv_i2l C0.1 C0.2.1 d_Law_law_1093 rfl ?_
            refine W.lcmp C0.1 C0.2.1 d_Law_law_1094 ?_
            refine x_if_eq C0 1100 d_Law_law_1095 (by decide) h (fun h => ?_) (fun h => ?_)
            · refine x_goto C0 1296 d_Law_law_1100 (by decide) ?_
              refine x_iinc (v := 5) (lv' := [(4, .inl (x4 + 5)), (6, .inl q_154.1), (5, .inl q_150.1), (0, .inr (.inl (some b))), (1, .inr (.inl r1)), (2, .inr (.inl r2)), (3, .inr (.inl r3))]) C0 hl 6 d_Law_law_1296 rfl (by decide) (by decide) rfl (fun ls hl => ?_)
              refine x_goto C0 23 d_Law_law_1299 (by decide) ?_
              refine W.widen (k := cells + (2 - n) * 11) (n := slots + (2 - n) * 152) (by omega) (by omega) ?_
              exact ih _ _ _ _ _ (by omega) q ls hH hS hz (x_sub hl [3, 4, 5, 6, 0] rfl) h K
            · cases h
              refine W.widen (k := cells + 2 * 11) (n := slots + 2 * 152) (by omega) (by omega) ?_
              exact K.2.2.2.2.2.2.2.2.2.2.2.2.2.2.2.2.2.2.2.2.2.2.2.2.2.2.1 rfl _ _ ls hH hS hz (x_sub hl [2, 3, 4, 5, 6] rfl)
        · cases h
          refine W.widen (k := cells + 2 * 11) (n := slots + 2 * 152) (by omega) (by omega) ?_
          exact K.2.2.2.2.2.2.2.2.2.2.2.2.2.2.2.2.2.2.2.2.2.2.2.2.2.1 rfl _ _ ls hH hS hz (x_sub hl [2, 3, 4, 5, 6] rfl)
      rw [if_neg z] at h
      have z12 := lv_neT z (a := 12) (by decide)
      by_cases z : (v_8 &&& (31 : Int32)) = 13
      · rw [if_pos z] at h
        refine lv_tableIn (tgt := 1103) C0.1 C0.2.1 d_Law_law_39 (by rw [z]; decide) (by rw [z]; decide) (by rw [z]; rfl) (by decide) ?_
        refine x_aload_n C0 hl 1 d_Law_law_1103 rfl rfl ?_
        refine x_aload_n C0 hl 0 d_Law_law_1104 rfl rfl ?_
        refine x_iload C0 hl 4 d_Law_law_1105 rfl ?_
        refine lv_iconst (v := 1) C0.1 C0.2.1 d_Law_law_1107 (by decide) ?_
        refine lv_iadd C0.1 C0.2.1 d_Law_law_1108 ?_
        refine x_sld C0 hX hbl hbA hS d_Law_law_1109 h (fun v_159 h => ?_)
        refine x_aload_n C0 hl 3 d_Law_law_1110 rfl rfl ?_
        obtain ⟨q_160, e9, h⟩ := Option.bind_eq_some_iff.mp h
        have e9 := (show f_Law_want w (Array.size H) r1 v_159 r3 = some q_160 by rw [hz]; exact e9)
        refine x_call hS (vx_runSW (As := [va_rf r1, .int v_159, va_rf r3]) (rest := []) C0 (c_Law_want l G w _ r1 v_159 r3 q_160 e9 hlt) (vx_cwSW 3 C0.2.2.2.2 (x_goodW kw_4_5 kw_4_3 kw_4_4 kw_1_0) rfl rfl rfl (by decide +kernel) (x_rm hR1 hR2 (Nat.le_of_ble_eq_true rfl) (Nat.le_of_ble_eq_true rfl))) (x_preS hE hH hS) rfl rfl hl.1 rfl (lv_room (by first | exact Nat.le_of_ble_eq_true rfl | simp only [List.map_cons, List.map_nil, List.sum_cons, List.sum_nil, va_rf_cat, x_catI, x_catL, x_catA] <;> decide)) d_Law_law_1111 ⟨Nat.le_trans (by omega) hR3, Nat.le_trans (by omega) hR4⟩) (fun H locs hH hS hz => ?_)
        refine W.widen (k := cells + (2 - (n + 1)) * 11 + 1) (n := slots + (2 - (n + 1)) * 152 + 6) (by omega) (by omega) ?_
        refine x_istore (lv' := [(5, .inl q_160.1), (0, .inr (.inl (some b))), (1, .inr (.inl r1)), (2, .inr (.inl r2)), (3, .inr (.inl r3)), (4, .inl x4)]) C0 hl d_Law_law_1114 (by decide) rfl (fun ls hl => ?_)
        refine x_aload_n C0 hl 3 d_Law_law_1116 rfl rfl ?_
        refine x_aload_n C0 hl 1 d_Law_law_1117 rfl rfl ?_
        refine x_iload C0 hl 5 d_Law_law_1118 rfl ?_
        refine lv_iconst (v := 1) C0.1 C0.2.1 d_Law_law_1120 (by decide) ?_
        refine lv_iadd C0.1 C0.2.1 d_Law_law_1121 ?_
        refine x_sld C0 hX hbl hbA hS d_Law_law_1122 h (fun v_161 h => ?_)
        obtain ⟨b_163, e9, h⟩ := Option.bind_eq_some_iff.mp h
        obtain ⟨e8, fs9, hb9⟩ := xo_inv e9
        obtain ⟨q_162, e9, h⟩ := Option.bind_eq_some_iff.mp h
        refine x_call0 hS (va_runV (As := [.int v_161]) (rest := []) C0 (c_Mod_want l G q_160.2.1 _ b_163 v_161 q_162 e9) (x_cwV 1 C0 kw_5_39 kw_5_42 kw_1_3 kw_5_40 kw_5_41 (by decide +kernel) (x_rm hR1 hR2 (Nat.le_of_ble_eq_true rfl) (Nat.le_of_ble_eq_true rfl))) (x_preV hE hH hS (ci := 5) rfl hb9) rfl rfl hl.1 (by rw [e8]; rfl) (lv_room (by first | exact Nat.le_of_ble_eq_true rfl | simp only [List.map_cons, List.map_nil, List.sum_cons, List.sum_nil, va_rf_cat, x_catI, x_catL, x_catA] <;> decide)) d_Law_law_1123 (x_le0 (Nat.le_trans (by omega) hR3) (Nat.le_trans (by omega) hR4))) (fun H locs hH hS hz9 => ?_)
        have hz := hz9.trans hz
        refine x_istore (lv' := [(6, .inl q_162.1), (5, .inl q_160.1), (0, .inr (.inl (some b))), (1, .inr (.inl r1)), (2, .inr (.inl r2)), (3, .inr (.inl r3)), (4, .inl x4)]) C0 hl d_Law_law_1126 (by decide) rfl (fun ls hl => ?_)
        refine x_aload_n C0 hl 4 d_Law_law_1128 rfl rfl ?_
        obtain ⟨b_165, e9, h⟩ := Option.bind_eq_some_iff.mp h
        obtain ⟨e8, fs9, hb9⟩ := xo_inv e9
        obtain ⟨q_164, e9, h⟩ := Option.bind_eq_some_iff.mp h
        refine x_callP (va_runV (As := []) (rest := []) C0 (c_Mod_thrown l G q_162.2 _ b_165 q_164 e9) (x_cwV 0 C0 kw_4_147 kw_4_150 kw_1_3 kw_4_148 kw_4_149 (by decide +kernel) (x_rm hR1 hR2 (Nat.le_of_ble_eq_true rfl) (Nat.le_of_ble_eq_true rfl))) (x_preV hE hH hS (ci := 5) rfl hb9) rfl rfl hl.1 (by rw [e8]; rfl) (lv_room (by first | exact Nat.le_of_ble_eq_true rfl | simp only [List.map_cons, List.map_nil, List.sum_cons, List.sum_nil, va_rf_cat, x_catI, x_catL, x_catA] <;> decide)) d_Law_law_1129 (x_le0 (Nat.le_trans (by omega) hR3) (Nat.le_trans (by omega) hR4))) ?_
        refine x_iload C0 hl 1 d_Law_law_1132 rfl ?_
        refine x_icmp_eq C0 1139 d_Law_law_1134 (by decide) h (fun h => ?_) (fun h => ?_)
        · refine x_iload C0 hl 1 d_Law_law_1139 rfl ?_
          refine x_if_ne C0 1156 d_Law_law_1141 (by decide) h (fun h => ?_) (fun h => ?_)
          · refine x_goto C0 1296 d_Law_law_1156 (by decide) ?_
            refine x_iinc (v := 5) (lv' := [(4, .inl (x4 + 5)), (6, .inl q_162.1), (5, .inl q_160.1), (0, .inr (.inl (some b))), (1, .inr (.inl r1)), (2, .inr (.inl r2)), (3, .inr (.inl r3))]) C0 hl 6 d_Law_law_1296 rfl (by decide) (by decide) rfl (fun ls hl => ?_)
            refine x_goto C0 23 d_Law_law_1299 (by decide) ?_
            refine W.widen (k := cells + (2 - n) * 11) (n := slots + (2 - n) * 152) (by omega) (by omega) ?_
            exact ih _ _ _ _ _ (by omega) q ls hH hS hz (x_sub hl [3, 4, 5, 6, 0] rfl) h K
          · refine x_aload_n C0 hl 5 d_Law_law_1144 rfl rfl ?_
            refine lv_iconst (v := 0) C0.1 C0.2.1 d_Law_law_1145 (by decide) ?_
            refine x_lald C0 hE hH (t := 5) rfl d_Law_law_1146 h (fun v_166 h => ?_)
            refine x_iload C0 hl 0 d_Law_law_1147 rfl ?_
            refine lv_i2l C0.1 C0.2.1 d_Law_law_1149 rfl ?_
            refine W.lcmp C0.1 C0.2.1 d_Law_law_1150 ?_
            refine x_if_eq C0 1156 d_Law_law_1151 (by decide) h (fun h => ?_) (fun h => ?_)
            · refine x_goto C0 1296 d_Law_law_1156 (by decide) ?_
              refine x_iinc (v := 5) (lv' := [(4, .inl (x4 + 5)), (6, .inl q_162.1), (5, .inl q_160.1), (0, .inr (.inl (some b))), (1, .inr (.inl r1)), (2, .inr (.inl r2)), (3, .inr (.inl r3))]) C0 hl 6 d_Law_law_1296 rfl (by decide) (by decide) rfl (fun ls hl => ?_)
              refine x_goto C0 23 d_Law_law_1299 (by decide) ?_
              refine W.widen (k := cells + (2 - n) * 11) (n := slots + (2 - n) * 152) (by omega) (by omega) ?_
              exact ih _ _ _ _ _ (by omega) q ls hH hS hz (x_sub hl [3, 4, 5, 6, 0] rfl) h K
            · cases h
              refine W.widen (k := cells + 2 * 11) (n := slots + 2 * 152) (by omega) (by omega) ?_
              exact K.2.2.2.2.2.2.2.2.2.2.2.2.2.2.2.2.2.2.2.2.2.2.2.2.2.2.2.2.1 rfl _ _ ls hH hS hz (x_sub hl [2, 3, 4, 5, 6] rfl)
        · cases h
          refine W.widen (k := cells + 2 * 11) (n := slots + 2 * 152) (by omega) (by omega) ?_
          exact K.2.2.2.2.2.2.2.2.2.2.2.2.2.2.2.2.2.2.2.2.2.2.2.2.2.2.2.1 rfl _ _ ls hH hS hz (x_sub hl [2, 3, 4, 5, 6] rfl)
      rw [if_neg z] at h
      have z13 := lv_neT z (a := 13) (by decide)
      by_cases z : (v_8 &&& (31 : Int32)) = 14
      · rw [if_pos z] at h
        refine lv_tableIn (tgt := 1159) C0.1 C0.2.1 d_Law_law_39 (by rw [z]; decide) (by rw [z]; decide) (by rw [z]; rfl) (by decide) ?_
        refine x_aload_n C0 hl 1 d_Law_law_1159 rfl rfl ?_
        obtain ⟨b_168, e9, h⟩ := Option.bind_eq_some_iff.mp h
        obtain ⟨e8, fs9, hb9⟩ := xo_inv e9
        obtain ⟨q_167, e9, h⟩ := Option.bind_eq_some_iff.mp h
        refine x_call0 hS (va_runV (As := []) (rest := []) C0 (c_LM_clear l G w _ b_168 q_167 e9) (x_cwV 0 C0 kw_1_94 kw_1_97 kw_1_1 kw_1_95 kw_1_96 (by decide +kernel) (x_rm hR1 hR2 (Nat.le_of_ble_eq_true rfl) (Nat.le_of_ble_eq_true rfl))) (x_preV hE hH hS (ci := 0) rfl hb9) rfl rfl hl.1 (by rw [e8]; rfl) (lv_room (by first | exact Nat.le_of_ble_eq_true rfl | simp only [List.map_cons, List.map_nil, List.sum_cons, List.sum_nil, va_rf_cat, x_catI, x_catL, x_catA] <;> decide)) d_Law_law_1160 (x_le0 (Nat.le_trans (by omega) hR3) (Nat.le_trans (by omega) hR4))) (fun H locs hH hS hz9 => ?_)
        have hz := hz9.trans hz
        refine x_aload_n C0 hl 2 d_Law_law_1163 rfl rfl ?_
        obtain ⟨b_170, e9, h⟩ := Option.bind_eq_some_iff.mp h
        obtain ⟨e8, fs9, hb9⟩ := xo_inv e9
        obtain ⟨q_169, e9, h⟩ := Option.bind_eq_some_iff.mp h
        refine x_call0 hS (va_runV (As := []) (rest := [.int q_167.1]) C0 (c_Mod_clear l G q_167.2 _ b_170 q_169 e9) (x_cwV 0 C0 kw_5_43 kw_5_46 kw_1_3 kw_5_44 kw_5_45 (by decide +kernel) (x_rm hR1 hR2 (Nat.le_of_ble_eq_true rfl) (Nat.le_of_ble_eq_true rfl))) (x_preV hE hH hS (ci := 5) rfl hb9) rfl rfl hl.1 (by rw [e8]; rfl) (lv_room (by first | exact Nat.le_of_ble_eq_true rfl | simp only [List.map_cons, List.map_nil, List.sum_cons, List.sum_nil, va_rf_cat, x_catI, x_catL, x_catA] <;> decide)) d_Law_law_1164 (x_le0 (Nat.le_trans (by omega) hR3) (Nat.le_trans (by omega) hR4))) (fun H locs hH hS hz9 => ?_)
        have hz := hz9.trans hz
        refine x_icmp_eq C0 1296 d_Law_law_1167 (by decide) h (fun h => ?_) (fun h => ?_)
        · refine x_iinc (v := 5) (lv' := [(4, .inl (x4 + 5)), (0, .inr (.inl (some b))), (1, .inr (.inl r1)), (2, .inr (.inl r2)), (3, .inr (.inl r3))]) C0 hl 4 d_Law_law_1296 rfl (by decide) (by decide) rfl (fun ls hl => ?_)
          refine x_goto C0 23 d_Law_law_1299 (by decide) ?_
          refine W.widen (k := cells + (2 - n) * 11) (n := slots + (2 - n) * 152) (by omega) (by omega) ?_
          exact ih _ _ _ _ _ (by omega) q ls hH hS hz (x_sub hl [1, 2, 3, 4, 0] rfl) h K
        · cases h
          refine W.widen (k := cells + 2 * 11) (n := slots + 2 * 152) (by omega) (by omega) ?_
          exact K.2.2.2.2.2.2.2.2.2.2.2.2.2.2.2.2.2.2.2.2.2.2.2.2.2.2.2.2.2.1 rfl _ _ ls hH hS hz (x_sub hl [0, 1, 2, 3, 4] rfl)
      rw [if_neg z] at h
      have z14 := lv_neT z (a := 14) (by decide)
      by_cases z : (v_8 &&& (31 : Int32)) = 15
      · rw [if_pos z] at h
        refine lv_tableIn (tgt := 1172) C0.1 C0.2.1 d_Law_law_39 (by rw [z]; decide) (by rw [z]; decide) (by rw [z]; rfl) (by decide) ?_
        refine x_aload_n C0 hl 1 d_Law_law_1172 rfl rfl ?_
        refine x_aload_n C0 hl 0 d_Law_law_1173 rfl rfl ?_
        refine x_iload C0 hl 4 d_Law_law_1174 rfl ?_
        refine lv_iconst (v := 1) C0.1 C0.2.1 d_Law_law_1176 (by decide) ?_
        refine lv_iadd C0.1 C0.2.1 d_Law_law_1177 ?_
        refine x_sld C0 hX hbl hbA hS d_Law_law_1178 h (fun v_171 h => ?_)
        refine x_aload_n C0 hl 3 d_Law_law_1179 rfl rfl ?_
        obtain ⟨q_172, e9, h⟩ := Option.bind_eq_some_iff.mp h
        have e9 := (show f_Law_faces 0 0 1 w (Array.size H) r1 v_171 r3 = some q_172 by rw [hz]; exact e9)
        refine x_call hS (vx_runSW (As := [va_rf r1, .int v_171, va_rf r3]) (rest := []) C0 (c_Law_faces l G 0 0 1 w _ r1 v_171 r3 q_172 e9 hlt) (vx_cwSW 3 C0.2.2.2.2 (x_goodW kw_4_18 kw_4_16 kw_4_17 kw_1_0) rfl rfl rfl (by decide +kernel) (x_rm hR1 hR2 (Nat.le_of_ble_eq_true rfl) (Nat.le_of_ble_eq_true rfl))) (x_preS hE hH hS) rfl rfl hl.1 rfl (lv_room (by first | exact Nat.le_of_ble_eq_true rfl | simp only [List.map_cons, List.map_nil, List.sum_cons, List.sum_nil, va_rf_cat, x_catI, x_catL, x_catA] <;> decide)) d_Law_law_1180 ⟨Nat.le_trans (by omega) hR3, Nat.le_trans (by omega) hR4⟩) (fun H locs hH hS hz => ?_)
        refine W.widen (k := cells + (2 - (n + 1)) * 11 + 3) (n := slots + (2 - (n + 1)) * 152 + 6 + 0 + 0 + 1) (by omega) (by omega) ?_
        refine x_istore (lv' := [(5, .inl q_172.1), (0, .inr (.inl (some b))), (1, .inr (.inl r1)), (2, .inr (.inl r2)), (3, .inr (.inl r3)), (4, .inl x4)]) C0 hl d_Law_law_1183 (by decide) rfl (fun ls hl => ?_)
        refine x_aload_n C0 hl 3 d_Law_law_1185 rfl rfl ?_
        refine x_aload_n C0 hl 1 d_Law_law_1186 rfl rfl ?_
        refine x_iload C0 hl 5 d_Law_law_1187 rfl ?_
        refine lv_iconst (v := 1) C0.1 C0.2.1 d_Law_law_1189 (by decide) ?_
        refine lv_iadd C0.1 C0.2.1 d_Law_law_1190 ?_
        refine x_sld C0 hX hbl hbA hS d_Law_law_1191 h (fun v_173 h => ?_)
        obtain ⟨b_175, e9, h⟩ := Option.bind_eq_some_iff.mp h
        obtain ⟨e8, fs9, hb9⟩ := xo_inv e9
        obtain ⟨q_174, e9, h⟩ := Option.bind_eq_some_iff.mp h
        refine x_call0 hS (va_runV (As := [.int v_173]) (rest := []) C0 (c_Mod_faces l G q_172.2.1 _ b_175 v_173 q_174 e9) (x_cwV 1 C0 kw_5_47 kw_5_50 kw_1_3 kw_5_48 kw_5_49 (by decide +kernel) (x_rm hR1 hR2 (Nat.le_of_ble_eq_true rfl) (Nat.le_of_ble_eq_true rfl))) (x_preV hE hH hS (ci := 5) rfl hb9) rfl rfl hl.1 (by rw [e8]; rfl) (lv_room (by first | exact Nat.le_of_ble_eq_true rfl | simp only [List.map_cons, List.map_nil, List.sum_cons, List.sum_nil, va_rf_cat, x_catI, x_catL, x_catA] <;> decide)) d_Law_law_1192 (x_le0 (Nat.le_trans (by omega) hR3) (Nat.le_trans (by omega) hR4))) (fun H locs hH hS hz9 => ?_)
        have hz := hz9.trans hz
        refine x_istore (lv' := [(6, .inl q_174.1), (5, .inl q_172.1), (0, .inr (.inl (some b))), (1, .inr (.inl r1)), (2, .inr (.inl r2)), (3, .inr (.inl r3)), (4, .inl x4)]) C0 hl d_Law_law_1195 (by decide) rfl (fun ls hl => ?_)
        refine x_aload_n C0 hl 4 d_Law_law_1197 rfl rfl ?_
        obtain ⟨b_177, e9, h⟩ := Option.bind_eq_some_iff.mp h
        obtain ⟨e8, fs9, hb9⟩ := xo_inv e9
        obtain ⟨q_176, e9, h⟩ := Option.bind_eq_some_iff.mp h
        refine x_callP (va_runV (As := []) (rest := []) C0 (c_Mod_thrown l G q_174.2 _ b_177 q_176 e9) (x_cwV 0 C0 kw_4_147 kw_4_150 kw_1_3 kw_4_148 kw_4_149 (by decide +kernel) (x_rm hR1 hR2 (Nat.le_of_ble_eq_true rfl) (Nat.le_of_ble_eq_true rfl))) (x_preV hE hH hS (ci := 5) rfl hb9) rfl rfl hl.1 (by rw [e8]; rfl) (lv_room (by first | exact Nat.le_of_ble_eq_true rfl | simp only [List.map_cons, List.map_nil, List.sum_cons, List.sum_nil, va_rf_cat, x_catI, x_catL, x_catA] <;> decide)) d_Law_law_1198 (x_le0 (Nat.le_trans (by omega) hR3) (Nat.le_trans (by omega) hR4))) ?_
        refine x_iload C0 hl 1 d_Law_law_1201 rfl ?_
        refine x_icmp_eq C0 1208 d_Law_law_1203 (by decide) h (fun h => ?_) (fun h => ?_)
        · refine x_iload C0 hl 1 d_Law_law_1208 rfl ?_
          refine x_if_ne C0 1225 d_Law_law_1210 (by decide) h (fun h => ?_) (fun h => ?_)
          · refine x_goto C0 1296 d_Law_law_1225 (by decide) ?_
            refine x_iinc (v := 5) (lv' := [(4, .inl (x4 + 5)), (6, .inl q_174.1), (5, .inl q_172.1), (0, .inr (.inl (some b))), (1, .inr (.inl r1)), (2, .inr (.inl r2)), (3, .inr (.inl r3))]) C0 hl 6 d_Law_law_1296 rfl (by decide) (by decide) rfl (fun ls hl => ?_)
            refine x_goto C0 23 d_Law_law_1299 (by decide) ?_
            refine W.widen (k := cells + (2 - n) * 11) (n := slots + (2 - n) * 152) (by omega) (by omega) ?_
            exact ih _ _ _ _ _ (by omega) q ls hH hS hz (x_sub hl [3, 4, 5, 6, 0] rfl) h K
          · refine x_aload_n C0 hl 5 d_Law_law_1213 rfl rfl ?_
            refine lv_iconst (v := 0) C0.1 C0.2.1 d_Law_law_1214 (by decide) ?_
            refine x_lald C0 hE hH (t := 5) rfl d_Law_law_1215 h (fun v_178 h => ?_)
            refine x_iload C0 hl 0 d_Law_law_1216 rfl ?_
            refine lv_i2l C0.1 C0.2.1 d_Law_law_1218 rfl ?_
            refine W.lcmp C0.1 C0.2.1 d_Law_law_1219 ?_
            refine x_if_eq C0 1225 d_Law_law_1220 (by decide) h (fun h => ?_) (fun h => ?_)
            · refine x_goto C0 1296 d_Law_law_1225 (by decide) ?_
              refine x_iinc (v := 5) (lv' := [(4, .inl (x4 + 5)), (6, .inl q_174.1), (5, .inl q_172.1), (0, .inr (.inl (some b))), (1, .inr (.inl r1)), (2, .inr (.inl r2)), (3, .inr (.inl r3))]) C0 hl 6 d_Law_law_1296 rfl (by decide) (by decide) rfl (fun ls hl => ?_)
              refine x_goto C0 23 d_Law_law_1299 (by decide) ?_
              refine W.widen (k := cells + (2 - n) * 11) (n := slots + (2 - n) * 152) (by omega) (by omega) ?_
              exact ih _ _ _ _ _ (by omega) q ls hH hS hz (x_sub hl [3, 4, 5, 6, 0] rfl) h K
            · cases h
              refine W.widen (k := cells + 2 * 11) (n := slots + 2 * 152) (by omega) (by omega) ?_
              exact K.2.2.2.2.2.2.2.2.2.2.2.2.2.2.2.2.2.2.2.2.2.2.2.2.2.2.2.2.2.2.2.1 rfl _ _ ls hH hS hz (x_sub hl [2, 3, 4, 5, 6] rfl)
        · cases h
          refine W.widen (k := cells + 2 * 11) (n := slots + 2 * 152) (by omega) (by omega) ?_
          exact K.2.2.2.2.2.2.2.2.2.2.2.2.2.2.2.2.2.2.2.2.2.2.2.2.2.2.2.2.2.2.1 rfl _ _ ls hH hS hz (x_sub hl [2, 3, 4, 5, 6] rfl)
      rw [if_neg z] at h
      have z15 := lv_neT z (a := 15) (by decide)
      by_cases z : (v_8 &&& (31 : Int32)) = 16
      · rw [if_pos z] at h
        refine lv_tableIn (tgt := 1228) C0.1 C0.2.1 d_Law_law_39 (by rw [z]; decide) (by rw [z]; decide) (by rw [z]; rfl) (by decide) ?_
        refine x_aload_n C0 hl 1 d_Law_law_1228 rfl rfl ?_
        refine x_aload_n C0 hl 0 d_Law_law_1229 rfl rfl ?_
        refine x_iload C0 hl 4 d_Law_law_1230 rfl ?_
        refine lv_iconst (v := 1) C0.1 C0.2.1 d_Law_law_1232 (by decide) ?_
        refine lv_iadd C0.1 C0.2.1 d_Law_law_1233 ?_
        refine x_sld C0 hX hbl hbA hS d_Law_law_1234 h (fun v_179 h => ?_)
        refine x_aload_n C0 hl 0 d_Law_law_1235 rfl rfl ?_
        refine x_iload C0 hl 4 d_Law_law_1236 rfl ?_
        refine lv_iconst (v := 2) C0.1 C0.2.1 d_Law_law_1238 (by decide) ?_
        refine lv_iadd C0.1 C0.2.1 d_Law_law_1239 ?_
        refine x_sld C0 hX hbl hbA hS d_Law_law_1240 h (fun v_180 h => ?_)
        refine x_aload_n C0 hl 3 d_Law_law_1241 rfl rfl ?_
        obtain ⟨q_181, e9, h⟩ := Option.bind_eq_some_iff.mp h
        have e9 := (show f_Law_planned w (Array.size H) r1 v_179 v_180 r3 = some q_181 by rw [hz]; exact e9)
        refine x_call hS (vx_runSW (As := [va_rf r1, .int v_179, .int v_180, va_rf r3]) (rest := []) C0 (c_Law_planned l G w _ r1 v_179 v_180 r3 q_181 e9 hlt) (vx_cwSW 4 C0.2.2.2.2 (x_goodW kw_4_65 kw_4_63 kw_4_64 kw_1_0) rfl rfl rfl (by decide +kernel) (x_rm hR1 hR2 (Nat.le_of_ble_eq_true rfl) (Nat.le_of_ble_eq_true rfl))) (x_preS hE hH hS) rfl rfl hl.1 rfl (lv_room (by first | exact Nat.le_of_ble_eq_true rfl | simp only [List.map_cons, List.map_nil, List.sum_cons, List.sum_nil, va_rf_cat, x_catI, x_catL, x_catA] <;> decide)) d_Law_law_1242 ⟨Nat.le_trans (by omega) hR3, Nat.le_trans (by omega) hR4⟩) (fun H locs hH hS hz => ?_)
        refine W.widen (k := cells + (2 - (n + 1)) * 11 + 1) (n := slots + (2 - (n + 1)) * 152 + 6) (by omega) (by omega) ?_
        refine x_istore (lv' := [(5, .inl q_181.1), (0, .inr (.inl (some b))), (1, .inr (.inl r1)), (2, .inr (.inl r2)), (3, .inr (.inl r3)), (4, .inl x4)]) C0 hl d_Law_law_1245 (by decide) rfl (fun ls hl => ?_)
        refine x_aload_n C0 hl 3 d_Law_law_1247 rfl rfl ?_
        refine x_aload_n C0 hl 1 d_Law_law_1248 rfl rfl ?_
        refine x_iload C0 hl 5 d_Law_law_1249 rfl ?_
        refine lv_iconst (v := 1) C0.1 C0.2.1 d_Law_law_1251 (by decide) ?_
        refine lv_iadd C0.1 C0.2.1 d_Law_law_1252 ?_
        refine x_sld C0 hX hbl hbA hS d_Law_law_1253 h (fun v_182 h => ?_)
        refine x_aload_n C0 hl 1 d_Law_law_1254 rfl rfl ?_
        refine x_iload C0 hl 5 d_Law_law_1255 rfl ?_
        refine lv_iconst (v := 2) C0.1 C0.2.1 d_Law_law_1257 (by decide) ?_
        refine lv_iadd C0.1 C0.2.1 d_Law_law_1258 ?_
        refine x_sld C0 hX hbl hbA hS d_Law_law_1259 h (fun v_183 h => ?_)
        obtain ⟨b_185, e9, h⟩ := Option.bind_eq_some_iff.mp h
        obtain ⟨e8, fs9, hb9⟩ := xo_inv e9
        obtain ⟨q_184, e9, h⟩ := Option.bind_eq_some_iff.mp h
        refine x_call0 hS (va_runV (As := [.int v_182, .int v_183]) (rest := []) C0 (c_Mod_planned l G q_181.2.1 _ b_185 v_182 v_183 q_184 e9) (x_cwV 2 C0 kw_5_68 kw_5_71 kw_1_3 kw_5_69 kw_5_70 (by decide +kernel) (x_rm hR1 hR2 (Nat.le_of_ble_eq_true rfl) (Nat.le_of_ble_eq_true rfl))) (x_preV hE hH hS (ci := 5) rfl hb9) rfl rfl hl.1 (by rw [e8]; rfl) (lv_room (by first | exact Nat.le_of_ble_eq_true rfl | simp only [List.map_cons, List.map_nil, List.sum_cons, List.sum_nil, va_rf_cat, x_catI, x_catL, x_catA] <;> decide)) d_Law_law_1260 (x_le0 (Nat.le_trans (by omega) hR3) (Nat.le_trans (by omega) hR4))) (fun H locs hH hS hz9 => ?_)
        have hz := hz9.trans hz
        refine x_istore (lv' := [(6, .inl q_184.1), (5, .inl q_181.1), (0, .inr (.inl (some b))), (1, .inr (.inl r1)), (2, .inr (.inl r2)), (3, .inr (.inl r3)), (4, .inl x4)]) C0 hl d_Law_law_1263 (by decide) rfl (fun ls hl => ?_)
        refine x_aload_n C0 hl 4 d_Law_law_1265 rfl rfl ?_
        obtain ⟨b_187, e9, h⟩ := Option.bind_eq_some_iff.mp h
        obtain ⟨e8, fs9, hb9⟩ := xo_inv e9
        obtain ⟨q_186, e9, h⟩ := Option.bind_eq_some_iff.mp h
        refine x_callP (va_runV (As := []) (rest := []) C0 (c_Mod_thrown l G q_184.2 _ b_187 q_186 e9) (x_cwV 0 C0 kw_4_147 kw_4_150 kw_1_3 kw_4_148 kw_4_149 (by decide +kernel) (x_rm hR1 hR2 (Nat.le_of_ble_eq_true rfl) (Nat.le_of_ble_eq_true rfl))) (x_preV hE hH hS (ci := 5) rfl hb9) rfl rfl hl.1 (by rw [e8]; rfl) (lv_room (by first | exact Nat.le_of_ble_eq_true rfl | simp only [List.map_cons, List.map_nil, List.sum_cons, List.sum_nil, va_rf_cat, x_catI, x_catL, x_catA] <;> decide)) d_Law_law_1266 (x_le0 (Nat.le_trans (by omega) hR3) (Nat.le_trans (by omega) hR4))) ?_
        refine x_iload C0 hl 1 d_Law_law_1269 rfl ?_
        refine x_icmp_eq C0 1276 d_Law_law_1271 (by decide) h (fun h => ?_) (fun h => ?_)
        · refine x_iload C0 hl 1 d_Law_law_1276 rfl ?_
          refine x_if_ne C0 1293 d_Law_law_1278 (by decide) h (fun h => ?_) (fun h => ?_)
          · refine x_goto C0 1296 d_Law_law_1293 (by decide) ?_
            refine x_iinc (v := 5) (lv' := [(4, .inl (x4 + 5)), (6, .inl q_184.1), (5, .inl q_181.1), (0, .inr (.inl (some b))), (1, .inr (.inl r1)), (2, .inr (.inl r2)), (3, .inr (.inl r3))]) C0 hl 6 d_Law_law_1296 rfl (by decide) (by decide) rfl (fun ls hl => ?_)
            refine x_goto C0 23 d_Law_law_1299 (by decide) ?_
            refine W.widen (k := cells + (2 - n) * 11) (n := slots + (2 - n) * 152) (by omega) (by omega) ?_
            exact ih _ _ _ _ _ (by omega) q ls hH hS hz (x_sub hl [3, 4, 5, 6, 0] rfl) h K
          · refine x_aload_n C0 hl 5 d_Law_law_1281 rfl rfl ?_
            refine lv_iconst (v := 0) C0.1 C0.2.1 d_Law_law_1282 (by decide) ?_
            refine x_lald C0 hE hH (t := 5) rfl d_Law_law_1283 h (fun v_188 h => ?_)
            refine x_iload C0 hl 0 d_Law_law_1284 rfl ?_
            refine lv_i2l C0.1 C0.2.1 d_Law_law_1286 rfl ?_
            refine W.lcmp C0.1 C0.2.1 d_Law_law_1287 ?_
            refine x_if_eq C0 1293 d_Law_law_1288 (by decide) h (fun h => ?_) (fun h => ?_)
            · refine x_goto C0 1296 d_Law_law_1293 (by decide) ?_
              refine x_iinc (v := 5) (lv' := [(4, .inl (x4 + 5)), (6, .inl q_184.1), (5, .inl q_181.1), (0, .inr (.inl (some b))), (1, .inr (.inl r1)), (2, .inr (.inl r2)), (3, .inr (.inl r3))]) C0 hl 6 d_Law_law_1296 rfl (by decide) (by decide) rfl (fun ls hl => ?_)
              refine x_goto C0 23 d_Law_law_1299 (by decide) ?_
              refine W.widen (k := cells + (2 - n) * 11) (n := slots + (2 - n) * 152) (by omega) (by omega) ?_
              exact ih _ _ _ _ _ (by omega) q ls hH hS hz (x_sub hl [3, 4, 5, 6, 0] rfl) h K
            · cases h
              refine W.widen (k := cells + 2 * 11) (n := slots + 2 * 152) (by omega) (by omega) ?_
              exact K.2.2.2.2.2.2.2.2.2.2.2.2.2.2.2.2.2.2.2.2.2.2.2.2.2.2.2.2.2.2.2.2.2 rfl _ _ ls hH hS hz (x_sub hl [2, 3, 4, 5, 6] rfl)
        · cases h
          refine W.widen (k := cells + 2 * 11) (n := slots + 2 * 152) (by omega) (by omega) ?_
          exact K.2.2.2.2.2.2.2.2.2.2.2.2.2.2.2.2.2.2.2.2.2.2.2.2.2.2.2.2.2.2.2.2.1 rfl _ _ ls hH hS hz (x_sub hl [2, 3, 4, 5, 6] rfl)
      rw [if_neg z] at h
      have z16 := lv_neT z (a := 16) (by decide)
      refine lv_tableOut (tgt := 1296) C0.1 C0.2.1 d_Law_law_39 (by omega) (by decide) ?_
      refine x_iinc (v := 5) (lv' := [(4, .inl (x4 + 5)), (0, .inr (.inl (some b))), (1, .inr (.inl r1)), (2, .inr (.inl r2)), (3, .inr (.inl r3))]) C0 hl 4 d_Law_law_1296 rfl (by decide) (by decide) rfl (fun ls hl => ?_)
      refine x_goto C0 23 d_Law_law_1299 (by decide) ?_
      refine W.widen (k := cells + (2 - n) * 11) (n := slots + (2 - n) * 152) (by omega) (by omega) ?_
      exact ih _ _ _ _ _ (by omega) q ls hH hS hz (x_sub hl [1, 2, 3, 4, 0] rfl) h K
