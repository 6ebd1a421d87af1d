abbrev b_Law_law : ByteArray := code
theorem kw_1_0 : (Jvm.Cond.initialized "LeafMatchesLaw") ∈ wA := ku_1 0 rfl rfl
theorem kw_1_24 : (Jvm.Cond.classLink "LeafMatchesLaw" (8 : Nat) "LeafMatches") ∈ wA := ku_1 24 rfl rfl
theorem kw_1_25 : (Jvm.Cond.instantiable "LeafMatches" (6 : Nat)) ∈ wA := ku_1 25 rfl rfl
theorem kw_1_26 : (Jvm.Cond.methodLink "LeafMatchesLaw" (71 : Nat) ({ cls := "LeafMatches", name := "<init>", desc := "()V" } : Jvm.MethodName)) ∈ wA := ku_1 26 rfl rfl
theorem kw_1_27 : (Jvm.Cond.instanceMethod ({ cls := "LeafMatches", name := "<init>", desc := "()V" } : Jvm.MethodName)) ∈ wA := ku_1 27 rfl rfl
theorem kw_1_28 : (Jvm.Cond.code ({ cls := "LeafMatches", name := "<init>", desc := "()V" } : Jvm.MethodName) prog_1_method_1_code (1 : Nat) (Option.none : Option Jvm.ClassFile.FieldType)) ∈ wA := ku_1 28 rfl rfl
theorem kw_1_94 : (Jvm.Cond.methodLink "LeafMatchesLaw" (127 : Nat) ({ cls := "LeafMatches", name := "clear", desc := "()I" } : Jvm.MethodName)) ∈ wA := ku_1 94 rfl rfl
theorem kw_1_95 : (Jvm.Cond.instanceMethod ({ cls := "LeafMatches", name := "clear", desc := "()I" } : Jvm.MethodName)) ∈ wA := ku_1 95 rfl rfl
theorem kw_1_96 : (Jvm.Cond.selects "LeafMatches" ({ cls := "LeafMatches", name := "clear", desc := "()I" } : Jvm.MethodName) ({ cls := "LeafMatches", name := "clear", desc := "()I" } : Jvm.MethodName)) ∈ wA := ku_1 96 rfl rfl
theorem kw_1_97 : (Jvm.Cond.code ({ cls := "LeafMatches", name := "clear", desc := "()I" } : Jvm.MethodName) prog_1_method_16_code (2 : Nat) (Option.some Jvm.ClassFile.FieldType.int)) ∈ wA := ku_1 97 rfl rfl
theorem kw_1_102 : (Jvm.Cond.methodLink "LeafMatchesLaw" (75 : Nat) ({ cls := "LeafMatchesLaw", name := "leaf", desc := "(LLeafMatches;IIII[J)I" } : Jvm.MethodName)) ∈ wA := ku_1 102 rfl rfl
theorem kw_1_103 : (Jvm.Cond.static ({ cls := "LeafMatchesLaw", name := "leaf", desc := "(LLeafMatches;IIII[J)I" } : Jvm.MethodName)) ∈ wA := ku_1 103 rfl rfl
theorem kw_1_104 : (Jvm.Cond.codeWith ({ cls := "LeafMatchesLaw", name := "leaf", desc := "(LLeafMatches;IIII[J)I" } : Jvm.MethodName) method_3_code (7 : Nat) (Option.some Jvm.ClassFile.FieldType.int) [((0 : Nat), (14 : Nat), (17 : Nat), (13 : Nat)), ((0 : Nat), (14 : Nat), (21 : Nat), (15 : Nat))]) ∈ wA := ku_1 104 rfl rfl
theorem kw_2_10 : (Jvm.Cond.methodLink "LeafMatchesLaw" (81 : Nat) ({ cls := "LeafMatchesLaw", name := "pixel", desc := "(LLeafMatches;IIII[J)I" } : Jvm.MethodName)) ∈ wA := ku_2 10 rfl rfl
theorem kw_2_11 : (Jvm.Cond.static ({ cls := "LeafMatchesLaw", name := "pixel", desc := "(LLeafMatches;IIII[J)I" } : Jvm.MethodName)) ∈ wA := ku_2 11 rfl rfl
theorem kw_2_12 : (Jvm.Cond.codeWith ({ cls := "LeafMatchesLaw", name := "pixel", desc := "(LLeafMatches;IIII[J)I" } : Jvm.MethodName) method_4_code (7 : Nat) (Option.some Jvm.ClassFile.FieldType.int) [((0 : Nat), (21 : Nat), (24 : Nat), (21 : Nat)), ((0 : Nat), (21 : Nat), (28 : Nat), (15 : Nat))]) ∈ wA := ku_2 12 rfl rfl
theorem kw_2_47 : (Jvm.Cond.methodLink "LeafMatchesLaw" (84 : Nat) ({ cls := "LeafMatchesLaw", name := "reserve", desc := "(LLeafMatches;II[J)I" } : Jvm.MethodName)) ∈ wA := ku_2 47 rfl rfl
theorem kw_2_48 : (Jvm.Cond.static ({ cls := "LeafMatchesLaw", name := "reserve", desc := "(LLeafMatches;II[J)I" } : Jvm.MethodName)) ∈ wA := ku_2 48 rfl rfl
theorem kw_2_49 : (Jvm.Cond.codeWith ({ cls := "LeafMatchesLaw", name := "reserve", desc := "(LLeafMatches;II[J)I" } : Jvm.MethodName) method_5_code (5 : Nat) (Option.some Jvm.ClassFile.FieldType.int) [((0 : Nat), (17 : Nat), (20 : Nat), (21 : Nat)), ((0 : Nat), (17 : Nat), (24 : Nat), (13 : Nat)), ((0 : Nat), (17 : Nat), (28 : Nat), (15 : Nat))]) ∈ wA := ku_2 49 rfl rfl
theorem kw_2_57 : (Jvm.Cond.methodLink "LeafMatchesLaw" (88 : Nat) ({ cls := "LeafMatchesLaw", name := "match", desc := "(LLeafMatches;II[J)I" } : Jvm.MethodName)) ∈ wA := ku_2 57 rfl rfl
theorem kw_2_58 : (Jvm.Cond.static ({ cls := "LeafMatchesLaw", name := "match", desc := "(LLeafMatches;II[J)I" } : Jvm.MethodName)) ∈ wA := ku_2 58 rfl rfl
theorem kw_2_59 : (Jvm.Cond.codeWith ({ cls := "LeafMatchesLaw", name := "match", desc := "(LLeafMatches;II[J)I" } : Jvm.MethodName) method_6_code (5 : Nat) (Option.some Jvm.ClassFile.FieldType.int) [((0 : Nat), (10 : Nat), (13 : Nat), (13 : Nat)), ((0 : Nat), (10 : Nat), (17 : Nat), (15 : Nat))]) ∈ wA := ku_2 59 rfl rfl
theorem kw_2_141 : (Jvm.Cond.methodLink "LeafMatchesLaw" (91 : Nat) ({ cls := "LeafMatchesLaw", name := "apart", desc := "(LLeafMatches;I[J)I" } : Jvm.MethodName)) ∈ wA := ku_2 141 rfl rfl
theorem kw_2_142 : (Jvm.Cond.static ({ cls := "LeafMatchesLaw", name := "apart", desc := "(LLeafMatches;I[J)I" } : Jvm.MethodName)) ∈ wA := ku_2 142 rfl rfl
theorem kw_2_143 : (Jvm.Cond.codeWith ({ cls := "LeafMatchesLaw", name := "apart", desc := "(LLeafMatches;I[J)I" } : Jvm.MethodName) method_7_code (4 : Nat) (Option.some Jvm.ClassFile.FieldType.int) [((0 : Nat), (9 : Nat), (12 : Nat), (21 : Nat))]) ∈ wA := ku_2 143 rfl rfl
theorem kw_2_153 : (Jvm.Cond.methodLink "LeafMatchesLaw" (95 : Nat) ({ cls := "LeafMatchesLaw", name := "place", desc := "(LLeafMatches;III[J)I" } : Jvm.MethodName)) ∈ wA := ku_2 153 rfl rfl
theorem kw_2_154 : (Jvm.Cond.static ({ cls := "LeafMatchesLaw", name := "place", desc := "(LLeafMatches;III[J)I" } : Jvm.MethodName)) ∈ wA := ku_2 154 rfl rfl
theorem kw_2_155 : (Jvm.Cond.codeWith ({ cls := "LeafMatchesLaw", name := "place", desc := "(LLeafMatches;III[J)I" } : Jvm.MethodName) method_8_code (6 : Nat) (Option.some Jvm.ClassFile.FieldType.int) [((0 : Nat), (12 : Nat), (15 : Nat), (21 : Nat)), ((0 : Nat), (12 : Nat), (19 : Nat), (15 : Nat))]) ∈ wA := ku_2 155 rfl rfl
theorem kw_2_201 : (Jvm.Cond.methodLink "LeafMatchesLaw" (99 : Nat) ({ cls := "LeafMatchesLaw", name := "at", desc := "(LLeafMatches;III[J)I" } : Jvm.MethodName)) ∈ wA := ku_2 201 rfl rfl
theorem kw_2_202 : (Jvm.Cond.static ({ cls := "LeafMatchesLaw", name := "at", desc := "(LLeafMatches;III[J)I" } : Jvm.MethodName)) ∈ wA := ku_2 202 rfl rfl
theorem kw_2_203 : (Jvm.Cond.codeWith ({ cls := "LeafMatchesLaw", name := "at", desc := "(LLeafMatches;III[J)I" } : Jvm.MethodName) method_9_code (6 : Nat) (Option.some Jvm.ClassFile.FieldType.int) [((0 : Nat), (12 : Nat), (15 : Nat), (21 : Nat))]) ∈ wA := ku_2 203 rfl rfl
theorem kw_2_219 : (Jvm.Cond.methodLink "LeafMatchesLaw" (106 : Nat) ({ cls := "LeafMatchesLaw", name := "about", desc := "(LLeafMatches;II[J)I" } : Jvm.MethodName)) ∈ wA := ku_2 219 rfl rfl
theorem kw_2_220 : (Jvm.Cond.static ({ cls := "LeafMatchesLaw", name := "about", desc := "(LLeafMatches;II[J)I" } : Jvm.MethodName)) ∈ wA := ku_2 220 rfl rfl
theorem kw_2_221 : (Jvm.Cond.codeWith ({ cls := "LeafMatchesLaw", name := "about", desc := "(LLeafMatches;II[J)I" } : Jvm.MethodName) method_10_code (5 : Nat) (Option.some Jvm.ClassFile.FieldType.int) [((0 : Nat), (10 : Nat), (13 : Nat), (21 : Nat)), ((0 : Nat), (10 : Nat), (17 : Nat), (15 : Nat))]) ∈ wA := ku_2 221 rfl rfl
theorem kw_2_239 : (Jvm.Cond.methodLink "LeafMatchesLaw" (109 : Nat) ({ cls := "LeafMatchesLaw", name := "seam", desc := "(LLeafMatches;II[J)I" } : Jvm.MethodName)) ∈ wA := ku_2 239 rfl rfl
theorem kw_3_0 : (Jvm.Cond.static ({ cls := "LeafMatchesLaw", name := "seam", desc := "(LLeafMatches;II[J)I" } : Jvm.MethodName)) ∈ wA := ku_3 0 rfl rfl
theorem kw_3_1 : (Jvm.Cond.codeWith ({ cls := "LeafMatchesLaw", name := "seam", desc := "(LLeafMatches;II[J)I" } : Jvm.MethodName) method_11_code (5 : Nat) (Option.some Jvm.ClassFile.FieldType.int) [((0 : Nat), (10 : Nat), (13 : Nat), (21 : Nat))]) ∈ wA := ku_3 1 rfl rfl
theorem kw_3_12 : (Jvm.Cond.methodLink "LeafMatchesLaw" (112 : Nat) ({ cls := "LeafMatchesLaw", name := "sum", desc := "(LLeafMatches;III[J)I" } : Jvm.MethodName)) ∈ wA := ku_3 12 rfl rfl
theorem kw_3_13 : (Jvm.Cond.static ({ cls := "LeafMatchesLaw", name := "sum", desc := "(LLeafMatches;III[J)I" } : Jvm.MethodName)) ∈ wA := ku_3 13 rfl rfl
theorem kw_3_14 : (Jvm.Cond.codeWith ({ cls := "LeafMatchesLaw", name := "sum", desc := "(LLeafMatches;III[J)I" } : Jvm.MethodName) method_12_code (6 : Nat) (Option.some Jvm.ClassFile.FieldType.int) [((0 : Nat), (11 : Nat), (14 : Nat), (21 : Nat)), ((0 : Nat), (11 : Nat), (18 : Nat), (15 : Nat))]) ∈ wA := ku_3 14 rfl rfl
theorem kw_3_21 : (Jvm.Cond.methodLink "LeafMatchesLaw" (115 : Nat) ({ cls := "LeafMatchesLaw", name := "mirrored", desc := "(LLeafMatches;II[J)I" } : Jvm.MethodName)) ∈ wA := ku_3 21 rfl rfl
theorem kw_3_22 : (Jvm.Cond.static ({ cls := "LeafMatchesLaw", name := "mirrored", desc := "(LLeafMatches;II[J)I" } : Jvm.MethodName)) ∈ wA := ku_3 22 rfl rfl
theorem kw_3_23 : (Jvm.Cond.codeWith ({ cls := "LeafMatchesLaw", name := "mirrored", desc := "(LLeafMatches;II[J)I" } : Jvm.MethodName) method_13_code (5 : Nat) (Option.some Jvm.ClassFile.FieldType.int) [((0 : Nat), (17 : Nat), (20 : Nat), (21 : Nat))]) ∈ wA := ku_3 23 rfl rfl
theorem kw_3_28 : (Jvm.Cond.methodLink "LeafMatchesLaw" (118 : Nat) ({ cls := "LeafMatchesLaw", name := "balance", desc := "(LLeafMatches;I[J)I" } : Jvm.MethodName)) ∈ wA := ku_3 28 rfl rfl
theorem kw_3_29 : (Jvm.Cond.static ({ cls := "LeafMatchesLaw", name := "balance", desc := "(LLeafMatches;I[J)I" } : Jvm.MethodName)) ∈ wA := ku_3 29 rfl rfl
theorem kw_3_30 : (Jvm.Cond.codeWith ({ cls := "LeafMatchesLaw", name := "balance", desc := "(LLeafMatches;I[J)I" } : Jvm.MethodName) method_14_code (4 : Nat) (Option.some Jvm.ClassFile.FieldType.int) [((0 : Nat), (16 : Nat), (19 : Nat), (21 : Nat))]) ∈ wA := ku_3 30 rfl rfl
theorem kw_3_40 : (Jvm.Cond.methodLink "LeafMatchesLaw" (121 : Nat) ({ cls := "LeafMatchesLaw", name := "number", desc := "(LLeafMatches;III[J)I" } : Jvm.MethodName)) ∈ wA := ku_3 40 rfl rfl
theorem kw_3_41 : (Jvm.Cond.static ({ cls := "LeafMatchesLaw", name := "number", desc := "(LLeafMatches;III[J)I" } : Jvm.MethodName)) ∈ wA := ku_3 41 rfl rfl
theorem kw_3_42 : (Jvm.Cond.codeWith ({ cls := "LeafMatchesLaw", name := "number", desc := "(LLeafMatches;III[J)I" } : Jvm.MethodName) method_15_code (6 : Nat) (Option.some Jvm.ClassFile.FieldType.int) [((0 : Nat), (12 : Nat), (15 : Nat), (21 : Nat)), ((0 : Nat), (12 : Nat), (19 : Nat), (15 : Nat))]) ∈ wA := ku_3 42 rfl rfl
theorem kw_4_3 : (Jvm.Cond.methodLink "LeafMatchesLaw" (124 : Nat) ({ cls := "LeafMatchesLaw", name := "want", desc := "(LLeafMatches;I[J)I" } : Jvm.MethodName)) ∈ wA := ku_4 3 rfl rfl
theorem kw_4_4 : (Jvm.Cond.static ({ cls := "LeafMatchesLaw", name := "want", desc := "(LLeafMatches;I[J)I" } : Jvm.MethodName)) ∈ wA := ku_4 4 rfl rfl
theorem kw_4_5 : (Jvm.Cond.codeWith ({ cls := "LeafMatchesLaw", name := "want", desc := "(LLeafMatches;I[J)I" } : Jvm.MethodName) method_16_code (4 : Nat) (Option.some Jvm.ClassFile.FieldType.int) [((0 : Nat), (9 : Nat), (12 : Nat), (13 : Nat)), ((0 : Nat), (9 : Nat), (15 : Nat), (15 : Nat))]) ∈ wA := ku_4 5 rfl rfl
theorem kw_4_16 : (Jvm.Cond.methodLink "LeafMatchesLaw" (131 : Nat) ({ cls := "LeafMatchesLaw", name := "faces", desc := "(LLeafMatches;I[J)I" } : Jvm.MethodName)) ∈ wA := ku_4 16 rfl rfl
theorem kw_4_17 : (Jvm.Cond.static ({ cls := "LeafMatchesLaw", name := "faces", desc := "(LLeafMatches;I[J)I" } : Jvm.MethodName)) ∈ wA := ku_4 17 rfl rfl
theorem kw_4_18 : (Jvm.Cond.codeWith ({ cls := "LeafMatchesLaw", name := "faces", desc := "(LLeafMatches;I[J)I" } : Jvm.MethodName) method_17_code (4 : Nat) (Option.some Jvm.ClassFile.FieldType.int) [((0 : Nat), (9 : Nat), (12 : Nat), (15 : Nat))]) ∈ wA := ku_4 18 rfl rfl
theorem kw_4_63 : (Jvm.Cond.methodLink "LeafMatchesLaw" (134 : Nat) ({ cls := "LeafMatchesLaw", name := "planned", desc := "(LLeafMatches;II[J)I" } : Jvm.MethodName)) ∈ wA := ku_4 63 rfl rfl
theorem kw_4_64 : (Jvm.Cond.static ({ cls := "LeafMatchesLaw", name := "planned", desc := "(LLeafMatches;II[J)I" } : Jvm.MethodName)) ∈ wA := ku_4 64 rfl rfl
theorem kw_4_65 : (Jvm.Cond.codeWith ({ cls := "LeafMatchesLaw", name := "planned", desc := "(LLeafMatches;II[J)I" } : Jvm.MethodName) method_18_code (5 : Nat) (Option.some Jvm.ClassFile.FieldType.int) [((0 : Nat), (10 : Nat), (13 : Nat), (13 : Nat)), ((0 : Nat), (10 : Nat), (17 : Nat), (21 : Nat)), ((0 : Nat), (10 : Nat), (21 : Nat), (15 : Nat))]) ∈ wA := ku_4 65 rfl rfl
theorem kw_4_73 : (Jvm.Cond.classLink "LeafMatchesLaw" (72 : Nat) "LeafMatchesModel") ∈ wA := ku_4 73 rfl rfl
theorem kw_4_74 : (Jvm.Cond.instantiable "LeafMatchesModel" (22 : Nat)) ∈ wA := ku_4 74 rfl rfl
theorem kw_4_75 : (Jvm.Cond.methodLink "LeafMatchesLaw" (74 : Nat) ({ cls := "LeafMatchesModel", name := "<init>", desc := "()V" } : Jvm.MethodName)) ∈ wA := ku_4 75 rfl rfl
theorem kw_4_76 : (Jvm.Cond.instanceMethod ({ cls := "LeafMatchesModel", name := "<init>", desc := "()V" } : Jvm.MethodName)) ∈ wA := ku_4 76 rfl rfl
theorem kw_4_77 : (Jvm.Cond.code ({ cls := "LeafMatchesModel", name := "<init>", desc := "()V" } : Jvm.MethodName) prog_7_method_1_code (1 : Nat) (Option.none : Option Jvm.ClassFile.FieldType)) ∈ wA := ku_4 77 rfl rfl
theorem kw_4_147 : (Jvm.Cond.methodLink "LeafMatchesLaw" (102 : Nat) ({ cls := "LeafMatchesModel", name := "thrown", desc := "()I" } : Jvm.MethodName)) ∈ wA := ku_4 147 rfl rfl
theorem kw_4_148 : (Jvm.Cond.instanceMethod ({ cls := "LeafMatchesModel", name := "thrown", desc := "()I" } : Jvm.MethodName)) ∈ wA := ku_4 148 rfl rfl
theorem kw_4_149 : (Jvm.Cond.selects "LeafMatchesModel" ({ cls := "LeafMatchesModel", name := "thrown", desc := "()I" } : Jvm.MethodName) ({ cls := "LeafMatchesModel", name := "thrown", desc := "()I" } : Jvm.MethodName)) ∈ wA := ku_4 149 rfl rfl
theorem kw_4_150 : (Jvm.Cond.code ({ cls := "LeafMatchesModel", name := "thrown", desc := "()I" } : Jvm.MethodName) prog_7_method_2_code (1 : Nat) (Option.some Jvm.ClassFile.FieldType.int)) ∈ wA := ku_4 150 rfl rfl
theorem kw_4_151 : (Jvm.Cond.methodLink "LeafMatchesLaw" (80 : Nat) ({ cls := "LeafMatchesModel", name := "leaf", desc := "(IIII)I" } : Jvm.MethodName)) ∈ wA := ku_4 151 rfl rfl
theorem kw_4_152 : (Jvm.Cond.instanceMethod ({ cls := "LeafMatchesModel", name := "leaf", desc := "(IIII)I" } : Jvm.MethodName)) ∈ wA := ku_4 152 rfl rfl
theorem kw_4_153 : (Jvm.Cond.selects "LeafMatchesModel" ({ cls := "LeafMatchesModel", name := "leaf", desc := "(IIII)I" } : Jvm.MethodName) ({ cls := "LeafMatchesModel", name := "leaf", desc := "(IIII)I" } : Jvm.MethodName)) ∈ wA := ku_4 153 rfl rfl
theorem kw_4_154 : (Jvm.Cond.code ({ cls := "LeafMatchesModel", name := "leaf", desc := "(IIII)I" } : Jvm.MethodName) prog_7_method_4_code (7 : Nat) (Option.some Jvm.ClassFile.FieldType.int)) ∈ wA := ku_4 154 rfl rfl
theorem kw_4_158 : (Jvm.Cond.methodLink "LeafMatchesLaw" (83 : Nat) ({ cls := "LeafMatchesModel", name := "pixel", desc := "(IIII)Z" } : Jvm.MethodName)) ∈ wA := ku_4 158 rfl rfl
theorem kw_4_159 : (Jvm.Cond.instanceMethod ({ cls := "LeafMatchesModel", name := "pixel", desc := "(IIII)Z" } : Jvm.MethodName)) ∈ wA := ku_4 159 rfl rfl
theorem kw_4_160 : (Jvm.Cond.selects "LeafMatchesModel" ({ cls := "LeafMatchesModel", name := "pixel", desc := "(IIII)Z" } : Jvm.MethodName) ({ cls := "LeafMatchesModel", name := "pixel", desc := "(IIII)Z" } : Jvm.MethodName)) ∈ wA := ku_4 160 rfl rfl
theorem kw_4_161 : (Jvm.Cond.code ({ cls := "LeafMatchesModel", name := "pixel", desc := "(IIII)Z" } : Jvm.MethodName) prog_7_method_5_code (6 : Nat) (Option.some Jvm.ClassFile.FieldType.boolean)) ∈ wA := ku_4 161 rfl rfl
theorem kw_4_162 : (Jvm.Cond.methodLink "LeafMatchesLaw" (87 : Nat) ({ cls := "LeafMatchesModel", name := "reserve", desc := "(II)Z" } : Jvm.MethodName)) ∈ wA := ku_4 162 rfl rfl
theorem kw_4_163 : (Jvm.Cond.instanceMethod ({ cls := "LeafMatchesModel", name := "reserve", desc := "(II)Z" } : Jvm.MethodName)) ∈ wA := ku_4 163 rfl rfl
theorem kw_4_164 : (Jvm.Cond.selects "LeafMatchesModel" ({ cls := "LeafMatchesModel", name := "reserve", desc := "(II)Z" } : Jvm.MethodName) ({ cls := "LeafMatchesModel", name := "reserve", desc := "(II)Z" } : Jvm.MethodName)) ∈ wA := ku_4 164 rfl rfl
theorem kw_4_165 : (Jvm.Cond.code ({ cls := "LeafMatchesModel", name := "reserve", desc := "(II)Z" } : Jvm.MethodName) prog_7_method_6_code (4 : Nat) (Option.some Jvm.ClassFile.FieldType.boolean)) ∈ wA := ku_4 165 rfl rfl
theorem kw_4_166 : (Jvm.Cond.methodLink "LeafMatchesLaw" (90 : Nat) ({ cls := "LeafMatchesModel", name := "match", desc := "(II)I" } : Jvm.MethodName)) ∈ wA := ku_4 166 rfl rfl
theorem kw_4_167 : (Jvm.Cond.instanceMethod ({ cls := "LeafMatchesModel", name := "match", desc := "(II)I" } : Jvm.MethodName)) ∈ wA := ku_4 167 rfl rfl
theorem kw_4_168 : (Jvm.Cond.selects "LeafMatchesModel" ({ cls := "LeafMatchesModel", name := "match", desc := "(II)I" } : Jvm.MethodName) ({ cls := "LeafMatchesModel", name := "match", desc := "(II)I" } : Jvm.MethodName)) ∈ wA := ku_4 168 rfl rfl
theorem kw_4_169 : (Jvm.Cond.code ({ cls := "LeafMatchesModel", name := "match", desc := "(II)I" } : Jvm.MethodName) prog_7_method_8_code (7 : Nat) (Option.some Jvm.ClassFile.FieldType.int)) ∈ wA := ku_4 169 rfl rfl
theorem kw_4_174 : (Jvm.Cond.methodLink "LeafMatchesLaw" (94 : Nat) ({ cls := "LeafMatchesModel", name := "apart", desc := "(I)I" } : Jvm.MethodName)) ∈ wA := ku_4 174 rfl rfl
theorem kw_4_175 : (Jvm.Cond.instanceMethod ({ cls := "LeafMatchesModel", name := "apart", desc := "(I)I" } : Jvm.MethodName)) ∈ wA := ku_4 175 rfl rfl
theorem kw_4_176 : (Jvm.Cond.selects "LeafMatchesModel" ({ cls := "LeafMatchesModel", name := "apart", desc := "(I)I" } : Jvm.MethodName) ({ cls := "LeafMatchesModel", name := "apart", desc := "(I)I" } : Jvm.MethodName)) ∈ wA := ku_4 176 rfl rfl
theorem kw_4_177 : (Jvm.Cond.code ({ cls := "LeafMatchesModel", name := "apart", desc := "(I)I" } : Jvm.MethodName) prog_7_method_10_code (4 : Nat) (Option.some Jvm.ClassFile.FieldType.int)) ∈ wA := ku_4 177 rfl rfl
theorem kw_4_182 : (Jvm.Cond.methodLink "LeafMatchesLaw" (98 : Nat) ({ cls := "LeafMatchesModel", name := "place", desc := "(III)I" } : Jvm.MethodName)) ∈ wA := ku_4 182 rfl rfl
theorem kw_4_183 : (Jvm.Cond.instanceMethod ({ cls := "LeafMatchesModel", name := "place", desc := "(III)I" } : Jvm.MethodName)) ∈ wA := ku_4 183 rfl rfl
theorem kw_4_184 : (Jvm.Cond.selects "LeafMatchesModel" ({ cls := "LeafMatchesModel", name := "place", desc := "(III)I" } : Jvm.MethodName) ({ cls := "LeafMatchesModel", name := "place", desc := "(III)I" } : Jvm.MethodName)) ∈ wA := ku_4 184 rfl rfl
theorem kw_4_185 : (Jvm.Cond.code ({ cls := "LeafMatchesModel", name := "place", desc := "(III)I" } : Jvm.MethodName) prog_7_method_24_code (4 : Nat) (Option.some Jvm.ClassFile.FieldType.int)) ∈ wA := ku_4 185 rfl rfl
theorem kw_4_230 : (Jvm.Cond.methodLink "LeafMatchesLaw" (101 : Nat) ({ cls := "LeafMatchesModel", name := "at", desc := "(III)I" } : Jvm.MethodName)) ∈ wA := ku_4 230 rfl rfl
theorem kw_4_231 : (Jvm.Cond.instanceMethod ({ cls := "LeafMatchesModel", name := "at", desc := "(III)I" } : Jvm.MethodName)) ∈ wA := ku_4 231 rfl rfl
theorem kw_4_232 : (Jvm.Cond.selects "LeafMatchesModel" ({ cls := "LeafMatchesModel", name := "at", desc := "(III)I" } : Jvm.MethodName) ({ cls := "LeafMatchesModel", name := "at", desc := "(III)I" } : Jvm.MethodName)) ∈ wA := ku_4 232 rfl rfl
theorem kw_4_233 : (Jvm.Cond.code ({ cls := "LeafMatchesModel", name := "at", desc := "(III)I" } : Jvm.MethodName) prog_7_method_25_code (11 : Nat) (Option.some Jvm.ClassFile.FieldType.int)) ∈ wA := ku_4 233 rfl rfl
theorem kw_4_238 : (Jvm.Cond.methodLink "LeafMatchesLaw" (108 : Nat) ({ cls := "LeafMatchesModel", name := "about", desc := "(II)I" } : Jvm.MethodName)) ∈ wA := ku_4 238 rfl rfl
theorem kw_4_239 : (Jvm.Cond.instanceMethod ({ cls := "LeafMatchesModel", name := "about", desc := "(II)I" } : Jvm.MethodName)) ∈ wA := ku_4 239 rfl rfl
theorem kw_5_0 : (Jvm.Cond.selects "LeafMatchesModel" ({ cls := "LeafMatchesModel", name := "about", desc := "(II)I" } : Jvm.MethodName) ({ cls := "LeafMatchesModel", name := "about", desc := "(II)I" } : Jvm.MethodName)) ∈ wA := ku_5 0 rfl rfl
theorem kw_5_1 : (Jvm.Cond.code ({ cls := "LeafMatchesModel", name := "about", desc := "(II)I" } : Jvm.MethodName) prog_7_method_27_code (6 : Nat) (Option.some Jvm.ClassFile.FieldType.int)) ∈ wA := ku_5 1 rfl rfl
theorem kw_5_7 : (Jvm.Cond.methodLink "LeafMatchesLaw" (111 : Nat) ({ cls := "LeafMatchesModel", name := "seam", desc := "(II)I" } : Jvm.MethodName)) ∈ wA := ku_5 7 rfl rfl
theorem kw_5_8 : (Jvm.Cond.instanceMethod ({ cls := "LeafMatchesModel", name := "seam", desc := "(II)I" } : Jvm.MethodName)) ∈ wA := ku_5 8 rfl rfl
theorem kw_5_9 : (Jvm.Cond.selects "LeafMatchesModel" ({ cls := "LeafMatchesModel", name := "seam", desc := "(II)I" } : Jvm.MethodName) ({ cls := "LeafMatchesModel", name := "seam", desc := "(II)I" } : Jvm.MethodName)) ∈ wA := ku_5 9 rfl rfl
theorem kw_5_10 : (Jvm.Cond.code ({ cls := "LeafMatchesModel", name := "seam", desc := "(II)I" } : Jvm.MethodName) prog_7_method_29_code (3 : Nat) (Option.some Jvm.ClassFile.FieldType.int)) ∈ wA := ku_5 10 rfl rfl
theorem kw_5_19 : (Jvm.Cond.methodLink "LeafMatchesLaw" (114 : Nat) ({ cls := "LeafMatchesModel", name := "sum", desc := "(III)J" } : Jvm.MethodName)) ∈ wA := ku_5 19 rfl rfl
theorem kw_5_20 : (Jvm.Cond.instanceMethod ({ cls := "LeafMatchesModel", name := "sum", desc := "(III)J" } : Jvm.MethodName)) ∈ wA := ku_5 20 rfl rfl
theorem kw_5_21 : (Jvm.Cond.selects "LeafMatchesModel" ({ cls := "LeafMatchesModel", name := "sum", desc := "(III)J" } : Jvm.MethodName) ({ cls := "LeafMatchesModel", name := "sum", desc := "(III)J" } : Jvm.MethodName)) ∈ wA := ku_5 21 rfl rfl
theorem kw_5_22 : (Jvm.Cond.code ({ cls := "LeafMatchesModel", name := "sum", desc := "(III)J" } : Jvm.MethodName) prog_7_method_30_code (4 : Nat) (Option.some Jvm.ClassFile.FieldType.long)) ∈ wA := ku_5 22 rfl rfl
theorem kw_5_23 : (Jvm.Cond.methodLink "LeafMatchesLaw" (117 : Nat) ({ cls := "LeafMatchesModel", name := "mirrored", desc := "(II)Z" } : Jvm.MethodName)) ∈ wA := ku_5 23 rfl rfl
theorem kw_5_24 : (Jvm.Cond.instanceMethod ({ cls := "LeafMatchesModel", name := "mirrored", desc := "(II)Z" } : Jvm.MethodName)) ∈ wA := ku_5 24 rfl rfl
theorem kw_5_25 : (Jvm.Cond.selects "LeafMatchesModel" ({ cls := "LeafMatchesModel", name := "mirrored", desc := "(II)Z" } : Jvm.MethodName) ({ cls := "LeafMatchesModel", name := "mirrored", desc := "(II)Z" } : Jvm.MethodName)) ∈ wA := ku_5 25 rfl rfl
theorem kw_5_26 : (Jvm.Cond.code ({ cls := "LeafMatchesModel", name := "mirrored", desc := "(II)Z" } : Jvm.MethodName) prog_7_method_31_code (3 : Nat) (Option.some Jvm.ClassFile.FieldType.boolean)) ∈ wA := ku_5 26 rfl rfl
theorem kw_5_27 : (Jvm.Cond.methodLink "LeafMatchesLaw" (120 : Nat) ({ cls := "LeafMatchesModel", name := "balance", desc := "(I)Z" } : Jvm.MethodName)) ∈ wA := ku_5 27 rfl rfl
theorem kw_5_28 : (Jvm.Cond.instanceMethod ({ cls := "LeafMatchesModel", name := "balance", desc := "(I)Z" } : Jvm.MethodName)) ∈ wA := ku_5 28 rfl rfl
theorem kw_5_29 : (Jvm.Cond.selects "LeafMatchesModel" ({ cls := "LeafMatchesModel", name := "balance", desc := "(I)Z" } : Jvm.MethodName) ({ cls := "LeafMatchesModel", name := "balance", desc := "(I)Z" } : Jvm.MethodName)) ∈ wA := ku_5 29 rfl rfl
theorem kw_5_30 : (Jvm.Cond.code ({ cls := "LeafMatchesModel", name := "balance", desc := "(I)Z" } : Jvm.MethodName) prog_7_method_32_code (6 : Nat) (Option.some Jvm.ClassFile.FieldType.boolean)) ∈ wA := ku_5 30 rfl rfl
theorem kw_5_31 : (Jvm.Cond.methodLink "LeafMatchesLaw" (123 : Nat) ({ cls := "LeafMatchesModel", name := "number", desc := "(III)I" } : Jvm.MethodName)) ∈ wA := ku_5 31 rfl rfl
theorem kw_5_32 : (Jvm.Cond.instanceMethod ({ cls := "LeafMatchesModel", name := "number", desc := "(III)I" } : Jvm.MethodName)) ∈ wA := ku_5 32 rfl rfl
theorem kw_5_33 : (Jvm.Cond.selects "LeafMatchesModel" ({ cls := "LeafMatchesModel", name := "number", desc := "(III)I" } : Jvm.MethodName) ({ cls := "LeafMatchesModel", name := "number", desc := "(III)I" } : Jvm.MethodName)) ∈ wA := ku_5 33 rfl rfl
theorem kw_5_34 : (Jvm.Cond.code ({ cls := "LeafMatchesModel", name := "number", desc := "(III)I" } : Jvm.MethodName) prog_7_method_34_code (5 : Nat) (Option.some Jvm.ClassFile.FieldType.int)) ∈ wA := ku_5 34 rfl rfl
theorem kw_5_39 : (Jvm.Cond.methodLink "LeafMatchesLaw" (126 : Nat) ({ cls := "LeafMatchesModel", name := "want", desc := "(I)I" } : Jvm.MethodName)) ∈ wA := ku_5 39 rfl rfl
theorem kw_5_40 : (Jvm.Cond.instanceMethod ({ cls := "LeafMatchesModel", name := "want", desc := "(I)I" } : Jvm.MethodName)) ∈ wA := ku_5 40 rfl rfl
theorem kw_5_41 : (Jvm.Cond.selects "LeafMatchesModel" ({ cls := "LeafMatchesModel", name := "want", desc := "(I)I" } : Jvm.MethodName) ({ cls := "LeafMatchesModel", name := "want", desc := "(I)I" } : Jvm.MethodName)) ∈ wA := ku_5 41 rfl rfl
theorem kw_5_42 : (Jvm.Cond.code ({ cls := "LeafMatchesModel", name := "want", desc := "(I)I" } : Jvm.MethodName) prog_7_method_35_code (2 : Nat) (Option.some Jvm.ClassFile.FieldType.int)) ∈ wA := ku_5 42 rfl rfl
theorem kw_5_43 : (Jvm.Cond.methodLink "LeafMatchesLaw" (130 : Nat) ({ cls := "LeafMatchesModel", name := "clear", desc := "()I" } : Jvm.MethodName)) ∈ wA := ku_5 43 rfl rfl
theorem kw_5_44 : (Jvm.Cond.instanceMethod ({ cls := "LeafMatchesModel", name := "clear", desc := "()I" } : Jvm.MethodName)) ∈ wA := ku_5 44 rfl rfl
theorem kw_5_45 : (Jvm.Cond.selects "LeafMatchesModel" ({ cls := "LeafMatchesModel", name := "clear", desc := "()I" } : Jvm.MethodName) ({ cls := "LeafMatchesModel", name := "clear", desc := "()I" } : Jvm.MethodName)) ∈ wA := ku_5 45 rfl rfl
theorem kw_5_46 : (Jvm.Cond.code ({ cls := "LeafMatchesModel", name := "clear", desc := "()I" } : Jvm.MethodName) prog_7_method_36_code (2 : Nat) (Option.some Jvm.ClassFile.FieldType.int)) ∈ wA := ku_5 46 rfl rfl
theorem kw_5_47 : (Jvm.Cond.methodLink "LeafMatchesLaw" (133 : Nat) ({ cls := "LeafMatchesModel", name := "faces", desc := "(I)I" } : Jvm.MethodName)) ∈ wA := ku_5 47 rfl rfl
theorem kw_5_48 : (Jvm.Cond.instanceMethod ({ cls := "LeafMatchesModel", name := "faces", desc := "(I)I" } : Jvm.MethodName)) ∈ wA := ku_5 48 rfl rfl
theorem kw_5_49 : (Jvm.Cond.selects "LeafMatchesModel" ({ cls := "LeafMatchesModel", name := "faces", desc := "(I)I" } : Jvm.MethodName) ({ cls := "LeafMatchesModel", name := "faces", desc := "(I)I" } : Jvm.MethodName)) ∈ wA := ku_5 49 rfl rfl
theorem kw_5_50 : (Jvm.Cond.code ({ cls := "LeafMatchesModel", name := "faces", desc := "(I)I" } : Jvm.MethodName) prog_7_method_40_code (8 : Nat) (Option.some Jvm.ClassFile.FieldType.int)) ∈ wA := ku_5 50 rfl rfl
theorem kw_5_68 : (Jvm.Cond.methodLink "LeafMatchesLaw" (136 : Nat) ({ cls := "LeafMatchesModel", name := "planned", desc := "(II)I" } : Jvm.MethodName)) ∈ wA := ku_5 68 rfl rfl
theorem kw_5_69 : (Jvm.Cond.instanceMethod ({ cls := "LeafMatchesModel", name := "planned", desc := "(II)I" } : Jvm.MethodName)) ∈ wA := ku_5 69 rfl rfl
theorem kw_5_70 : (Jvm.Cond.selects "LeafMatchesModel" ({ cls := "LeafMatchesModel", name := "planned", desc := "(II)I" } : Jvm.MethodName) ({ cls := "LeafMatchesModel", name := "planned", desc := "(II)I" } : Jvm.MethodName)) ∈ wA := ku_5 70 rfl rfl
theorem kw_5_71 : (Jvm.Cond.code ({ cls := "LeafMatchesModel", name := "planned", desc := "(II)I" } : Jvm.MethodName) prog_7_method_42_code (3 : Nat) (Option.some Jvm.ClassFile.FieldType.int)) ∈ wA := ku_5 71 rfl rfl
theorem kw_5_72 : (Jvm.Cond.arrayClass Jvm.ClassFile.FieldType.long) ∈ wA := ku_5 72 rfl rfl
theorem d_Law_law_0 : decode b_Law_law 0 = .ok (.new 8, 3) := by decide +kernel
theorem d_Law_law_3 : decode b_Law_law 3 = .ok (.dup, 1) := by decide +kernel
theorem d_Law_law_4 : decode b_Law_law 4 = .ok (.invokespecial 71, 3) := by decide +kernel
theorem d_Law_law_7 : decode b_Law_law 7 = .ok (.astore_n 1, 1) := by decide +kernel
theorem d_Law_law_8 : decode b_Law_law 8 = .ok (.new 72, 3) := by decide +kernel
theorem d_Law_law_11 : decode b_Law_law 11 = .ok (.dup, 1) := by decide +kernel
theorem d_Law_law_12 : decode b_Law_law 12 = .ok (.invokespecial 74, 3) := by decide +kernel
theorem d_Law_law_15 : decode b_Law_law 15 = .ok (.astore_n 2, 1) := by decide +kernel
theorem d_Law_law_16 : decode b_Law_law 16 = .ok (.iconst 1, 1) := by decide +kernel
theorem d_Law_law_17 : decode b_Law_law 17 = .ok (.newarray .long, 2) := by decide +kernel
theorem d_Law_law_19 : decode b_Law_law 19 = .ok (.astore_n 3, 1) := by decide +kernel
theorem d_Law_law_20 : decode b_Law_law 20 = .ok (.iconst 0, 1) := by decide +kernel
theorem d_Law_law_21 : decode b_Law_law 21 = .ok (.istore 4, 2) := by decide +kernel
theorem d_Law_law_23 : decode b_Law_law 23 = .ok (.iload 4, 2) := by decide +kernel
theorem d_Law_law_25 : decode b_Law_law 25 = .ok (.aload_n 0, 1) := by decide +kernel
theorem d_Law_law_26 : decode b_Law_law 26 = .ok (.arraylength, 1) := by decide +kernel
theorem d_Law_law_27 : decode b_Law_law 27 = .ok (.iconst 5, 1) := by decide +kernel
theorem d_Law_law_28 : decode b_Law_law 28 = .ok (.isub, 1) := by decide +kernel
theorem d_Law_law_29 : decode b_Law_law 29 = .ok (.if_icmp .gt 826, 3) := by decide +kernel
theorem d_Law_law_32 : decode b_Law_law 32 = .ok (.aload_n 0, 1) := by decide +kernel
theorem d_Law_law_33 : decode b_Law_law 33 = .ok (.iload 4, 2) := by decide +kernel
theorem d_Law_law_35 : decode b_Law_law 35 = .ok (.iaload, 1) := by decide +kernel
theorem d_Law_law_36 : decode b_Law_law 36 = .ok (.bipush 31, 2) := by decide +kernel
theorem d_Law_law_38 : decode b_Law_law 38 = .ok (.iand, 1) := by decide +kernel
theorem d_Law_law_39 : decode b_Law_law 39 = .ok (.tableswitch 810 0 16 #[81, 145, 209, 249, 289, 317, 369, 449, 489, 529, 581, 621, 649, 701, 729, 742, 770], 81) := by decide +kernel
theorem d_Law_law_120 : decode b_Law_law 120 = .ok (.aload_n 1, 1) := by decide +kernel
theorem d_Law_law_121 : decode b_Law_law 121 = .ok (.aload_n 0, 1) := by decide +kernel
theorem d_Law_law_122 : decode b_Law_law 122 = .ok (.iload 4, 2) := by decide +kernel
theorem d_Law_law_124 : decode b_Law_law 124 = .ok (.iconst 1, 1) := by decide +kernel
theorem d_Law_law_125 : decode b_Law_law 125 = .ok (.iadd, 1) := by decide +kernel
theorem d_Law_law_126 : decode b_Law_law 126 = .ok (.iaload, 1) := by decide +kernel
theorem d_Law_law_127 : decode b_Law_law 127 = .ok (.aload_n 0, 1) := by decide +kernel
theorem d_Law_law_128 : decode b_Law_law 128 = .ok (.iload 4, 2) := by decide +kernel
theorem d_Law_law_130 : decode b_Law_law 130 = .ok (.iconst 2, 1) := by decide +kernel
theorem d_Law_law_131 : decode b_Law_law 131 = .ok (.iadd, 1) := by decide +kernel
theorem d_Law_law_132 : decode b_Law_law 132 = .ok (.iaload, 1) := by decide +kernel
theorem d_Law_law_133 : decode b_Law_law 133 = .ok (.aload_n 0, 1) := by decide +kernel
theorem d_Law_law_134 : decode b_Law_law 134 = .ok (.iload 4, 2) := by decide +kernel
theorem d_Law_law_136 : decode b_Law_law 136 = .ok (.iconst 3, 1) := by decide +kernel
theorem d_Law_law_137 : decode b_Law_law 137 = .ok (.iadd, 1) := by decide +kernel
theorem d_Law_law_138 : decode b_Law_law 138 = .ok (.iaload, 1) := by decide +kernel
theorem d_Law_law_139 : decode b_Law_law 139 = .ok (.aload_n 0, 1) := by decide +kernel
theorem d_Law_law_140 : decode b_Law_law 140 = .ok (.iload 4, 2) := by decide +kernel
theorem d_Law_law_142 : decode b_Law_law 142 = .ok (.iconst 4, 1) := by decide +kernel
theorem d_Law_law_143 : decode b_Law_law 143 = .ok (.iadd, 1) := by decide +kernel
theorem d_Law_law_144 : decode b_Law_law 144 = .ok (.iaload, 1) := by decide +kernel
theorem d_Law_law_145 : decode b_Law_law 145 = .ok (.aload_n 3, 1) := by decide +kernel
theorem d_Law_law_146 : decode b_Law_law 146 = .ok (.invokestatic 75, 3) := by decide +kernel
theorem d_Law_law_149 : decode b_Law_law 149 = .ok (.istore 5, 2) := by decide +kernel
theorem d_Law_law_151 : decode b_Law_law 151 = .ok (.aload_n 2, 1) := by decide +kernel
theorem d_Law_law_152 : decode b_Law_law 152 = .ok (.aload_n 0, 1) := by decide +kernel
theorem d_Law_law_153 : decode b_Law_law 153 = .ok (.iload 4, 2) := by decide +kernel
theorem d_Law_law_155 : decode b_Law_law 155 = .ok (.iconst 1, 1) := by decide +kernel
theorem d_Law_law_156 : decode b_Law_law 156 = .ok (.iadd, 1) := by decide +kernel
theorem d_Law_law_157 : decode b_Law_law 157 = .ok (.iaload, 1) := by decide +kernel
theorem d_Law_law_158 : decode b_Law_law 158 = .ok (.aload_n 0, 1) := by decide +kernel
theorem d_Law_law_159 : decode b_Law_law 159 = .ok (.iload 4, 2) := by decide +kernel
theorem d_Law_law_161 : decode b_Law_law 161 = .ok (.iconst 2, 1) := by decide +kernel
theorem d_Law_law_162 : decode b_Law_law 162 = .ok (.iadd, 1) := by decide +kernel
theorem d_Law_law_163 : decode b_Law_law 163 = .ok (.iaload, 1) := by decide +kernel
theorem d_Law_law_164 : decode b_Law_law 164 = .ok (.aload_n 0, 1) := by decide +kernel
theorem d_Law_law_165 : decode b_Law_law 165 = .ok (.iload 4, 2) := by decide +kernel
theorem d_Law_law_167 : decode b_Law_law 167 = .ok (.iconst 3, 1) := by decide +kernel
theorem d_Law_law_168 : decode b_Law_law 168 = .ok (.iadd, 1) := by decide +kernel
theorem d_Law_law_169 : decode b_Law_law 169 = .ok (.iaload, 1) := by decide +kernel
theorem d_Law_law_170 : decode b_Law_law 170 = .ok (.aload_n 0, 1) := by decide +kernel
theorem d_Law_law_171 : decode b_Law_law 171 = .ok (.iload 4, 2) := by decide +kernel
theorem d_Law_law_173 : decode b_Law_law 173 = .ok (.iconst 4, 1) := by decide +kernel
theorem d_Law_law_174 : decode b_Law_law 174 = .ok (.iadd, 1) := by decide +kernel
theorem d_Law_law_175 : decode b_Law_law 175 = .ok (.iaload, 1) := by decide +kernel
theorem d_Law_law_176 : decode b_Law_law 176 = .ok (.invokevirtual 80, 3) := by decide +kernel
theorem d_Law_law_179 : decode b_Law_law 179 = .ok (.istore 6, 2) := by decide +kernel
theorem d_Law_law_181 : decode b_Law_law 181 = .ok (.goto 668, 3) := by decide +kernel
theorem d_Law_law_184 : decode b_Law_law 184 = .ok (.aload_n 1, 1) := by decide +kernel
theorem d_Law_law_185 : decode b_Law_law 185 = .ok (.aload_n 0, 1) := by decide +kernel
theorem d_Law_law_186 : decode b_Law_law 186 = .ok (.iload 4, 2) := by decide +kernel
theorem d_Law_law_188 : decode b_Law_law 188 = .ok (.iconst 1, 1) := by decide +kernel
theorem d_Law_law_189 : decode b_Law_law 189 = .ok (.iadd, 1) := by decide +kernel
theorem d_Law_law_190 : decode b_Law_law 190 = .ok (.iaload, 1) := by decide +kernel
theorem d_Law_law_191 : decode b_Law_law 191 = .ok (.aload_n 0, 1) := by decide +kernel
theorem d_Law_law_192 : decode b_Law_law 192 = .ok (.iload 4, 2) := by decide +kernel
theorem d_Law_law_194 : decode b_Law_law 194 = .ok (.iconst 2, 1) := by decide +kernel
theorem d_Law_law_195 : decode b_Law_law 195 = .ok (.iadd, 1) := by decide +kernel
theorem d_Law_law_196 : decode b_Law_law 196 = .ok (.iaload, 1) := by decide +kernel
theorem d_Law_law_197 : decode b_Law_law 197 = .ok (.aload_n 0, 1) := by decide +kernel
theorem d_Law_law_198 : decode b_Law_law 198 = .ok (.iload 4, 2) := by decide +kernel
theorem d_Law_law_200 : decode b_Law_law 200 = .ok (.iconst 3, 1) := by decide +kernel
theorem d_Law_law_201 : decode b_Law_law 201 = .ok (.iadd, 1) := by decide +kernel
theorem d_Law_law_202 : decode b_Law_law 202 = .ok (.iaload, 1) := by decide +kernel
theorem d_Law_law_203 : decode b_Law_law 203 = .ok (.aload_n 0, 1) := by decide +kernel
theorem d_Law_law_204 : decode b_Law_law 204 = .ok (.iload 4, 2) := by decide +kernel
theorem d_Law_law_206 : decode b_Law_law 206 = .ok (.iconst 4, 1) := by decide +kernel
theorem d_Law_law_207 : decode b_Law_law 207 = .ok (.iadd, 1) := by decide +kernel
theorem d_Law_law_208 : decode b_Law_law 208 = .ok (.iaload, 1) := by decide +kernel
theorem d_Law_law_209 : decode b_Law_law 209 = .ok (.aload_n 3, 1) := by decide +kernel
theorem d_Law_law_210 : decode b_Law_law 210 = .ok (.invokestatic 81, 3) := by decide +kernel
theorem d_Law_law_213 : decode b_Law_law 213 = .ok (.istore 5, 2) := by decide +kernel
theorem d_Law_law_215 : decode b_Law_law 215 = .ok (.aload_n 2, 1) := by decide +kernel
theorem d_Law_law_216 : decode b_Law_law 216 = .ok (.aload_n 0, 1) := by decide +kernel
theorem d_Law_law_217 : decode b_Law_law 217 = .ok (.iload 4, 2) := by decide +kernel
theorem d_Law_law_219 : decode b_Law_law 219 = .ok (.iconst 1, 1) := by decide +kernel
theorem d_Law_law_220 : decode b_Law_law 220 = .ok (.iadd, 1) := by decide +kernel
theorem d_Law_law_221 : decode b_Law_law 221 = .ok (.iaload, 1) := by decide +kernel
theorem d_Law_law_222 : decode b_Law_law 222 = .ok (.aload_n 0, 1) := by decide +kernel
theorem d_Law_law_223 : decode b_Law_law 223 = .ok (.iload 4, 2) := by decide +kernel
theorem d_Law_law_225 : decode b_Law_law 225 = .ok (.iconst 2, 1) := by decide +kernel
theorem d_Law_law_226 : decode b_Law_law 226 = .ok (.iadd, 1) := by decide +kernel
theorem d_Law_law_227 : decode b_Law_law 227 = .ok (.iaload, 1) := by decide +kernel
theorem d_Law_law_228 : decode b_Law_law 228 = .ok (.aload_n 0, 1) := by decide +kernel
theorem d_Law_law_229 : decode b_Law_law 229 = .ok (.iload 4, 2) := by decide +kernel
theorem d_Law_law_231 : decode b_Law_law 231 = .ok (.iconst 3, 1) := by decide +kernel
theorem d_Law_law_232 : decode b_Law_law 232 = .ok (.iadd, 1) := by decide +kernel
theorem d_Law_law_233 : decode b_Law_law 233 = .ok (.iaload, 1) := by decide +kernel
theorem d_Law_law_234 : decode b_Law_law 234 = .ok (.aload_n 0, 1) := by decide +kernel
theorem d_Law_law_235 : decode b_Law_law 235 = .ok (.iload 4, 2) := by decide +kernel
theorem d_Law_law_237 : decode b_Law_law 237 = .ok (.iconst 4, 1) := by decide +kernel
theorem d_Law_law_238 : decode b_Law_law 238 = .ok (.iadd, 1) := by decide +kernel
theorem d_Law_law_239 : decode b_Law_law 239 = .ok (.iaload, 1) := by decide +kernel
theorem d_Law_law_240 : decode b_Law_law 240 = .ok (.invokevirtual 83, 3) := by decide +kernel
theorem d_Law_law_243 : decode b_Law_law 243 = .ok (.istore 6, 2) := by decide +kernel
theorem d_Law_law_245 : decode b_Law_law 245 = .ok (.goto 604, 3) := by decide +kernel
theorem d_Law_law_248 : decode b_Law_law 248 = .ok (.aload_n 1, 1) := by decide +kernel
theorem d_Law_law_249 : decode b_Law_law 249 = .ok (.aload_n 0, 1) := by decide +kernel
theorem d_Law_law_250 : decode b_Law_law 250 = .ok (.iload 4, 2) := by decide +kernel
theorem d_Law_law_252 : decode b_Law_law 252 = .ok (.iconst 1, 1) := by decide +kernel
theorem d_Law_law_253 : decode b_Law_law 253 = .ok (.iadd, 1) := by decide +kernel
theorem d_Law_law_254 : decode b_Law_law 254 = .ok (.iaload, 1) := by decide +kernel
theorem d_Law_law_255 : decode b_Law_law 255 = .ok (.aload_n 0, 1) := by decide +kernel
theorem d_Law_law_256 : decode b_Law_law 256 = .ok (.iload 4, 2) := by decide +kernel
theorem d_Law_law_258 : decode b_Law_law 258 = .ok (.iconst 2, 1) := by decide +kernel
theorem d_Law_law_259 : decode b_Law_law 259 = .ok (.iadd, 1) := by decide +kernel
theorem d_Law_law_260 : decode b_Law_law 260 = .ok (.iaload, 1) := by decide +kernel
theorem d_Law_law_261 : decode b_Law_law 261 = .ok (.aload_n 3, 1) := by decide +kernel
theorem d_Law_law_262 : decode b_Law_law 262 = .ok (.invokestatic 84, 3) := by decide +kernel
theorem d_Law_law_265 : decode b_Law_law 265 = .ok (.istore 5, 2) := by decide +kernel
theorem d_Law_law_267 : decode b_Law_law 267 = .ok (.aload_n 2, 1) := by decide +kernel
theorem d_Law_law_268 : decode b_Law_law 268 = .ok (.aload_n 0, 1) := by decide +kernel
theorem d_Law_law_269 : decode b_Law_law 269 = .ok (.iload 4, 2) := by decide +kernel
theorem d_Law_law_271 : decode b_Law_law 271 = .ok (.iconst 1, 1) := by decide +kernel
theorem d_Law_law_272 : decode b_Law_law 272 = .ok (.iadd, 1) := by decide +kernel
theorem d_Law_law_273 : decode b_Law_law 273 = .ok (.iaload, 1) := by decide +kernel
theorem d_Law_law_274 : decode b_Law_law 274 = .ok (.aload_n 0, 1) := by decide +kernel
theorem d_Law_law_275 : decode b_Law_law 275 = .ok (.iload 4, 2) := by decide +kernel
theorem d_Law_law_277 : decode b_Law_law 277 = .ok (.iconst 2, 1) := by decide +kernel
theorem d_Law_law_278 : decode b_Law_law 278 = .ok (.iadd, 1) := by decide +kernel
theorem d_Law_law_279 : decode b_Law_law 279 = .ok (.iaload, 1) := by decide +kernel
theorem d_Law_law_280 : decode b_Law_law 280 = .ok (.invokevirtual 87, 3) := by decide +kernel
theorem d_Law_law_283 : decode b_Law_law 283 = .ok (.istore 6, 2) := by decide +kernel
theorem d_Law_law_285 : decode b_Law_law 285 = .ok (.goto 564, 3) := by decide +kernel
theorem d_Law_law_288 : decode b_Law_law 288 = .ok (.aload_n 1, 1) := by decide +kernel
theorem d_Law_law_289 : decode b_Law_law 289 = .ok (.aload_n 0, 1) := by decide +kernel
theorem d_Law_law_290 : decode b_Law_law 290 = .ok (.iload 4, 2) := by decide +kernel
theorem d_Law_law_292 : decode b_Law_law 292 = .ok (.iconst 1, 1) := by decide +kernel
theorem d_Law_law_293 : decode b_Law_law 293 = .ok (.iadd, 1) := by decide +kernel
theorem d_Law_law_294 : decode b_Law_law 294 = .ok (.iaload, 1) := by decide +kernel
theorem d_Law_law_295 : decode b_Law_law 295 = .ok (.aload_n 0, 1) := by decide +kernel
theorem d_Law_law_296 : decode b_Law_law 296 = .ok (.iload 4, 2) := by decide +kernel
theorem d_Law_law_298 : decode b_Law_law 298 = .ok (.iconst 2, 1) := by decide +kernel
theorem d_Law_law_299 : decode b_Law_law 299 = .ok (.iadd, 1) := by decide +kernel
theorem d_Law_law_300 : decode b_Law_law 300 = .ok (.iaload, 1) := by decide +kernel
theorem d_Law_law_301 : decode b_Law_law 301 = .ok (.aload_n 3, 1) := by decide +kernel
theorem d_Law_law_302 : decode b_Law_law 302 = .ok (.invokestatic 88, 3) := by decide +kernel
theorem d_Law_law_305 : decode b_Law_law 305 = .ok (.istore 5, 2) := by decide +kernel
theorem d_Law_law_307 : decode b_Law_law 307 = .ok (.aload_n 2, 1) := by decide +kernel
theorem d_Law_law_308 : decode b_Law_law 308 = .ok (.aload_n 0, 1) := by decide +kernel
theorem d_Law_law_309 : decode b_Law_law 309 = .ok (.iload 4, 2) := by decide +kernel
theorem d_Law_law_311 : decode b_Law_law 311 = .ok (.iconst 1, 1) := by decide +kernel
theorem d_Law_law_312 : decode b_Law_law 312 = .ok (.iadd, 1) := by decide +kernel
theorem d_Law_law_313 : decode b_Law_law 313 = .ok (.iaload, 1) := by decide +kernel
theorem d_Law_law_314 : decode b_Law_law 314 = .ok (.aload_n 0, 1) := by decide +kernel
theorem d_Law_law_315 : decode b_Law_law 315 = .ok (.iload 4, 2) := by decide +kernel
theorem d_Law_law_317 : decode b_Law_law 317 = .ok (.iconst 2, 1) := by decide +kernel
theorem d_Law_law_318 : decode b_Law_law 318 = .ok (.iadd, 1) := by decide +kernel
theorem d_Law_law_319 : decode b_Law_law 319 = .ok (.iaload, 1) := by decide +kernel
theorem d_Law_law_320 : decode b_Law_law 320 = .ok (.invokevirtual 90, 3) := by decide +kernel
theorem d_Law_law_323 : decode b_Law_law 323 = .ok (.istore 6, 2) := by decide +kernel
theorem d_Law_law_325 : decode b_Law_law 325 = .ok (.goto 524, 3) := by decide +kernel
theorem d_Law_law_328 : decode b_Law_law 328 = .ok (.aload_n 1, 1) := by decide +kernel
theorem d_Law_law_329 : decode b_Law_law 329 = .ok (.aload_n 0, 1) := by decide +kernel
theorem d_Law_law_330 : decode b_Law_law 330 = .ok (.iload 4, 2) := by decide +kernel
theorem d_Law_law_332 : decode b_Law_law 332 = .ok (.iconst 1, 1) := by decide +kernel
theorem d_Law_law_333 : decode b_Law_law 333 = .ok (.iadd, 1) := by decide +kernel
theorem d_Law_law_334 : decode b_Law_law 334 = .ok (.iaload, 1) := by decide +kernel
theorem d_Law_law_335 : decode b_Law_law 335 = .ok (.aload_n 3, 1) := by decide +kernel
theorem d_Law_law_336 : decode b_Law_law 336 = .ok (.invokestatic 91, 3) := by decide +kernel
theorem d_Law_law_339 : decode b_Law_law 339 = .ok (.istore 5, 2) := by decide +kernel
theorem d_Law_law_341 : decode b_Law_law 341 = .ok (.aload_n 2, 1) := by decide +kernel
theorem d_Law_law_342 : decode b_Law_law 342 = .ok (.aload_n 0, 1) := by decide +kernel
theorem d_Law_law_343 : decode b_Law_law 343 = .ok (.iload 4, 2) := by decide +kernel
theorem d_Law_law_345 : decode b_Law_law 345 = .ok (.iconst 1, 1) := by decide +kernel
theorem d_Law_law_346 : decode b_Law_law 346 = .ok (.iadd, 1) := by decide +kernel
theorem d_Law_law_347 : decode b_Law_law 347 = .ok (.iaload, 1) := by decide +kernel
theorem d_Law_law_348 : decode b_Law_law 348 = .ok (.invokevirtual 94, 3) := by decide +kernel
theorem d_Law_law_351 : decode b_Law_law 351 = .ok (.istore 6, 2) := by decide +kernel
theorem d_Law_law_353 : decode b_Law_law 353 = .ok (.goto 496, 3) := by decide +kernel
theorem d_Law_law_356 : decode b_Law_law 356 = .ok (.aload_n 1, 1) := by decide +kernel
theorem d_Law_law_357 : decode b_Law_law 357 = .ok (.aload_n 0, 1) := by decide +kernel
theorem d_Law_law_358 : decode b_Law_law 358 = .ok (.iload 4, 2) := by decide +kernel
theorem d_Law_law_360 : decode b_Law_law 360 = .ok (.iconst 1, 1) := by decide +kernel
theorem d_Law_law_361 : decode b_Law_law 361 = .ok (.iadd, 1) := by decide +kernel
theorem d_Law_law_362 : decode b_Law_law 362 = .ok (.iaload, 1) := by decide +kernel
theorem d_Law_law_363 : decode b_Law_law 363 = .ok (.aload_n 0, 1) := by decide +kernel
theorem d_Law_law_364 : decode b_Law_law 364 = .ok (.iload 4, 2) := by decide +kernel
theorem d_Law_law_366 : decode b_Law_law 366 = .ok (.iconst 2, 1) := by decide +kernel
theorem d_Law_law_367 : decode b_Law_law 367 = .ok (.iadd, 1) := by decide +kernel
theorem d_Law_law_368 : decode b_Law_law 368 = .ok (.iaload, 1) := by decide +kernel
theorem d_Law_law_369 : decode b_Law_law 369 = .ok (.aload_n 0, 1) := by decide +kernel
theorem d_Law_law_370 : decode b_Law_law 370 = .ok (.iload 4, 2) := by decide +kernel
theorem d_Law_law_372 : decode b_Law_law 372 = .ok (.iconst 3, 1) := by decide +kernel
theorem d_Law_law_373 : decode b_Law_law 373 = .ok (.iadd, 1) := by decide +kernel
theorem d_Law_law_374 : decode b_Law_law 374 = .ok (.iaload, 1) := by decide +kernel
theorem d_Law_law_375 : decode b_Law_law 375 = .ok (.aload_n 3, 1) := by decide +kernel
theorem d_Law_law_376 : decode b_Law_law 376 = .ok (.invokestatic 95, 3) := by decide +kernel
theorem d_Law_law_379 : decode b_Law_law 379 = .ok (.istore 5, 2) := by decide +kernel
theorem d_Law_law_381 : decode b_Law_law 381 = .ok (.aload_n 2, 1) := by decide +kernel
theorem d_Law_law_382 : decode b_Law_law 382 = .ok (.aload_n 0, 1) := by decide +kernel
theorem d_Law_law_383 : decode b_Law_law 383 = .ok (.iload 4, 2) := by decide +kernel
theorem d_Law_law_385 : decode b_Law_law 385 = .ok (.iconst 1, 1) := by decide +kernel
theorem d_Law_law_386 : decode b_Law_law 386 = .ok (.iadd, 1) := by decide +kernel
theorem d_Law_law_387 : decode b_Law_law 387 = .ok (.iaload, 1) := by decide +kernel
theorem d_Law_law_388 : decode b_Law_law 388 = .ok (.aload_n 0, 1) := by decide +kernel
theorem d_Law_law_389 : decode b_Law_law 389 = .ok (.iload 4, 2) := by decide +kernel
theorem d_Law_law_391 : decode b_Law_law 391 = .ok (.iconst 2, 1) := by decide +kernel
theorem d_Law_law_392 : decode b_Law_law 392 = .ok (.iadd, 1) := by decide +kernel
theorem d_Law_law_393 : decode b_Law_law 393 = .ok (.iaload, 1) := by decide +kernel
theorem d_Law_law_394 : decode b_Law_law 394 = .ok (.aload_n 0, 1) := by decide +kernel
theorem d_Law_law_395 : decode b_Law_law 395 = .ok (.iload 4, 2) := by decide +kernel
theorem d_Law_law_397 : decode b_Law_law 397 = .ok (.iconst 3, 1) := by decide +kernel
theorem d_Law_law_398 : decode b_Law_law 398 = .ok (.iadd, 1) := by decide +kernel
theorem d_Law_law_399 : decode b_Law_law 399 = .ok (.iaload, 1) := by decide +kernel
theorem d_Law_law_400 : decode b_Law_law 400 = .ok (.invokevirtual 98, 3) := by decide +kernel
theorem d_Law_law_403 : decode b_Law_law 403 = .ok (.istore 6, 2) := by decide +kernel
theorem d_Law_law_405 : decode b_Law_law 405 = .ok (.goto 444, 3) := by decide +kernel
theorem d_Law_law_408 : decode b_Law_law 408 = .ok (.aload_n 1, 1) := by decide +kernel
theorem d_Law_law_409 : decode b_Law_law 409 = .ok (.aload_n 0, 1) := by decide +kernel
theorem d_Law_law_410 : decode b_Law_law 410 = .ok (.iload 4, 2) := by decide +kernel
theorem d_Law_law_412 : decode b_Law_law 412 = .ok (.iconst 1, 1) := by decide +kernel
theorem d_Law_law_413 : decode b_Law_law 413 = .ok (.iadd, 1) := by decide +kernel
theorem d_Law_law_414 : decode b_Law_law 414 = .ok (.iaload, 1) := by decide +kernel
theorem d_Law_law_415 : decode b_Law_law 415 = .ok (.aload_n 0, 1) := by decide +kernel
theorem d_Law_law_416 : decode b_Law_law 416 = .ok (.iload 4, 2) := by decide +kernel
theorem d_Law_law_418 : decode b_Law_law 418 = .ok (.iconst 2, 1) := by decide +kernel
theorem d_Law_law_419 : decode b_Law_law 419 = .ok (.iadd, 1) := by decide +kernel
theorem d_Law_law_420 : decode b_Law_law 420 = .ok (.iaload, 1) := by decide +kernel
theorem d_Law_law_421 : decode b_Law_law 421 = .ok (.aload_n 0, 1) := by decide +kernel
theorem d_Law_law_422 : decode b_Law_law 422 = .ok (.iload 4, 2) := by decide +kernel
theorem d_Law_law_424 : decode b_Law_law 424 = .ok (.iconst 3, 1) := by decide +kernel
theorem d_Law_law_425 : decode b_Law_law 425 = .ok (.iadd, 1) := by decide +kernel
theorem d_Law_law_426 : decode b_Law_law 426 = .ok (.iaload, 1) := by decide +kernel
theorem d_Law_law_427 : decode b_Law_law 427 = .ok (.aload_n 3, 1) := by decide +kernel
theorem d_Law_law_428 : decode b_Law_law 428 = .ok (.invokestatic 99, 3) := by decide +kernel
theorem d_Law_law_431 : decode b_Law_law 431 = .ok (.istore 5, 2) := by decide +kernel
theorem d_Law_law_433 : decode b_Law_law 433 = .ok (.aload_n 2, 1) := by decide +kernel
theorem d_Law_law_434 : decode b_Law_law 434 = .ok (.aload_n 0, 1) := by decide +kernel
theorem d_Law_law_435 : decode b_Law_law 435 = .ok (.iload 4, 2) := by decide +kernel
theorem d_Law_law_437 : decode b_Law_law 437 = .ok (.iconst 1, 1) := by decide +kernel
theorem d_Law_law_438 : decode b_Law_law 438 = .ok (.iadd, 1) := by decide +kernel
theorem d_Law_law_439 : decode b_Law_law 439 = .ok (.iaload, 1) := by decide +kernel
theorem d_Law_law_440 : decode b_Law_law 440 = .ok (.aload_n 0, 1) := by decide +kernel
theorem d_Law_law_441 : decode b_Law_law 441 = .ok (.iload 4, 2) := by decide +kernel
theorem d_Law_law_443 : decode b_Law_law 443 = .ok (.iconst 2, 1) := by decide +kernel
theorem d_Law_law_444 : decode b_Law_law 444 = .ok (.iadd, 1) := by decide +kernel
theorem d_Law_law_445 : decode b_Law_law 445 = .ok (.iaload, 1) := by decide +kernel
theorem d_Law_law_446 : decode b_Law_law 446 = .ok (.aload_n 0, 1) := by decide +kernel
theorem d_Law_law_447 : decode b_Law_law 447 = .ok (.iload 4, 2) := by decide +kernel
theorem d_Law_law_449 : decode b_Law_law 449 = .ok (.iconst 3, 1) := by decide +kernel
theorem d_Law_law_450 : decode b_Law_law 450 = .ok (.iadd, 1) := by decide +kernel
theorem d_Law_law_451 : decode b_Law_law 451 = .ok (.iaload, 1) := by decide +kernel
theorem d_Law_law_452 : decode b_Law_law 452 = .ok (.invokevirtual 101, 3) := by decide +kernel
theorem d_Law_law_455 : decode b_Law_law 455 = .ok (.istore 6, 2) := by decide +kernel
theorem d_Law_law_457 : decode b_Law_law 457 = .ok (.aload_n 2, 1) := by decide +kernel
theorem d_Law_law_458 : decode b_Law_law 458 = .ok (.invokevirtual 102, 3) := by decide +kernel
theorem d_Law_law_461 : decode b_Law_law 461 = .ok (.iload 5, 2) := by decide +kernel
theorem d_Law_law_463 : decode b_Law_law 463 = .ok (.if_icmp .eq 5, 3) := by decide +kernel
theorem d_Law_law_466 : decode b_Law_law 466 = .ok (.iconst 0, 1) := by decide +kernel
theorem d_Law_law_467 : decode b_Law_law 467 = .ok (.ireturn, 1) := by decide +kernel
theorem d_Law_law_468 : decode b_Law_law 468 = .ok (.iload 5, 2) := by decide +kernel
theorem d_Law_law_470 : decode b_Law_law 470 = .ok (.ifCond .ne 15, 3) := by decide +kernel
theorem d_Law_law_473 : decode b_Law_law 473 = .ok (.aload_n 3, 1) := by decide +kernel
theorem d_Law_law_474 : decode b_Law_law 474 = .ok (.iconst 0, 1) := by decide +kernel
theorem d_Law_law_475 : decode b_Law_law 475 = .ok (.laload, 1) := by decide +kernel
theorem d_Law_law_476 : decode b_Law_law 476 = .ok (.iload 6, 2) := by decide +kernel
theorem d_Law_law_478 : decode b_Law_law 478 = .ok (.i2l, 1) := by decide +kernel
theorem d_Law_law_479 : decode b_Law_law 479 = .ok (.lcmp, 1) := by decide +kernel
theorem d_Law_law_480 : decode b_Law_law 480 = .ok (.ifCond .eq 5, 3) := by decide +kernel
theorem d_Law_law_483 : decode b_Law_law 483 = .ok (.iconst 0, 1) := by decide +kernel
theorem d_Law_law_484 : decode b_Law_law 484 = .ok (.ireturn, 1) := by decide +kernel
theorem d_Law_law_485 : decode b_Law_law 485 = .ok (.goto 364, 3) := by decide +kernel
theorem d_Law_law_488 : decode b_Law_law 488 = .ok (.aload_n 1, 1) := by decide +kernel
theorem d_Law_law_489 : decode b_Law_law 489 = .ok (.aload_n 0, 1) := by decide +kernel
theorem d_Law_law_490 : decode b_Law_law 490 = .ok (.iload 4, 2) := by decide +kernel
theorem d_Law_law_492 : decode b_Law_law 492 = .ok (.iconst 1, 1) := by decide +kernel
theorem d_Law_law_493 : decode b_Law_law 493 = .ok (.iadd, 1) := by decide +kernel
theorem d_Law_law_494 : decode b_Law_law 494 = .ok (.iaload, 1) := by decide +kernel
theorem d_Law_law_495 : decode b_Law_law 495 = .ok (.aload_n 0, 1) := by decide +kernel
theorem d_Law_law_496 : decode b_Law_law 496 = .ok (.iload 4, 2) := by decide +kernel
theorem d_Law_law_498 : decode b_Law_law 498 = .ok (.iconst 2, 1) := by decide +kernel
theorem d_Law_law_499 : decode b_Law_law 499 = .ok (.iadd, 1) := by decide +kernel
theorem d_Law_law_500 : decode b_Law_law 500 = .ok (.iaload, 1) := by decide +kernel
theorem d_Law_law_501 : decode b_Law_law 501 = .ok (.aload_n 3, 1) := by decide +kernel
theorem d_Law_law_502 : decode b_Law_law 502 = .ok (.invokestatic 106, 3) := by decide +kernel
theorem d_Law_law_505 : decode b_Law_law 505 = .ok (.istore 5, 2) := by decide +kernel
theorem d_Law_law_507 : decode b_Law_law 507 = .ok (.aload_n 2, 1) := by decide +kernel
theorem d_Law_law_508 : decode b_Law_law 508 = .ok (.aload_n 0, 1) := by decide +kernel
theorem d_Law_law_509 : decode b_Law_law 509 = .ok (.iload 4, 2) := by decide +kernel
theorem d_Law_law_511 : decode b_Law_law 511 = .ok (.iconst 1, 1) := by decide +kernel
theorem d_Law_law_512 : decode b_Law_law 512 = .ok (.iadd, 1) := by decide +kernel
theorem d_Law_law_513 : decode b_Law_law 513 = .ok (.iaload, 1) := by decide +kernel
theorem d_Law_law_514 : decode b_Law_law 514 = .ok (.aload_n 0, 1) := by decide +kernel
theorem d_Law_law_515 : decode b_Law_law 515 = .ok (.iload 4, 2) := by decide +kernel
theorem d_Law_law_517 : decode b_Law_law 517 = .ok (.iconst 2, 1) := by decide +kernel
theorem d_Law_law_518 : decode b_Law_law 518 = .ok (.iadd, 1) := by decide +kernel
theorem d_Law_law_519 : decode b_Law_law 519 = .ok (.iaload, 1) := by decide +kernel
theorem d_Law_law_520 : decode b_Law_law 520 = .ok (.invokevirtual 108, 3) := by decide +kernel
theorem d_Law_law_523 : decode b_Law_law 523 = .ok (.istore 6, 2) := by decide +kernel
theorem d_Law_law_525 : decode b_Law_law 525 = .ok (.goto 324, 3) := by decide +kernel
theorem d_Law_law_528 : decode b_Law_law 528 = .ok (.aload_n 1, 1) := by decide +kernel
theorem d_Law_law_529 : decode b_Law_law 529 = .ok (.aload_n 0, 1) := by decide +kernel
theorem d_Law_law_530 : decode b_Law_law 530 = .ok (.iload 4, 2) := by decide +kernel
theorem d_Law_law_532 : decode b_Law_law 532 = .ok (.iconst 1, 1) := by decide +kernel
theorem d_Law_law_533 : decode b_Law_law 533 = .ok (.iadd, 1) := by decide +kernel
theorem d_Law_law_534 : decode b_Law_law 534 = .ok (.iaload, 1) := by decide +kernel
theorem d_Law_law_535 : decode b_Law_law 535 = .ok (.aload_n 0, 1) := by decide +kernel
theorem d_Law_law_536 : decode b_Law_law 536 = .ok (.iload 4, 2) := by decide +kernel
theorem d_Law_law_538 : decode b_Law_law 538 = .ok (.iconst 2, 1) := by decide +kernel
theorem d_Law_law_539 : decode b_Law_law 539 = .ok (.iadd, 1) := by decide +kernel
theorem d_Law_law_540 : decode b_Law_law 540 = .ok (.iaload, 1) := by decide +kernel
theorem d_Law_law_541 : decode b_Law_law 541 = .ok (.aload_n 3, 1) := by decide +kernel
theorem d_Law_law_542 : decode b_Law_law 542 = .ok (.invokestatic 109, 3) := by decide +kernel
theorem d_Law_law_545 : decode b_Law_law 545 = .ok (.istore 5, 2) := by decide +kernel
theorem d_Law_law_547 : decode b_Law_law 547 = .ok (.aload_n 2, 1) := by decide +kernel
theorem d_Law_law_548 : decode b_Law_law 548 = .ok (.aload_n 0, 1) := by decide +kernel
theorem d_Law_law_549 : decode b_Law_law 549 = .ok (.iload 4, 2) := by decide +kernel
theorem d_Law_law_551 : decode b_Law_law 551 = .ok (.iconst 1, 1) := by decide +kernel
theorem d_Law_law_552 : decode b_Law_law 552 = .ok (.iadd, 1) := by decide +kernel
theorem d_Law_law_553 : decode b_Law_law 553 = .ok (.iaload, 1) := by decide +kernel
theorem d_Law_law_554 : decode b_Law_law 554 = .ok (.aload_n 0, 1) := by decide +kernel
theorem d_Law_law_555 : decode b_Law_law 555 = .ok (.iload 4, 2) := by decide +kernel
theorem d_Law_law_557 : decode b_Law_law 557 = .ok (.iconst 2, 1) := by decide +kernel
theorem d_Law_law_558 : decode b_Law_law 558 = .ok (.iadd, 1) := by decide +kernel
theorem d_Law_law_559 : decode b_Law_law 559 = .ok (.iaload, 1) := by decide +kernel
theorem d_Law_law_560 : decode b_Law_law 560 = .ok (.invokevirtual 111, 3) := by decide +kernel
theorem d_Law_law_563 : decode b_Law_law 563 = .ok (.istore 6, 2) := by decide +kernel
theorem d_Law_law_565 : decode b_Law_law 565 = .ok (.goto 284, 3) := by decide +kernel
theorem d_Law_law_568 : decode b_Law_law 568 = .ok (.aload_n 1, 1) := by decide +kernel
theorem d_Law_law_569 : decode b_Law_law 569 = .ok (.aload_n 0, 1) := by decide +kernel
theorem d_Law_law_570 : decode b_Law_law 570 = .ok (.iload 4, 2) := by decide +kernel
theorem d_Law_law_572 : decode b_Law_law 572 = .ok (.iconst 1, 1) := by decide +kernel
theorem d_Law_law_573 : decode b_Law_law 573 = .ok (.iadd, 1) := by decide +kernel
theorem d_Law_law_574 : decode b_Law_law 574 = .ok (.iaload, 1) := by decide +kernel
theorem d_Law_law_575 : decode b_Law_law 575 = .ok (.aload_n 0, 1) := by decide +kernel
theorem d_Law_law_576 : decode b_Law_law 576 = .ok (.iload 4, 2) := by decide +kernel
theorem d_Law_law_578 : decode b_Law_law 578 = .ok (.iconst 2, 1) := by decide +kernel
theorem d_Law_law_579 : decode b_Law_law 579 = .ok (.iadd, 1) := by decide +kernel
theorem d_Law_law_580 : decode b_Law_law 580 = .ok (.iaload, 1) := by decide +kernel
theorem d_Law_law_581 : decode b_Law_law 581 = .ok (.aload_n 0, 1) := by decide +kernel
theorem d_Law_law_582 : decode b_Law_law 582 = .ok (.iload 4, 2) := by decide +kernel
theorem d_Law_law_584 : decode b_Law_law 584 = .ok (.iconst 3, 1) := by decide +kernel
theorem d_Law_law_585 : decode b_Law_law 585 = .ok (.iadd, 1) := by decide +kernel
theorem d_Law_law_586 : decode b_Law_law 586 = .ok (.iaload, 1) := by decide +kernel
theorem d_Law_law_587 : decode b_Law_law 587 = .ok (.aload_n 3, 1) := by decide +kernel
theorem d_Law_law_588 : decode b_Law_law 588 = .ok (.invokestatic 112, 3) := by decide +kernel
theorem d_Law_law_591 : decode b_Law_law 591 = .ok (.istore 5, 2) := by decide +kernel
theorem d_Law_law_593 : decode b_Law_law 593 = .ok (.aload_n 2, 1) := by decide +kernel
theorem d_Law_law_594 : decode b_Law_law 594 = .ok (.aload_n 0, 1) := by decide +kernel
theorem d_Law_law_595 : decode b_Law_law 595 = .ok (.iload 4, 2) := by decide +kernel
theorem d_Law_law_597 : decode b_Law_law 597 = .ok (.iconst 1, 1) := by decide +kernel
theorem d_Law_law_598 : decode b_Law_law 598 = .ok (.iadd, 1) := by decide +kernel
theorem d_Law_law_599 : decode b_Law_law 599 = .ok (.iaload, 1) := by decide +kernel
theorem d_Law_law_600 : decode b_Law_law 600 = .ok (.aload_n 0, 1) := by decide +kernel
theorem d_Law_law_601 : decode b_Law_law 601 = .ok (.iload 4, 2) := by decide +kernel
theorem d_Law_law_603 : decode b_Law_law 603 = .ok (.iconst 2, 1) := by decide +kernel
theorem d_Law_law_604 : decode b_Law_law 604 = .ok (.iadd, 1) := by decide +kernel
theorem d_Law_law_605 : decode b_Law_law 605 = .ok (.iaload, 1) := by decide +kernel
theorem d_Law_law_606 : decode b_Law_law 606 = .ok (.aload_n 0, 1) := by decide +kernel
theorem d_Law_law_607 : decode b_Law_law 607 = .ok (.iload 4, 2) := by decide +kernel
theorem d_Law_law_609 : decode b_Law_law 609 = .ok (.iconst 3, 1) := by decide +kernel
theorem d_Law_law_610 : decode b_Law_law 610 = .ok (.iadd, 1) := by decide +kernel
theorem d_Law_law_611 : decode b_Law_law 611 = .ok (.iaload, 1) := by decide +kernel
theorem d_Law_law_612 : decode b_Law_law 612 = .ok (.invokevirtual 114, 3) := by decide +kernel
theorem d_Law_law_615 : decode b_Law_law 615 = .ok (.lstore 6, 2) := by decide +kernel
theorem d_Law_law_617 : decode b_Law_law 617 = .ok (.goto 232, 3) := by decide +kernel
theorem d_Law_law_620 : decode b_Law_law 620 = .ok (.aload_n 1, 1) := by decide +kernel
theorem d_Law_law_621 : decode b_Law_law 621 = .ok (.aload_n 0, 1) := by decide +kernel
theorem d_Law_law_622 : decode b_Law_law 622 = .ok (.iload 4, 2) := by decide +kernel
theorem d_Law_law_624 : decode b_Law_law 624 = .ok (.iconst 1, 1) := by decide +kernel
theorem d_Law_law_625 : decode b_Law_law 625 = .ok (.iadd, 1) := by decide +kernel
theorem d_Law_law_626 : decode b_Law_law 626 = .ok (.iaload, 1) := by decide +kernel
theorem d_Law_law_627 : decode b_Law_law 627 = .ok (.aload_n 0, 1) := by decide +kernel
theorem d_Law_law_628 : decode b_Law_law 628 = .ok (.iload 4, 2) := by decide +kernel
theorem d_Law_law_630 : decode b_Law_law 630 = .ok (.iconst 2, 1) := by decide +kernel
theorem d_Law_law_631 : decode b_Law_law 631 = .ok (.iadd, 1) := by decide +kernel
theorem d_Law_law_632 : decode b_Law_law 632 = .ok (.iaload, 1) := by decide +kernel
theorem d_Law_law_633 : decode b_Law_law 633 = .ok (.aload_n 3, 1) := by decide +kernel
theorem d_Law_law_634 : decode b_Law_law 634 = .ok (.invokestatic 115, 3) := by decide +kernel
theorem d_Law_law_637 : decode b_Law_law 637 = .ok (.istore 5, 2) := by decide +kernel
theorem d_Law_law_639 : decode b_Law_law 639 = .ok (.aload_n 2, 1) := by decide +kernel
theorem d_Law_law_640 : decode b_Law_law 640 = .ok (.aload_n 0, 1) := by decide +kernel
theorem d_Law_law_641 : decode b_Law_law 641 = .ok (.iload 4, 2) := by decide +kernel
theorem d_Law_law_643 : decode b_Law_law 643 = .ok (.iconst 1, 1) := by decide +kernel
theorem d_Law_law_644 : decode b_Law_law 644 = .ok (.iadd, 1) := by decide +kernel
theorem d_Law_law_645 : decode b_Law_law 645 = .ok (.iaload, 1) := by decide +kernel
theorem d_Law_law_646 : decode b_Law_law 646 = .ok (.aload_n 0, 1) := by decide +kernel
theorem d_Law_law_647 : decode b_Law_law 647 = .ok (.iload 4, 2) := by decide +kernel
theorem d_Law_law_649 : decode b_Law_law 649 = .ok (.iconst 2, 1) := by decide +kernel
theorem d_Law_law_650 : decode b_Law_law 650 = .ok (.iadd, 1) := by decide +kernel
theorem d_Law_law_651 : decode b_Law_law 651 = .ok (.iaload, 1) := by decide +kernel
theorem d_Law_law_652 : decode b_Law_law 652 = .ok (.invokevirtual 117, 3) := by decide +kernel
theorem d_Law_law_655 : decode b_Law_law 655 = .ok (.istore 6, 2) := by decide +kernel
theorem d_Law_law_657 : decode b_Law_law 657 = .ok (.goto 192, 3) := by decide +kernel
theorem d_Law_law_660 : decode b_Law_law 660 = .ok (.aload_n 1, 1) := by decide +kernel
theorem d_Law_law_661 : decode b_Law_law 661 = .ok (.aload_n 0, 1) := by decide +kernel
theorem d_Law_law_662 : decode b_Law_law 662 = .ok (.iload 4, 2) := by decide +kernel
theorem d_Law_law_664 : decode b_Law_law 664 = .ok (.iconst 1, 1) := by decide +kernel
theorem d_Law_law_665 : decode b_Law_law 665 = .ok (.iadd, 1) := by decide +kernel
theorem d_Law_law_666 : decode b_Law_law 666 = .ok (.iaload, 1) := by decide +kernel
theorem d_Law_law_667 : decode b_Law_law 667 = .ok (.aload_n 3, 1) := by decide +kernel
theorem d_Law_law_668 : decode b_Law_law 668 = .ok (.invokestatic 118, 3) := by decide +kernel
theorem d_Law_law_671 : decode b_Law_law 671 = .ok (.istore 5, 2) := by decide +kernel
theorem d_Law_law_673 : decode b_Law_law 673 = .ok (.aload_n 2, 1) := by decide +kernel
theorem d_Law_law_674 : decode b_Law_law 674 = .ok (.aload_n 0, 1) := by decide +kernel
theorem d_Law_law_675 : decode b_Law_law 675 = .ok (.iload 4, 2) := by decide +kernel
theorem d_Law_law_677 : decode b_Law_law 677 = .ok (.iconst 1, 1) := by decide +kernel
theorem d_Law_law_678 : decode b_Law_law 678 = .ok (.iadd, 1) := by decide +kernel
theorem d_Law_law_679 : decode b_Law_law 679 = .ok (.iaload, 1) := by decide +kernel
theorem d_Law_law_680 : decode b_Law_law 680 = .ok (.invokevirtual 120, 3) := by decide +kernel
theorem d_Law_law_683 : decode b_Law_law 683 = .ok (.istore 6, 2) := by decide +kernel
theorem d_Law_law_685 : decode b_Law_law 685 = .ok (.goto 164, 3) := by decide +kernel
theorem d_Law_law_688 : decode b_Law_law 688 = .ok (.aload_n 1, 1) := by decide +kernel
theorem d_Law_law_689 : decode b_Law_law 689 = .ok (.aload_n 0, 1) := by decide +kernel
theorem d_Law_law_690 : decode b_Law_law 690 = .ok (.iload 4, 2) := by decide +kernel
theorem d_Law_law_692 : decode b_Law_law 692 = .ok (.iconst 1, 1) := by decide +kernel
theorem d_Law_law_693 : decode b_Law_law 693 = .ok (.iadd, 1) := by decide +kernel
theorem d_Law_law_694 : decode b_Law_law 694 = .ok (.iaload, 1) := by decide +kernel
theorem d_Law_law_695 : decode b_Law_law 695 = .ok (.aload_n 0, 1) := by decide +kernel
theorem d_Law_law_696 : decode b_Law_law 696 = .ok (.iload 4, 2) := by decide +kernel
theorem d_Law_law_698 : decode b_Law_law 698 = .ok (.iconst 2, 1) := by decide +kernel
theorem d_Law_law_699 : decode b_Law_law 699 = .ok (.iadd, 1) := by decide +kernel
theorem d_Law_law_700 : decode b_Law_law 700 = .ok (.iaload, 1) := by decide +kernel
theorem d_Law_law_701 : decode b_Law_law 701 = .ok (.aload_n 0, 1) := by decide +kernel
theorem d_Law_law_702 : decode b_Law_law 702 = .ok (.iload 4, 2) := by decide +kernel
theorem d_Law_law_704 : decode b_Law_law 704 = .ok (.iconst 3, 1) := by decide +kernel
theorem d_Law_law_705 : decode b_Law_law 705 = .ok (.iadd, 1) := by decide +kernel
theorem d_Law_law_706 : decode b_Law_law 706 = .ok (.iaload, 1) := by decide +kernel
theorem d_Law_law_707 : decode b_Law_law 707 = .ok (.aload_n 3, 1) := by decide +kernel
theorem d_Law_law_708 : decode b_Law_law 708 = .ok (.invokestatic 121, 3) := by decide +kernel
theorem d_Law_law_711 : decode b_Law_law 711 = .ok (.istore 5, 2) := by decide +kernel
theorem d_Law_law_713 : decode b_Law_law 713 = .ok (.aload_n 2, 1) := by decide +kernel
theorem d_Law_law_714 : decode b_Law_law 714 = .ok (.aload_n 0, 1) := by decide +kernel
theorem d_Law_law_715 : decode b_Law_law 715 = .ok (.iload 4, 2) := by decide +kernel
theorem d_Law_law_717 : decode b_Law_law 717 = .ok (.iconst 1, 1) := by decide +kernel
theorem d_Law_law_718 : decode b_Law_law 718 = .ok (.iadd, 1) := by decide +kernel
theorem d_Law_law_719 : decode b_Law_law 719 = .ok (.iaload, 1) := by decide +kernel
theorem d_Law_law_720 : decode b_Law_law 720 = .ok (.aload_n 0, 1) := by decide +kernel
theorem d_Law_law_721 : decode b_Law_law 721 = .ok (.iload 4, 2) := by decide +kernel
theorem d_Law_law_723 : decode b_Law_law 723 = .ok (.iconst 2, 1) := by decide +kernel
theorem d_Law_law_724 : decode b_Law_law 724 = .ok (.iadd, 1) := by decide +kernel
theorem d_Law_law_725 : decode b_Law_law 725 = .ok (.iaload, 1) := by decide +kernel
theorem d_Law_law_726 : decode b_Law_law 726 = .ok (.aload_n 0, 1) := by decide +kernel
theorem d_Law_law_727 : decode b_Law_law 727 = .ok (.iload 4, 2) := by decide +kernel
theorem d_Law_law_729 : decode b_Law_law 729 = .ok (.iconst 3, 1) := by decide +kernel
theorem d_Law_law_730 : decode b_Law_law 730 = .ok (.iadd, 1) := by decide +kernel
theorem d_Law_law_731 : decode b_Law_law 731 = .ok (.iaload, 1) := by decide +kernel
theorem d_Law_law_732 : decode b_Law_law 732 = .ok (.invokevirtual 123, 3) := by decide +kernel
theorem d_Law_law_735 : decode b_Law_law 735 = .ok (.istore 6, 2) := by decide +kernel
theorem d_Law_law_737 : decode b_Law_law 737 = .ok (.goto 112, 3) := by decide +kernel
theorem d_Law_law_740 : decode b_Law_law 740 = .ok (.aload_n 1, 1) := by decide +kernel
theorem d_Law_law_741 : decode b_Law_law 741 = .ok (.aload_n 0, 1) := by decide +kernel
theorem d_Law_law_742 : decode b_Law_law 742 = .ok (.iload 4, 2) := by decide +kernel
theorem d_Law_law_744 : decode b_Law_law 744 = .ok (.iconst 1, 1) := by decide +kernel
theorem d_Law_law_745 : decode b_Law_law 745 = .ok (.iadd, 1) := by decide +kernel
theorem d_Law_law_746 : decode b_Law_law 746 = .ok (.iaload, 1) := by decide +kernel
theorem d_Law_law_747 : decode b_Law_law 747 = .ok (.aload_n 3, 1) := by decide +kernel
theorem d_Law_law_748 : decode b_Law_law 748 = .ok (.invokestatic 124, 3) := by decide +kernel
theorem d_Law_law_751 : decode b_Law_law 751 = .ok (.istore 5, 2) := by decide +kernel
theorem d_Law_law_753 : decode b_Law_law 753 = .ok (.aload_n 2, 1) := by decide +kernel
theorem d_Law_law_754 : decode b_Law_law 754 = .ok (.aload_n 0, 1) := by decide +kernel
theorem d_Law_law_755 : decode b_Law_law 755 = .ok (.iload 4, 2) := by decide +kernel
theorem d_Law_law_757 : decode b_Law_law 757 = .ok (.iconst 1, 1) := by decide +kernel
theorem d_Law_law_758 : decode b_Law_law 758 = .ok (.iadd, 1) := by decide +kernel
theorem d_Law_law_759 : decode b_Law_law 759 = .ok (.iaload, 1) := by decide +kernel
theorem d_Law_law_760 : decode b_Law_law 760 = .ok (.invokevirtual 126, 3) := by decide +kernel
theorem d_Law_law_763 : decode b_Law_law 763 = .ok (.istore 6, 2) := by decide +kernel
theorem d_Law_law_765 : decode b_Law_law 765 = .ok (.goto 84, 3) := by decide +kernel
theorem d_Law_law_768 : decode b_Law_law 768 = .ok (.aload_n 1, 1) := by decide +kernel
theorem d_Law_law_769 : decode b_Law_law 769 = .ok (.invokevirtual 127, 3) := by decide +kernel
theorem d_Law_law_772 : decode b_Law_law 772 = .ok (.pop, 1) := by decide +kernel
theorem d_Law_law_773 : decode b_Law_law 773 = .ok (.aload_n 2, 1) := by decide +kernel
theorem d_Law_law_774 : decode b_Law_law 774 = .ok (.invokevirtual 130, 3) := by decide +kernel
theorem d_Law_law_777 : decode b_Law_law 777 = .ok (.pop, 1) := by decide +kernel
theorem d_Law_law_778 : decode b_Law_law 778 = .ok (.goto 71, 3) := by decide +kernel
theorem d_Law_law_781 : decode b_Law_law 781 = .ok (.aload_n 1, 1) := by decide +kernel
theorem d_Law_law_782 : decode b_Law_law 782 = .ok (.aload_n 0, 1) := by decide +kernel
theorem d_Law_law_783 : decode b_Law_law 783 = .ok (.iload 4, 2) := by decide +kernel
theorem d_Law_law_785 : decode b_Law_law 785 = .ok (.iconst 1, 1) := by decide +kernel
theorem d_Law_law_786 : decode b_Law_law 786 = .ok (.iadd, 1) := by decide +kernel
theorem d_Law_law_787 : decode b_Law_law 787 = .ok (.iaload, 1) := by decide +kernel
theorem d_Law_law_788 : decode b_Law_law 788 = .ok (.aload_n 3, 1) := by decide +kernel
theorem d_Law_law_789 : decode b_Law_law 789 = .ok (.invokestatic 131, 3) := by decide +kernel
theorem d_Law_law_792 : decode b_Law_law 792 = .ok (.istore 5, 2) := by decide +kernel
theorem d_Law_law_794 : decode b_Law_law 794 = .ok (.aload_n 2, 1) := by decide +kernel
theorem d_Law_law_795 : decode b_Law_law 795 = .ok (.aload_n 0, 1) := by decide +kernel
theorem d_Law_law_796 : decode b_Law_law 796 = .ok (.iload 4, 2) := by decide +kernel
theorem d_Law_law_798 : decode b_Law_law 798 = .ok (.iconst 1, 1) := by decide +kernel
theorem d_Law_law_799 : decode b_Law_law 799 = .ok (.iadd, 1) := by decide +kernel
theorem d_Law_law_800 : decode b_Law_law 800 = .ok (.iaload, 1) := by decide +kernel
theorem d_Law_law_801 : decode b_Law_law 801 = .ok (.invokevirtual 133, 3) := by decide +kernel
theorem d_Law_law_804 : decode b_Law_law 804 = .ok (.istore 6, 2) := by decide +kernel
theorem d_Law_law_806 : decode b_Law_law 806 = .ok (.goto 43, 3) := by decide +kernel
theorem d_Law_law_809 : decode b_Law_law 809 = .ok (.aload_n 1, 1) := by decide +kernel
theorem d_Law_law_810 : decode b_Law_law 810 = .ok (.aload_n 0, 1) := by decide +kernel
theorem d_Law_law_811 : decode b_Law_law 811 = .ok (.iload 4, 2) := by decide +kernel
theorem d_Law_law_813 : decode b_Law_law 813 = .ok (.iconst 1, 1) := by decide +kernel
theorem d_Law_law_814 : decode b_Law_law 814 = .ok (.iadd, 1) := by decide +kernel
theorem d_Law_law_815 : decode b_Law_law 815 = .ok (.iaload, 1) := by decide +kernel
theorem d_Law_law_816 : decode b_Law_law 816 = .ok (.aload_n 0, 1) := by decide +kernel
theorem d_Law_law_817 : decode b_Law_law 817 = .ok (.iload 4, 2) := by decide +kernel
theorem d_Law_law_819 : decode b_Law_law 819 = .ok (.iconst 2, 1) := by decide +kernel
theorem d_Law_law_820 : decode b_Law_law 820 = .ok (.iadd, 1) := by decide +kernel
theorem d_Law_law_821 : decode b_Law_law 821 = .ok (.iaload, 1) := by decide +kernel
theorem d_Law_law_822 : decode b_Law_law 822 = .ok (.aload_n 3, 1) := by decide +kernel
theorem d_Law_law_823 : decode b_Law_law 823 = .ok (.invokestatic 134, 3) := by decide +kernel
theorem d_Law_law_826 : decode b_Law_law 826 = .ok (.istore 5, 2) := by decide +kernel
theorem d_Law_law_828 : decode b_Law_law 828 = .ok (.aload_n 2, 1) := by decide +kernel
theorem d_Law_law_829 : decode b_Law_law 829 = .ok (.aload_n 0, 1) := by decide +kernel
theorem d_Law_law_830 : decode b_Law_law 830 = .ok (.iload 4, 2) := by decide +kernel
theorem d_Law_law_832 : decode b_Law_law 832 = .ok (.iconst 1, 1) := by decide +kernel
theorem d_Law_law_833 : decode b_Law_law 833 = .ok (.iadd, 1) := by decide +kernel
theorem d_Law_law_834 : decode b_Law_law 834 = .ok (.iaload, 1) := by decide +kernel
theorem d_Law_law_835 : decode b_Law_law 835 = .ok (.aload_n 0, 1) := by decide +kernel
theorem d_Law_law_836 : decode b_Law_law 836 = .ok (.iload 4, 2) := by decide +kernel
theorem d_Law_law_838 : decode b_Law_law 838 = .ok (.iconst 2, 1) := by decide +kernel
theorem d_Law_law_839 : decode b_Law_law 839 = .ok (.iadd, 1) := by decide +kernel
theorem d_Law_law_840 : decode b_Law_law 840 = .ok (.iaload, 1) := by decide +kernel
theorem d_Law_law_841 : decode b_Law_law 841 = .ok (.invokevirtual 136, 3) := by decide +kernel
theorem d_Law_law_844 : decode b_Law_law 844 = .ok (.istore 6, 2) := by decide +kernel
theorem d_Law_law_846 : decode b_Law_law 846 = .ok (.goto 3, 3) := by decide +kernel
theorem d_Law_law_849 : decode b_Law_law 849 = .ok (.iinc 4 5, 3) := by decide +kernel
theorem d_Law_law_852 : decode b_Law_law 852 = .ok (.goto (-829), 3) := by decide +kernel
theorem d_Law_law_855 : decode b_Law_law 855 = .ok (.iconst 1, 1) := by decide +kernel
theorem d_Law_law_856 : decode b_Law_law 856 = .ok (.ireturn, 1) := by decide +kernel
def f_Law_law_L23 (L : Nat) (xs : Nat → Int32) (b : Nat) (r1 : Option Nat) (r2 : Option Nat) (r3 : Option Nat) : Nat → Int32 → Mp → Nat → Nat → Option (Nat × Int32 × Mp × Nat)
  | 0, _, _, _, _ => none
  | n + 1, x4, w, sz, g => if ((Int32.ofNat L) - (5 : Int32)) < x4 then (some (0, x4, w, sz)) else ((xsc L xs x4).bind fun v_8 => if (v_8 &&& (31 : Int32)) = 0 then ((xsc L xs (x4 + (1 : Int32))).bind fun v_9 => (xsc L xs (x4 + (2 : Int32))).bind fun v_10 => (xsc L xs (x4 + (3 : Int32))).bind fun v_11 => (xsc L xs (x4 + (4 : Int32))).bind fun v_12 => (f_Law_leaf w sz r1 v_9 v_10 v_11 v_12 r3).bind fun q_13 => (xsc L xs (x4 + (1 : Int32))).bind fun v_14 => (xsc L xs (x4 + (2 : Int32))).bind fun v_15 => (xsc L xs (x4 + (3 : Int32))).bind fun v_16 => (xsc L xs (x4 + (4 : Int32))).bind fun v_17 => (xo q_13.2.1 r2 5).bind fun b_19 => (f_Mod_leaf q_13.2.1 b_19 v_14 v_15 v_16 v_17).bind fun q_18 => f_Law_law_L23 L xs b r1 r2 r3 n (x4 + 5) q_18.2 q_13.2.2 g) else (if (v_8 &&& (31 : Int32)) = 1 then ((xsc L xs (x4 + (1 : Int32))).bind fun v_20 => (xsc L xs (x4 + (2 : Int32))).bind fun v_21 => (xsc L xs (x4 + (3 : Int32))).bind fun v_22 => (xsc L xs (x4 + (4 : Int32))).bind fun v_23 => (f_Law_pixel w sz r1 v_20 v_21 v_22 v_23 r3).bind fun q_24 => (xsc L xs (x4 + (1 : Int32))).bind fun v_25 => (xsc L xs (x4 + (2 : Int32))).bind fun v_26 => (xsc L xs (x4 + (3 : Int32))).bind fun v_27 => (xsc L xs (x4 + (4 : Int32))).bind fun v_28 => (xo q_24.2.1 r2 5).bind fun b_30 => (f_Mod_pixel q_24.2.1 b_30 v_25 v_26 v_27 v_28).bind fun q_29 => f_Law_law_L23 L xs b r1 r2 r3 n (x4 + 5) q_29.2 q_24.2.2 g) else (if (v_8 &&& (31 : Int32)) = 2 then ((xsc L xs (x4 + (1 : Int32))).bind fun v_31 => (xsc L xs (x4 + (2 : Int32))).bind fun v_32 => (f_Law_reserve w sz r1 v_31 v_32 r3).bind fun q_33 => (xsc L xs (x4 + (1 : Int32))).bind fun v_34 => (xsc L xs (x4 + (2 : Int32))).bind fun v_35 => (xo q_33.2.1 r2 5).bind fun b_37 => (f_Mod_reserve q_33.2.1 b_37 v_34 v_35).bind fun q_36 => f_Law_law_L23 L xs b r1 r2 r3 n (x4 + 5) q_36.2 q_33.2.2 g) else (if (v_8 &&& (31 : Int32)) = 3 then ((xsc L xs (x4 + (1 : Int32))).bind fun v_38 => (xsc L xs (x4 + (2 : Int32))).bind fun v_39 => (f_Law_match w sz r1 v_38 v_39 r3).bind fun q_40 => (xsc L xs (x4 + (1 : Int32))).bind fun v_41 => (xsc L xs (x4 + (2 : Int32))).bind fun v_42 => (xo q_40.2.1 r2 5).bind fun b_44 => (f_Mod_match q_40.2.1 b_44 v_41 v_42).bind fun q_43 => f_Law_law_L23 L xs b r1 r2 r3 n (x4 + 5) q_43.2 q_40.2.2 g) else (if (v_8 &&& (31 : Int32)) = 4 then ((xsc L xs (x4 + (1 : Int32))).bind fun v_45 => (f_Law_apart w sz r1 v_45 r3).bind fun q_46 => (xsc L xs (x4 + (1 : Int32))).bind fun v_47 => (xo q_46.2.1 r2 5).bind fun b_49 => (f_Mod_apart q_46.2.1 b_49 v_47).bind fun q_48 => f_Law_law_L23 L xs b r1 r2 r3 n (x4 + 5) q_48.2 q_46.2.2 g) else (if (v_8 &&& (31 : Int32)) = 5 then ((xsc L xs (x4 + (1 : Int32))).bind fun v_50 => (xsc L xs (x4 + (2 : Int32))).bind fun v_51 => (xsc L xs (x4 + (3 : Int32))).bind fun v_52 => (f_Law_place w sz r1 v_50 v_51 v_52 r3).bind fun q_53 => (xsc L xs (x4 + (1 : Int32))).bind fun v_54 => (xsc L xs (x4 + (2 : Int32))).bind fun v_55 => (xsc L xs (x4 + (3 : Int32))).bind fun v_56 => (xo q_53.2.1 r2 5).bind fun b_58 => (f_Mod_place q_53.2.1 b_58 v_54 v_55 v_56).bind fun q_57 => f_Law_law_L23 L xs b r1 r2 r3 n (x4 + 5) q_57.2 q_53.2.2 g) else (if (v_8 &&& (31 : Int32)) = 6 then ((xsc L xs (x4 + (1 : Int32))).bind fun v_59 => (xsc L xs (x4 + (2 : Int32))).bind fun v_60 => (xsc L xs (x4 + (3 : Int32))).bind fun v_61 => (f_Law_at w sz r1 v_59 v_60 v_61 r3).bind fun q_62 => (xsc L xs (x4 + (1 : Int32))).bind fun v_63 => (xsc L xs (x4 + (2 : Int32))).bind fun v_64 => (xsc L xs (x4 + (3 : Int32))).bind fun v_65 => (xo q_62.2.1 r2 5).bind fun b_67 => (f_Mod_at q_62.2.1 b_67 v_63 v_64 v_65).bind fun q_66 => (xo q_66.2 r2 5).bind fun b_69 => (f_Mod_thrown q_66.2 b_69).bind fun q_68 => if q_68 = q_62.1 then (if q_62.1 = 0 then ((aJ q_66.2 r3 5 (0 : Int32)).bind fun v_70 => if (lg_cmp v_70 q_66.1.toInt64) = 0 then (f_Law_law_L23 L xs b r1 r2 r3 n (x4 + 5) q_66.2 q_62.2.2 g) else (some (2, x4, q_66.2, q_62.2.2))) else (f_Law_law_L23 L xs b r1 r2 r3 n (x4 + 5) q_66.2 q_62.2.2 g)) else (some (1, x4, q_66.2, q_62.2.2))) else (if (v_8 &&& (31 : Int32)) = 7 then ((xsc L xs (x4 + (1 : Int32))).bind fun v_71 => (xsc L xs (x4 + (2 : Int32))).bind fun v_72 => (f_Law_about w sz r1 v_71 v_72 r3).bind fun q_73 => (xsc L xs (x4 + (1 : Int32))).bind fun v_74 => (xsc L xs (x4 + (2 : Int32))).bind fun v_75 => (xo q_73.2.1 r2 5).bind fun b_77 => (f_Mod_about q_73.2.1 b_77 v_74 v_75).bind fun q_76 => f_Law_law_L23 L xs b r1 r2 r3 n (x4 + 5) q_76.2 q_73.2.2 g) else (if (v_8 &&& (31 : Int32)) = 8 then ((xsc L xs (x4 + (1 : Int32))).bind fun v_78 => (xsc L xs (x4 + (2 : Int32))).bind fun v_79 => (f_Law_seam w sz r1 v_78 v_79 r3).bind fun q_80 => (xsc L xs (x4 + (1 : Int32))).bind fun v_81 => (xsc L xs (x4 + (2 : Int32))).bind fun v_82 => (xo q_80.2.1 r2 5).bind fun b_84 => (f_Mod_seam q_80.2.1 b_84 v_81 v_82).bind fun q_83 => f_Law_law_L23 L xs b r1 r2 r3 n (x4 + 5) q_83.2 q_80.2.2 g) else (if (v_8 &&& (31 : Int32)) = 9 then ((xsc L xs (x4 + (1 : Int32))).bind fun v_85 => (xsc L xs (x4 + (2 : Int32))).bind fun v_86 => (xsc L xs (x4 + (3 : Int32))).bind fun v_87 => (f_Law_sum w sz r1 v_85 v_86 v_87 r3).bind fun q_88 => (xsc L xs (x4 + (1 : Int32))).bind fun v_89 => (xsc L xs (x4 + (2 : Int32))).bind fun v_90 => (xsc L xs (x4 + (3 : Int32))).bind fun v_91 => (xo q_88.2.1 r2 5).bind fun b_93 => (f_Mod_sum q_88.2.1 b_93 v_89 v_90 v_91).bind fun q_92 => f_Law_law_L23 L xs b r1 r2 r3 n (x4 + 5) q_92.2 q_88.2.2 g) else (if (v_8 &&& (31 : Int32)) = 10 then ((xsc L xs (x4 + (1 : Int32))).bind fun v_94 => (xsc L xs (x4 + (2 : Int32))).bind fun v_95 => (f_Law_mirrored w sz r1 v_94 v_95 r3).bind fun q_96 => (xsc L xs (x4 + (1 : Int32))).bind fun v_97 => (xsc L xs (x4 + (2 : Int32))).bind fun v_98 => (xo q_96.2.1 r2 5).bind fun b_100 => (f_Mod_mirrored q_96.2.1 b_100 v_97 v_98).bind fun q_99 => f_Law_law_L23 L xs b r1 r2 r3 n (x4 + 5) q_99.2 q_96.2.2 g) else (if (v_8 &&& (31 : Int32)) = 11 then ((xsc L xs (x4 + (1 : Int32))).bind fun v_101 => (f_Law_balance w sz r1 v_101 r3).bind fun q_102 => (xsc L xs (x4 + (1 : Int32))).bind fun v_103 => (xo q_102.2.1 r2 5).bind fun b_105 => (f_Mod_balance q_102.2.1 b_105 v_103).bind fun q_104 => f_Law_law_L23 L xs b r1 r2 r3 n (x4 + 5) q_104.2 q_102.2.2 g) else (if (v_8 &&& (31 : Int32)) = 12 then ((xsc L xs (x4 + (1 : Int32))).bind fun v_106 => (xsc L xs (x4 + (2 : Int32))).bind fun v_107 => (xsc L xs (x4 + (3 : Int32))).bind fun v_108 => (f_Law_number w sz r1 v_106 v_107 v_108 r3).bind fun q_109 => (xsc L xs (x4 + (1 : Int32))).bind fun v_110 => (xsc L xs (x4 + (2 : Int32))).bind fun v_111 => (xsc L xs (x4 + (3 : Int32))).bind fun v_112 => (xo q_109.2.1 r2 5).bind fun b_114 => (f_Mod_number q_109.2.1 b_114 v_110 v_111 v_112).bind fun q_113 => f_Law_law_L23 L xs b r1 r2 r3 n (x4 + 5) q_113.2 q_109.2.2 g) else (if (v_8 &&& (31 : Int32)) = 13 then ((xsc L xs (x4 + (1 : Int32))).bind fun v_115 => (f_Law_want w sz r1 v_115 r3).bind fun q_116 => (xsc L xs (x4 + (1 : Int32))).bind fun v_117 => (xo q_116.2.1 r2 5).bind fun b_119 => (f_Mod_want q_116.2.1 b_119 v_117).bind fun q_118 => f_Law_law_L23 L xs b r1 r2 r3 n (x4 + 5) q_118.2 q_116.2.2 g) else (if (v_8 &&& (31 : Int32)) = 14 then ((xo w r1 0).bind fun b_121 => (f_LM_clear w b_121).bind fun q_120 => (xo q_120.2 r2 5).bind fun b_123 => (f_Mod_clear q_120.2 b_123).bind fun q_122 => f_Law_law_L23 L xs b r1 r2 r3 n (x4 + 5) q_122.2 sz g) else (if (v_8 &&& (31 : Int32)) = 15 then ((xsc L xs (x4 + (1 : Int32))).bind fun v_124 => if 40000 < g + ((xk5 w r1 v_124) + (xk6 w r1 v_124) + (xk7 w r1 v_124)) then none else (f_Law_faces (xk5 w r1 v_124) (xk6 w r1 v_124) (xk7 w r1 v_124) w sz r1 v_124 r3).bind fun q_125 => (xsc L xs (x4 + (1 : Int32))).bind fun v_126 => (xo q_125.2.1 r2 5).bind fun b_128 => (f_Mod_faces q_125.2.1 b_128 v_126).bind fun q_127 => f_Law_law_L23 L xs b r1 r2 r3 n (x4 + 5) q_127.2 q_125.2.2 (g + ((xk5 w r1 v_124) + (xk6 w r1 v_124) + (xk7 w r1 v_124)))) else (if (v_8 &&& (31 : Int32)) = 16 then ((xsc L xs (x4 + (1 : Int32))).bind fun v_129 => (xsc L xs (x4 + (2 : Int32))).bind fun v_130 => (f_Law_planned w sz r1 v_129 v_130 r3).bind fun q_131 => (xsc L xs (x4 + (1 : Int32))).bind fun v_132 => (xsc L xs (x4 + (2 : Int32))).bind fun v_133 => (xo q_131.2.1 r2 5).bind fun b_135 => (f_Mod_planned q_131.2.1 b_135 v_132 v_133).bind fun q_134 => f_Law_law_L23 L xs b r1 r2 r3 n (x4 + 5) q_134.2 q_131.2.2 g) else (f_Law_law_L23 L xs b r1 r2 r3 n (x4 + 5) w sz g))))))))))))))))))
set_option maxHeartbeats 4000000 in
set_option maxRecDepth 100000 in
theorem w_Law_law_L23 {p : Program} {l : Launch} {e : Env} {R : Room} {s : State} {m : MethodId} {args : Array Value} {below : List Frame} {meth : Method} {c : Code} {Q : State → Prop} {cells slots : Nat} {G : Gx} {b : Nat} {r1 : Option Nat} {r2 : Option Nat} {r3 : Option Nat} (C0 : CallFix p m c b_Law_law 8 s args wA R_Law) (hE : xE G vwCl xaty s) (hR1 : 8 ≤ R.frames) (hR2 : 193 ≤ R.locals) (hR3 : (cells + 513 * 11) ≤ R.cells) (hR4 : (slots + 513 * 152 + 40000) ≤ R.slots) (hlt : l.stackTraces = false) {L : Nat} {xs : Nat → Int32} (hX : va_X b L xs s s.heap) (hbl : b < s.heap.size) (hbA : ¬ xA G b) : ∀ (n : Nat) (x4 : Int32) (w : Mp) (sz : Nat) (g : Nat) (H : Heap) (locs : List Loc) (_ : n ≤ 513) (_ : g ≤ 40000) (q : Nat × Int32 × Mp × Nat) (ls : Array Slot), xhd G vwCl w H → xS G s H locs → H.size = sz → xL ls 8 [(0, .inr (.inl (some b))), (1, .inr (.inl r1)), (2, .inr (.inl r2)), (3, .inr (.inl r3)), (4, .inl x4)] → f_Law_law_L23 L xs b r1 r2 r3 n x4 w sz g = some q → ((q.1 = 0 → ∀ (H : Heap) (locs : List Loc) (ls : Array Slot), xhd G vwCl q.2.2.1 H → xS G s H locs → H.size = q.2.2.2 → xL ls 8 [(0, .inr (.inl (some b))), (1, .inr (.inl r1)), (2, .inr (.inl r2)), (3, .inr (.inl r3)), (4, .inl q.2.1)] → W p l e R s m args below meth c H locs (cells + 513 * 11) (slots + 513 * 152 + 40000) Q (F0 m 855 ls [])) ∧ (q.1 = 1 → ∀ (H : Heap) (locs : List Loc) (ls : Array Slot), xhd G vwCl q.2.2.1 H → xS G s H locs → H.size = q.2.2.2 → xL ls 8 [(0, .inr (.inl (some b))), (1, .inr (.inl r1)), (2, .inr (.inl r2)), (3, .inr (.inl r3)), (4, .inl q.2.1)] → W p l e R s m args below meth c H locs (cells + 513 * 11) (slots + 513 * 152 + 40000) Q (F0 m 466 ls [])) ∧ (q.1 = 2 → ∀ (H : Heap) (locs : List Loc) (ls : Array Slot), xhd G vwCl q.2.2.1 H → xS G s H locs → H.size = q.2.2.2 → xL ls 8 [(0, .inr (.inl (some b))), (1, .inr (.inl r1)), (2, .inr (.inl r2)), (3, .inr (.inl r3)), (4, .inl q.2.1)] → W p l e R s m args below meth c H locs (cells + 513 * 11) (slots + 513 * 152 + 40000) Q (F0 m 483 ls []))) → W p l e R s m args below meth c H locs (cells + (513 - n) * 11) (slots + (513 - n) * 152 + g) Q (F0 m 23 ls []) := by
  intro n
  induction n with
  | zero => intro _ _ _ _ _ _ _ _ q ls hH hS hz hl h; cases h
  | succ n ih =>
    intro x4 w sz g H locs hn hg q ls hH hS hz hl h K
    rw [f_Law_law_L23] at h
    refine x_iload C0 hl 4 d_Law_law_23 rfl ?_
    refine x_aload_n C0 hl 0 d_Law_law_25 rfl rfl ?_
    refine x_slen C0 hX hbl hbA hS d_Law_law_26 ?_
    refine lv_iconst (v := 5) C0.1 C0.2.1 d_Law_law_27 (by decide) ?_
    refine lv_isub C0.1 C0.2.1 d_Law_law_28 ?_
    refine x_icmp_gt C0 855 d_Law_law_29 (by decide) h (fun h => ?_) (fun h => ?_)
    · cases h
      refine W.widen (k := cells + 513 * 11) (n := slots + 513 * 152 + 40000) (by omega) (by omega) ?_
      exact K.1 rfl _ _ ls hH hS hz (x_sub hl [0, 1, 2, 3, 4] rfl)
    · refine x_aload_n C0 hl 0 d_Law_law_32 rfl rfl ?_
      refine x_iload C0 hl 4 d_Law_law_33 rfl ?_
      refine x_sld C0 hX hbl hbA hS d_Law_law_35 h (fun v_8 h => ?_)
      refine lv_bipush (v := 31) C0.1 C0.2.1 d_Law_law_36 (by decide) ?_
      refine lv_iand C0.1 C0.2.1 d_Law_law_38 ?_
      by_cases z : (v_8 &&& (31 : Int32)) = 0
      · rw [if_pos z] at h
        refine lv_tableIn (tgt := 120) C0.1 C0.2.1 d_Law_law_39 (by rw [z]; decide) (by rw [z]; decide) (by rw [z]; rfl) (by decide) ?_
        refine x_aload_n C0 hl 1 d_Law_law_120 rfl rfl ?_
        refine x_aload_n C0 hl 0 d_Law_law_121 rfl rfl ?_
        refine x_iload C0 hl 4 d_Law_law_122 rfl ?_
        refine lv_iconst (v := 1) C0.1 C0.2.1 d_Law_law_124 (by decide) ?_
        refine lv_iadd C0.1 C0.2.1 d_Law_law_125 ?_
        refine x_sld C0 hX hbl hbA hS d_Law_law_126 h (fun v_9 h => ?_)
        refine x_aload_n C0 hl 0 d_Law_law_127 rfl rfl ?_
        refine x_iload C0 hl 4 d_Law_law_128 rfl ?_
        refine lv_iconst (v := 2) C0.1 C0.2.1 d_Law_law_130 (by decide) ?_
        refine lv_iadd C0.1 C0.2.1 d_Law_law_131 ?_
        refine x_sld C0 hX hbl hbA hS d_Law_law_132 h (fun v_10 h => ?_)
        refine x_aload_n C0 hl 0 d_Law_law_133 rfl rfl ?_
        refine x_iload C0 hl 4 d_Law_law_134 rfl ?_
        refine lv_iconst (v := 3) C0.1 C0.2.1 d_Law_law_136 (by decide) ?_
        refine lv_iadd C0.1 C0.2.1 d_Law_law_137 ?_
        refine x_sld C0 hX hbl hbA hS d_Law_law_138 h (fun v_11 h => ?_)
        refine x_aload_n C0 hl 0 d_Law_law_139 rfl rfl ?_
        refine x_iload C0 hl 4 d_Law_law_140 rfl ?_
        refine lv_iconst (v := 4) C0.1 C0.2.1 d_Law_law_142 (by decide) ?_
        refine lv_iadd C0.1 C0.2.1 d_Law_law_143 ?_
        refine x_sld C0 hX hbl hbA hS d_Law_law_144 h (fun v_12 h => ?_)
        refine x_aload_n C0 hl 3 d_Law_law_145 rfl rfl ?_
        obtain ⟨q_13, e9, h⟩ := Option.bind_eq_some_iff.mp h
        have e9 := (show f_Law_leaf w (Array.size H) r1 v_9 v_10 v_11 v_12 r3 = some q_13 by rw [hz]; exact e9)
        refine x_call hS (vx_runSW (As := [va_rf r1, .int v_9, .int v_10, .int v_11, .int v_12, va_rf r3]) (rest := []) C0 (c_Law_leaf l G w _ r1 v_9 v_10 v_11 v_12 r3 q_13 e9 hlt) (vx_cwSW 6 C0.2.2.2.2 (x_goodW kw_1_104 kw_1_102 kw_1_103 kw_1_0) rfl rfl rfl (by decide +kernel) (x_rm hR1 hR2 (Nat.le_of_ble_eq_true rfl) (Nat.le_of_ble_eq_true rfl))) (x_preS hE hH hS) rfl rfl hl.1 rfl (lv_room (by first | exact Nat.le_of_ble_eq_true rfl | simp only [List.map_cons, List.map_nil, List.sum_cons, List.sum_nil, va_rf_cat, x_catI, x_catL, x_catA] <;> decide)) d_Law_law_146 ⟨Nat.le_trans (by omega) hR3, Nat.le_trans (by omega) hR4⟩) (fun H locs hH hS hz => ?_)
        refine W.widen (k := cells + (513 - (n + 1)) * 11 + 2) (n := slots + (513 - (n + 1)) * 152 + g + 152) (by omega) (by omega) ?_
        refine x_istore (lv' := [(5, .inl q_13.1), (0, .inr (.inl (some b))), (1, .inr (.inl r1)), (2, .inr (.inl r2)), (3, .inr (.inl r3)), (4, .inl x4)]) C0 hl d_Law_law_149 (by decide) rfl (fun ls hl => ?_)
        refine x_aload_n C0 hl 3 d_Law_law_151 rfl rfl ?_
        refine x_aload_n C0 hl 1 d_Law_law_152 rfl rfl ?_
        refine x_iload C0 hl 5 d_Law_law_153 rfl ?_
        refine lv_iconst (v := 1) C0.1 C0.2.1 d_Law_law_155 (by decide) ?_
        refine lv_iadd C0.1 C0.2.1 d_Law_law_156 ?_
        refine x_sld C0 hX hbl hbA hS d_Law_law_157 h (fun v_14 h => ?_)
        refine x_aload_n C0 hl 1 d_Law_law_158 rfl rfl ?_
        refine x_iload C0 hl 5 d_Law_law_159 rfl ?_
        refine lv_iconst (v := 2) C0.1 C0.2.1 d_Law_law_161 (by decide) ?_
        refine lv_iadd C0.1 C0.2.1 d_Law_law_162 ?_
        refine x_sld C0 hX hbl hbA hS d_Law_law_163 h (fun v_15 h => ?_)
        refine x_aload_n C0 hl 1 d_Law_law_164 rfl rfl ?_
        refine x_iload C0 hl 5 d_Law_law_165 rfl ?_
        refine lv_iconst (v := 3) C0.1 C0.2.1 d_Law_law_167 (by decide) ?_
        refine lv_iadd C0.1 C0.2.1 d_Law_law_168 ?_
        refine x_sld C0 hX hbl hbA hS d_Law_law_169 h (fun v_16 h => ?_)
        refine x_aload_n C0 hl 1 d_Law_law_170 rfl rfl ?_
        refine x_iload C0 hl 5 d_Law_law_171 rfl ?_
        refine lv_iconst (v := 4) C0.1 C0.2.1 d_Law_law_173 (by decide) ?_
        refine lv_iadd C0.1 C0.2.1 d_Law_law_174 ?_
        refine x_sld C0 hX hbl hbA hS d_Law_law_175 h (fun v_17 h => ?_)
        obtain ⟨b_19, e9, h⟩ := Option.bind_eq_some_iff.mp h
        obtain ⟨e8, fs9, hb9⟩ := xo_inv e9
        obtain ⟨q_18, e9, h⟩ := Option.bind_eq_some_iff.mp h
        refine x_call0 hS (va_runV (As := [.int v_14, .int v_15, .int v_16, .int v_17]) (rest := []) C0 (c_Mod_leaf l G q_13.2.1 _ b_19 v_14 v_15 v_16 v_17 q_18 e9) (x_cwV 4 C0 kw_4_151 kw_4_154 kw_1_3 kw_4_152 kw_4_153 (by decide +kernel) (x_rm hR1 hR2 (Nat.le_of_ble_eq_true rfl) (Nat.le_of_ble_eq_true rfl))) (x_preV hE hH hS (ci := 5) rfl hb9) rfl rfl hl.1 (by rw [e8]; rfl) (lv_room (by first | exact Nat.le_of_ble_eq_true rfl | simp only [List.map_cons, List.map_nil, List.sum_cons, List.sum_nil, va_rf_cat, x_catI, x_catL, x_catA] <;> decide)) d_Law_law_176 (x_le0 (Nat.le_trans (by omega) hR3) (Nat.le_trans (by omega) hR4))) (fun H locs hH hS hz9 => ?_)
        have hz := hz9.trans hz
        refine x_istore (lv' := [(6, .inl q_18.1), (5, .inl q_13.1), (0, .inr (.inl (some b))), (1, .inr (.inl r1)), (2, .inr (.inl r2)), (3, .inr (.inl r3)), (4, .inl x4)]) C0 hl d_Law_law_179 (by decide) rfl (fun ls hl => ?_)
        refine x_goto C0 849 d_Law_law_181 (by decide) ?_
        refine x_iinc (v := 5) (lv' := [(4, .inl (x4 + 5)), (6, .inl q_18.1), (5, .inl q_13.1), (0, .inr (.inl (some b))), (1, .inr (.inl r1)), (2, .inr (.inl r2)), (3, .inr (.inl r3))]) C0 hl 6 d_Law_law_849 rfl (by decide) (by decide) rfl (fun ls hl => ?_)
        refine x_goto C0 23 d_Law_law_852 (by decide) ?_
        refine W.widen (k := cells + (513 - n) * 11) (n := slots + (513 - n) * 152 + g) (by omega) (by omega) ?_
        exact ih _ _ _ _ _ _ (by omega) (by omega) q ls hH hS hz (x_sub hl [3, 4, 5, 6, 0] rfl) h K
      rw [if_neg z] at h
      have z0 := lv_neT z (a := 0) (by decide)
      by_cases z : (v_8 &&& (31 : Int32)) = 1
      · rw [if_pos z] at h
        refine lv_tableIn (tgt := 184) C0.1 C0.2.1 d_Law_law_39 (by rw [z]; decide) (by rw [z]; decide) (by rw [z]; rfl) (by decide) ?_
        refine x_aload_n C0 hl 1 d_Law_law_184 rfl rfl ?_
        refine x_aload_n C0 hl 0 d_Law_law_185 rfl rfl ?_
        refine x_iload C0 hl 4 d_Law_law_186 rfl ?_
        refine lv_iconst (v := 1) C0.1 C0.2.1 d_Law_law_188 (by decide) ?_
        refine lv_iadd C0.1 C0.2.1 d_Law_law_189 ?_
        refine x_sld C0 hX hbl hbA hS d_Law_law_190 h (fun v_20 h => ?_)
        refine x_aload_n C0 hl 0 d_Law_law_191 rfl rfl ?_
        refine x_iload C0 hl 4 d_Law_law_192 rfl ?_
        refine lv_iconst (v := 2) C0.1 C0.2.1 d_Law_law_194 (by decide) ?_
        refine lv_iadd C0.1 C0.2.1 d_Law_law_195 ?_
        refine x_sld C0 hX hbl hbA hS d_Law_law_196 h (fun v_21 h => ?_)
        refine x_aload_n C0 hl 0 d_Law_law_197 rfl rfl ?_
        refine x_iload C0 hl 4 d_Law_law_198 rfl ?_
        refine lv_iconst (v := 3) C0.1 C0.2.1 d_Law_law_200 (by decide) ?_
        refine lv_iadd C0.1 C0.2.1 d_Law_law_201 ?_
        refine x_sld C0 hX hbl hbA hS d_Law_law_202 h (fun v_22 h => ?_)
        refine x_aload_n C0 hl 0 d_Law_law_203 rfl rfl ?_
        refine x_iload C0 hl 4 d_Law_law_204 rfl ?_
        refine lv_iconst (v := 4) C0.1 C0.2.1 d_Law_law_206 (by decide) ?_
        refine lv_iadd C0.1 C0.2.1 d_Law_law_207 ?_
        refine x_sld C0 hX hbl hbA hS d_Law_law_208 h (fun v_23 h => ?_)
        refine x_aload_n C0 hl 3 d_Law_law_209 rfl rfl ?_
        obtain ⟨q_24, e9, h⟩ := Option.bind_eq_some_iff.mp h
        have e9 := (show f_Law_pixel w (Array.size H) r1 v_20 v_21 v_22 v_23 r3 = some q_24 by rw [hz]; exact e9)
        refine x_call hS (vx_runSW (As := [va_rf r1, .int v_20, .int v_21, .int v_22, .int v_23, va_rf r3]) (rest := []) C0 (c_Law_pixel l G w _ r1 v_20 v_21 v_22 v_23 r3 q_24 e9 hlt) (vx_cwSW 6 C0.2.2.2.2 (x_goodW kw_2_12 kw_2_10 kw_2_11 kw_1_0) rfl rfl rfl (by decide +kernel) (x_rm hR1 hR2 (Nat.le_of_ble_eq_true rfl) (Nat.le_of_ble_eq_true rfl))) (x_preS hE hH hS) rfl rfl hl.1 rfl (lv_room (by first | exact Nat.le_of_ble_eq_true rfl | simp only [List.map_cons, List.map_nil, List.sum_cons, List.sum_nil, va_rf_cat, x_catI, x_catL, x_catA] <;> decide)) d_Law_law_210 ⟨Nat.le_trans (by omega) hR3, Nat.le_trans (by omega) hR4⟩) (fun H locs hH hS hz => ?_)
        refine W.widen (k := cells + (513 - (n + 1)) * 11 + 1) (n := slots + (513 - (n + 1)) * 152 + g + 6) (by omega) (by omega) ?_
        refine x_istore (lv' := [(5, .inl q_24.1), (0, .inr (.inl (some b))), (1, .inr (.inl r1)), (2, .inr (.inl r2)), (3, .inr (.inl r3)), (4, .inl x4)]) C0 hl d_Law_law_213 (by decide) rfl (fun ls hl => ?_)
        refine x_aload_n C0 hl 3 d_Law_law_215 rfl rfl ?_
        refine x_aload_n C0 hl 1 d_Law_law_216 rfl rfl ?_
        refine x_iload C0 hl 5 d_Law_law_217 rfl ?_
        refine lv_iconst (v := 1) C0.1 C0.2.1 d_Law_law_219 (by decide) ?_
        refine lv_iadd C0.1 C0.2.1 d_Law_law_220 ?_
        refine x_sld C0 hX hbl hbA hS d_Law_law_221 h (fun v_25 h => ?_)
        refine x_aload_n C0 hl 1 d_Law_law_222 rfl rfl ?_
        refine x_iload C0 hl 5 d_Law_law_223 rfl ?_
        refine lv_iconst (v := 2) C0.1 C0.2.1 d_Law_law_225 (by decide) ?_
        refine lv_iadd C0.1 C0.2.1 d_Law_law_226 ?_
        refine x_sld C0 hX hbl hbA hS d_Law_law_227 h (fun v_26 h => ?_)
        refine x_aload_n C0 hl 1 d_Law_law_228 rfl rfl ?_
        refine x_iload C0 hl 5 d_Law_law_229 rfl ?_
        refine lv_iconst (v := 3) C0.1 C0.2.1 d_Law_law_231 (by decide) ?_
        refine lv_iadd C0.1 C0.2.1 d_Law_law_232 ?_
        refine x_sld C0 hX hbl hbA hS d_Law_law_233 h (fun v_27 h => ?_)
        refine x_aload_n C0 hl 1 d_Law_law_234 rfl rfl ?_
        refine x_iload C0 hl 5 d_Law_law_235 rfl ?_
        refine lv_iconst (v := 4) C0.1 C0.2.1 d_Law_law_237 (by decide) ?_
        refine lv_iadd C0.1 C0.2.1 d_Law_law_238 ?_
        refine x_sld C0 hX hbl hbA hS d_Law_law_239 h (fun v_28 h => ?_)
        obtain ⟨b_30, e9, h⟩ := Option.bind_eq_some_iff.mp h
        obtain ⟨e8, fs9, hb9⟩ := xo_inv e9
        obtain ⟨q_29, e9, h⟩ := Option.bind_eq_some_iff.mp h
        refine x_call0 hS (va_runV (As := [.int v_25, .int v_26, .int v_27, .int v_28]) (rest := []) C0 (c_Mod_pixel l G q_24.2.1 _ b_30 v_25 v_26 v_27 v_28 q_29 e9) (x_cwV 4 C0 kw_4_158 kw_4_161 kw_1_3 kw_4_159 kw_4_160 (by decide +kernel) (x_rm hR1 hR2 (Nat.le_of_ble_eq_true rfl) (Nat.le_of_ble_eq_true rfl))) (x_preV hE hH hS (ci := 5) rfl hb9) rfl rfl hl.1 (by rw [e8]; rfl) (lv_room (by first | exact Nat.le_of_ble_eq_true rfl | simp only [List.map_cons, List.map_nil, List.sum_cons, List.sum_nil, va_rf_cat, x_catI, x_catL, x_catA] <;> decide)) d_Law_law_240 (x_le0 (Nat.le_trans (by omega) hR3) (Nat.le_trans (by omega) hR4))) (fun H locs hH hS hz9 => ?_)
        have hz := hz9.trans hz
        refine x_istore (lv' := [(6, .inl q_29.1), (5, .inl q_24.1), (0, .inr (.inl (some b))), (1, .inr (.inl r1)), (2, .inr (.inl r2)), (3, .inr (.inl r3)), (4, .inl x4)]) C0 hl d_Law_law_243 (by decide) rfl (fun ls hl => ?_)
        refine x_goto C0 849 d_Law_law_245 (by decide) ?_
        refine x_iinc (v := 5) (lv' := [(4, .inl (x4 + 5)), (6, .inl q_29.1), (5, .inl q_24.1), (0, .inr (.inl (some b))), (1, .inr (.inl r1)), (2, .inr (.inl r2)), (3, .inr (.inl r3))]) C0 hl 6 d_Law_law_849 rfl (by decide) (by decide) rfl (fun ls hl => ?_)
        refine x_goto C0 23 d_Law_law_852 (by decide) ?_
        refine W.widen (k := cells + (513 - n) * 11) (n := slots + (513 - n) * 152 + g) (by omega) (by omega) ?_
        exact ih _ _ _ _ _ _ (by omega) (by omega) q ls hH hS hz (x_sub hl [3, 4, 5, 6, 0] rfl) h K
      rw [if_neg z] at h
      have z1 := lv_neT z (a := 1) (by decide)
      by_cases z : (v_8 &&& (31 : Int32)) = 2
      · rw [if_pos z] at h
        refine lv_tableIn (tgt := 248) C0.1 C0.2.1 d_Law_law_39 (by rw [z]; decide) (by rw [z]; decide) (by rw [z]; rfl) (by decide) ?_
        refine x_aload_n C0 hl 1 d_Law_law_248 rfl rfl ?_
        refine x_aload_n C0 hl 0 d_Law_law_249 rfl rfl ?_
        refine x_iload C0 hl 4 d_Law_law_250 rfl ?_
        refine lv_iconst (v := 1) C0.1 C0.2.1 d_Law_law_252 (by decide) ?_
        refine lv_iadd C0.1 C0.2.1 d_Law_law_253 ?_
        refine x_sld C0 hX hbl hbA hS d_Law_law_254 h (fun v_31 h => ?_)
        refine x_aload_n C0 hl 0 d_Law_law_255 rfl rfl ?_
        refine x_iload C0 hl 4 d_Law_law_256 rfl ?_
        refine lv_iconst (v := 2) C0.1 C0.2.1 d_Law_law_258 (by decide) ?_
        refine lv_iadd C0.1 C0.2.1 d_Law_law_259 ?_
        refine x_sld C0 hX hbl hbA hS d_Law_law_260 h (fun v_32 h => ?_)
        refine x_aload_n C0 hl 3 d_Law_law_261 rfl rfl ?_
        obtain ⟨q_33, e9, h⟩ := Option.bind_eq_some_iff.mp h
        have e9 := (show f_Law_reserve w (Array.size H) r1 v_31 v_32 r3 = some q_33 by rw [hz]; exact e9)
        refine x_call hS (vx_runSW (As := [va_rf r1, .int v_31, .int v_32, va_rf r3]) (rest := []) C0 (c_Law_reserve l G w _ r1 v_31 v_32 r3 q_33 e9 hlt) (vx_cwSW 4 C0.2.2.2.2 (x_goodW kw_2_49 kw_2_47 kw_2_48 kw_1_0) rfl rfl rfl (by decide +kernel) (x_rm hR1 hR2 (Nat.le_of_ble_eq_true rfl) (Nat.le_of_ble_eq_true rfl))) (x_preS hE hH hS) rfl rfl hl.1 rfl (lv_room (by first | exact Nat.le_of_ble_eq_true rfl | simp only [List.map_cons, List.map_nil, List.sum_cons, List.sum_nil, va_rf_cat, x_catI, x_catL, x_catA] <;> decide)) d_Law_law_262 ⟨Nat.le_trans (by omega) hR3, Nat.le_trans (by omega) hR4⟩) (fun H locs hH hS hz => ?_)
        refine W.widen (k := cells + (513 - (n + 1)) * 11 + 1) (n := slots + (513 - (n + 1)) * 152 + g + 6) (by omega) (by omega) ?_
        refine x_istore (lv' := [(5, .inl q_33.1), (0, .inr (.inl (some b))), (1, .inr (.inl r1)), (2, .inr (.inl r2)), (3, .inr (.inl r3)), (4, .inl x4)]) C0 hl d_Law_law_265 (by decide) rfl (fun ls hl => ?_)
        refine x_aload_n C0 hl 3 d_Law_law_267 rfl rfl ?_
        refine x_aload_n C0 hl 1 d_Law_law_268 rfl rfl ?_
        refine x_iload C0 hl 5 d_Law_law_269 rfl ?_
        refine lv_iconst (v := 1) C0.1 C0.2.1 d_Law_law_271 (by decide) ?_
        refine lv_iadd C0.1 C0.2.1 d_Law_law_272 ?_
        refine x_sld C0 hX hbl hbA hS d_Law_law_273 h (fun v_34 h => ?_)
        refine x_aload_n C0 hl 1 d_Law_law_274 rfl rfl ?_
        refine x_iload C0 hl 5 d_Law_law_275 rfl ?_
        refine lv_iconst (v := 2) C0.1 C0.2.1 d_Law_law_277 (by decide) ?_
        refine lv_iadd C0.1 C0.2.1 d_Law_law_278 ?_
        refine x_sld C0 hX hbl hbA hS d_Law_law_279 h (fun v_35 h => ?_)
        obtain ⟨b_37, e9, h⟩ := Option.bind_eq_some_iff.mp h
        obtain ⟨e8, fs9, hb9⟩ := xo_inv e9
        obtain ⟨q_36, e9, h⟩ := Option.bind_eq_some_iff.mp h
        refine x_call0 hS (va_runV (As := [.int v_34, .int v_35]) (rest := []) C0 (c_Mod_reserve l G q_33.2.1 _ b_37 v_34 v_35 q_36 e9) (x_cwV 2 C0 kw_4_162 kw_4_165 kw_1_3 kw_4_163 kw_4_164 (by decide +kernel) (x_rm hR1 hR2 (Nat.le_of_ble_eq_true rfl) (Nat.le_of_ble_eq_true rfl))) (x_preV hE hH hS (ci := 5) rfl hb9) rfl rfl hl.1 (by rw [e8]; rfl) (lv_room (by first | exact Nat.le_of_ble_eq_true rfl | simp only [List.map_cons, List.map_nil, List.sum_cons, List.sum_nil, va_rf_cat, x_catI, x_catL, x_catA] <;> decide)) d_Law_law_280 (x_le0 (Nat.le_trans (by omega) hR3) (Nat.le_trans (by omega) hR4))) (fun H locs hH hS hz9 => ?_)
        have hz := hz9.trans hz
        refine x_istore (lv' := [(6, .inl q_36.1), (5, .inl q_33.1), (0, .inr (.inl (some b))), (1, .inr (.inl r1)), (2, .inr (.inl r2)), (3, .inr (.inl r3)), (4, .inl x4)]) C0 hl d_Law_law_283 (by decide) rfl (fun ls hl => ?_)
        refine x_goto C0 849 d_Law_law_285 (by decide) ?_
        refine x_iinc (v := 5) (lv' := [(4, .inl (x4 + 5)), (6, .inl q_36.1), (5, .inl q_33.1), (0, .inr (.inl (some b))), (1, .inr (.inl r1)), (2, .inr (.inl r2)), (3, .inr (.inl r3))]) C0 hl 6 d_Law_law_849 rfl (by decide) (by decide) rfl (fun ls hl => ?_)
        refine x_goto C0 23 d_Law_law_852 (by decide) ?_
        refine W.widen (k := cells + (513 - n) * 11) (n := slots + (513 - n) * 152 + g) (by omega) (by omega) ?_
        exact ih _ _ _ _ _ _ (by omega) (by omega) q ls hH hS hz (x_sub hl [3, 4, 5, 6, 0] rfl) h K
      rw [if_neg z] at h
      have z2 := lv_neT z (a := 2) (by decide)
      by_cases z : (v_8 &&& (31 : Int32)) = 3
      · rw [if_pos z] at h
        refine lv_tableIn (tgt := 288) C0.1 C0.2.1 d_Law_law_39 (by rw [z]; decide) (by rw [z]; decide) (by rw [z]; rfl) (by decide) ?_
        refine x_aload_n C0 hl 1 d_Law_law_288 rfl rfl ?_
        refine x_aload_n C0 hl 0 d_Law_law_289 rfl rfl ?_
        refine x_iload C0 hl 4 d_Law_law_290 rfl ?_
        refine lv_iconst (v := 1) C0.1 C0.2.1 d_Law_law_292 (by decide) ?_
        refine lv_iadd C0.1 C0.2.1 d_Law_law_293 ?_
        refine x_sld C0 hX hbl hbA hS d_Law_law_294 h (fun v_38 h => ?_)
        refine x_aload_n C0 hl 0 d_Law_law_295 rfl rfl ?_
        refine x_iload C0 hl 4 d_Law_law_296 rfl ?_
        refine lv_iconst (v := 2) C0.1 C0.2.1 d_Law_law_298 (by decide) ?_
        refine lv_iadd C0.1 C0.2.1 d_Law_law_299 ?_
        refine x_sld C0 hX hbl hbA hS d_Law_law_300 h (fun v_39 h => ?_)
        refine x_aload_n C0 hl 3 d_Law_law_301 rfl rfl ?_
        obtain ⟨q_40, e9, h⟩ := Option.bind_eq_some_iff.mp h
        have e9 := (show f_Law_match w (Array.size H) r1 v_38 v_39 r3 = some q_40 by rw [hz]; exact e9)
        refine x_call hS (vx_runSW (As := [va_rf r1, .int v_38, .int v_39, va_rf r3]) (rest := []) C0 (c_Law_match l G w _ r1 v_38 v_39 r3 q_40 e9 hlt) (vx_cwSW 4 C0.2.2.2.2 (x_goodW kw_2_59 kw_2_57 kw_2_58 kw_1_0) rfl rfl rfl (by decide +kernel) (x_rm hR1 hR2 (Nat.le_of_ble_eq_true rfl) (Nat.le_of_ble_eq_true rfl))) (x_preS hE hH hS) rfl rfl hl.1 rfl (lv_room (by first | exact Nat.le_of_ble_eq_true rfl | simp only [List.map_cons, List.map_nil, List.sum_cons, List.sum_nil, va_rf_cat, x_catI, x_catL, x_catA] <;> decide)) d_Law_law_302 ⟨Nat.le_trans (by omega) hR3, Nat.le_trans (by omega) hR4⟩) (fun H locs hH hS hz => ?_)
        refine W.widen (k := cells + (513 - (n + 1)) * 11 + 11) (n := slots + (513 - (n + 1)) * 152 + g + 55) (by omega) (by omega) ?_
        refine x_istore (lv' := [(5, .inl q_40.1), (0, .inr (.inl (some b))), (1, .inr (.inl r1)), (2, .inr (.inl r2)), (3, .inr (.inl r3)), (4, .inl x4)]) C0 hl d_Law_law_305 (by decide) rfl (fun ls hl => ?_)
        refine x_aload_n C0 hl 3 d_Law_law_307 rfl rfl ?_
        refine x_aload_n C0 hl 1 d_Law_law_308 rfl rfl ?_
        refine x_iload C0 hl 5 d_Law_law_309 rfl ?_
        refine lv_iconst (v := 1) C0.1 C0.2.1 d_Law_law_311 (by decide) ?_
        refine lv_iadd C0.1 C0.2.1 d_Law_law_312 ?_
        refine x_sld C0 hX hbl hbA hS d_Law_law_313 h (fun v_41 h => ?_)
        refine x_aload_n C0 hl 1 d_Law_law_314 rfl rfl ?_
        refine x_iload C0 hl 5 d_Law_law_315 rfl ?_
        refine lv_iconst (v := 2) C0.1 C0.2.1 d_Law_law_317 (by decide) ?_
        refine lv_iadd C0.1 C0.2.1 d_Law_law_318 ?_
        refine x_sld C0 hX hbl hbA hS d_Law_law_319 h (fun v_42 h => ?_)
        obtain ⟨b_44, e9, h⟩ := Option.bind_eq_some_iff.mp h
        obtain ⟨e8, fs9, hb9⟩ := xo_inv e9
        obtain ⟨q_43, e9, h⟩ := Option.bind_eq_some_iff.mp h
        refine x_call0 hS (va_runV (As := [.int v_41, .int v_42]) (rest := []) C0 (c_Mod_match l G q_40.2.1 _ b_44 v_41 v_42 q_43 e9) (x_cwV 2 C0 kw_4_166 kw_4_169 kw_1_3 kw_4_167 kw_4_168 (by decide +kernel) (x_rm hR1 hR2 (Nat.le_of_ble_eq_true rfl) (Nat.le_of_ble_eq_true rfl))) (x_preV hE hH hS (ci := 5) rfl hb9) rfl rfl hl.1 (by rw [e8]; rfl) (lv_room (by first | exact Nat.le_of_ble_eq_true rfl | simp only [List.map_cons, List.map_nil, List.sum_cons, List.sum_nil, va_rf_cat, x_catI, x_catL, x_catA] <;> decide)) d_Law_law_320 (x_le0 (Nat.le_trans (by omega) hR3) (Nat.le_trans (by omega) hR4))) (fun H locs hH hS hz9 => ?_)
        have hz := hz9.trans hz
        refine x_istore (lv' := [(6, .inl q_43.1), (5, .inl q_40.1), (0, .inr (.inl (some b))), (1, .inr (.inl r1)), (2, .inr (.inl r2)), (3, .inr (.inl r3)), (4, .inl x4)]) C0 hl d_Law_law_323 (by decide) rfl (fun ls hl => ?_)
        refine x_goto C0 849 d_Law_law_325 (by decide) ?_
        refine x_iinc (v := 5) (lv' := [(4, .inl (x4 + 5)), (6, .inl q_43.1), (5, .inl q_40.1), (0, .inr (.inl (some b))), (1, .inr (.inl r1)), (2, .inr (.inl r2)), (3, .inr (.inl r3))]) C0 hl 6 d_Law_law_849 rfl (by decide) (by decide) rfl (fun ls hl => ?_)
        refine x_goto C0 23 d_Law_law_852 (by decide) ?_
        refine W.widen (k := cells + (513 - n) * 11) (n := slots + (513 - n) * 152 + g) (by omega) (by omega) ?_
        exact ih _ _ _ _ _ _ (by omega) (by omega) q ls hH hS hz (x_sub hl [3, 4, 5, 6, 0] rfl) h K
      rw [if_neg z] at h
      have z3 := lv_neT z (a := 3) (by decide)
      by_cases z : (v_8 &&& (31 : Int32)) = 4
      · rw [if_pos z] at h
        refine lv_tableIn (tgt := 328) C0.1 C0.2.1 d_Law_law_39 (by rw [z]; decide) (by rw [z]; decide) (by rw [z]; rfl) (by decide) ?_
        refine x_aload_n C0 hl 1 d_Law_law_328 rfl rfl ?_
        refine x_aload_n C0 hl 0 d_Law_law_329 rfl rfl ?_
        refine x_iload C0 hl 4 d_Law_law_330 rfl ?_
        refine lv_iconst (v := 1) C0.1 C0.2.1 d_Law_law_332 (by decide) ?_
        refine lv_iadd C0.1 C0.2.1 d_Law_law_333 ?_
        refine x_sld C0 hX hbl hbA hS d_Law_law_334 h (fun v_45 h => ?_)
        refine x_aload_n C0 hl 3 d_Law_law_335 rfl rfl ?_
        obtain ⟨q_46, e9, h⟩ := Option.bind_eq_some_iff.mp h
        have e9 := (show f_Law_apart w (Array.size H) r1 v_45 r3 = some q_46 by rw [hz]; exact e9)
        refine x_call hS (vx_runSW (As := [va_rf r1, .int v_45, va_rf r3]) (rest := []) C0 (c_Law_apart l G w _ r1 v_45 r3 q_46 e9 hlt) (vx_cwSW 3 C0.2.2.2.2 (x_goodW kw_2_143 kw_2_141 kw_2_142 kw_1_0) rfl rfl rfl (by decide +kernel) (x_rm hR1 hR2 (Nat.le_of_ble_eq_true rfl) (Nat.le_of_ble_eq_true rfl))) (x_preS hE hH hS) rfl rfl hl.1 rfl (lv_room (by first | exact Nat.le_of_ble_eq_true rfl | simp only [List.map_cons, List.map_nil, List.sum_cons, List.sum_nil, va_rf_cat, x_catI, x_catL, x_catA] <;> decide)) d_Law_law_336 ⟨Nat.le_trans (by omega) hR3, Nat.le_trans (by omega) hR4⟩) (fun H locs hH hS hz => ?_)
        refine W.widen (k := cells + (513 - (n + 1)) * 11 + 1) (n := slots + (513 - (n + 1)) * 152 + g + 6) (by omega) (by omega) ?_
        refine x_istore (lv' := [(5, .inl q_46.1), (0, .inr (.inl (some b))), (1, .inr (.inl r1)), (2, .inr (.inl r2)), (3, .inr (.inl r3)), (4, .inl x4)]) C0 hl d_Law_law_339 (by decide) rfl (fun ls hl => ?_)
        refine x_aload_n C0 hl 3 d_Law_law_341 rfl rfl ?_
        refine x_aload_n C0 hl 1 d_Law_law_342 rfl rfl ?_
        refine x_iload C0 hl 5 d_Law_law_343 rfl ?_
        refine lv_iconst (v := 1) C0.1 C0.2.1 d_Law_law_345 (by decide) ?_
        refine lv_iadd C0.1 C0.2.1 d_Law_law_346 ?_
        refine x_sld C0 hX hbl hbA hS d_Law_law_347 h (fun v_47 h => ?_)
        obtain ⟨b_49, e9, h⟩ := Option.bind_eq_some_iff.mp h
        obtain ⟨e8, fs9, hb9⟩ := xo_inv e9
        obtain ⟨q_48, e9, h⟩ := Option.bind_eq_some_iff.mp h
        refine x_call0 hS (va_runV (As := [.int v_47]) (rest := []) C0 (c_Mod_apart l G q_46.2.1 _ b_49 v_47 q_48 e9) (x_cwV 1 C0 kw_4_174 kw_4_177 kw_1_3 kw_4_175 kw_4_176 (by decide +kernel) (x_rm hR1 hR2 (Nat.le_of_ble_eq_true rfl) (Nat.le_of_ble_eq_true rfl))) (x_preV hE hH hS (ci := 5) rfl hb9) rfl rfl hl.1 (by rw [e8]; rfl) (lv_room (by first | exact Nat.le_of_ble_eq_true rfl | simp only [List.map_cons, List.map_nil, List.sum_cons, List.sum_nil, va_rf_cat, x_catI, x_catL, x_catA] <;> decide)) d_Law_law_348 (x_le0 (Nat.le_trans (by omega) hR3) (Nat.le_trans (by omega) hR4))) (fun H locs hH hS hz9 => ?_)
        have hz := hz9.trans hz
        refine x_istore (lv' := [(6, .inl q_48.1), (5, .inl q_46.1), (0, .inr (.inl (some b))), (1, .inr (.inl r1)), (2, .inr (.inl r2)), (3, .inr (.inl r3)), (4, .inl x4)]) C0 hl d_Law_law_351 (by decide) rfl (fun ls hl => ?_)
        refine x_goto C0 849 d_Law_law_353 (by decide) ?_
        refine x_iinc (v := 5) (lv' := [(4, .inl (x4 + 5)), (6, .inl q_48.1), (5, .inl q_46.1), (0, .inr (.inl (some b))), (1, .inr (.inl r1)), (2, .inr (.inl r2)), (3, .inr (.inl r3))]) C0 hl 6 d_Law_law_849 rfl (by decide) (by decide) rfl (fun ls hl => ?_)
        refine x_goto C0 23 d_Law_law_852 (by decide) ?_
        refine W.widen (k := cells + (513 - n) * 11) (n := slots + (513 - n) * 152 + g) (by omega) (by omega) ?_
        exact ih _ _ _ _ _ _ (by omega) (by omega) q ls hH hS hz (x_sub hl [3, 4, 5, 6, 0] rfl) h K
      rw [if_neg z] at h
      have z4 := lv_neT z (a := 4) (by decide)
      by_cases z : (v_8 &&& (31 : Int32)) = 5
      · rw [if_pos z] at h
        refine lv_tableIn (tgt := 356) C0.1 C0.2.1 d_Law_law_39 (by rw [z]; decide) (by rw [z]; decide) (by rw [z]; rfl) (by decide) ?_
        refine x_aload_n C0 hl 1 d_Law_law_356 rfl rfl ?_
        refine x_aload_n C0 hl 0 d_Law_law_357 rfl rfl ?_
        refine x_iload C0 hl 4 d_Law_law_358 rfl ?_
        refine lv_iconst (v := 1) C0.1 C0.2.1 d_Law_law_360 (by decide) ?_
        refine lv_iadd C0.1 C0.2.1 d_Law_law_361 ?_
        refine x_sld C0 hX hbl hbA hS d_Law_law_362 h (fun v_50 h => ?_)
        refine x_aload_n C0 hl 0 d_Law_law_363 rfl rfl ?_
        refine x_iload C0 hl 4 d_Law_law_364 rfl ?_
        refine lv_iconst (v := 2) C0.1 C0.2.1 d_Law_law_366 (by decide) ?_
        refine lv_iadd C0.1 C0.2.1 d_Law_law_367 ?_
        refine x_sld C0 hX hbl hbA hS d_Law_law_368 h (fun v_51 h => ?_)
        refine x_aload_n C0 hl 0 d_Law_law_369 rfl rfl ?_
        refine x_iload C0 hl 4 d_Law_law_370 rfl ?_
        refine lv_iconst (v := 3) C0.1 C0.2.1 d_Law_law_372 (by decide) ?_
        refine lv_iadd C0.1 C0.2.1 d_Law_law_373 ?_
        refine x_sld C0 hX hbl hbA hS d_Law_law_374 h (fun v_52 h => ?_)
        refine x_aload_n C0 hl 3 d_Law_law_375 rfl rfl ?_
        obtain ⟨q_53, e9, h⟩ := Option.bind_eq_some_iff.mp h
        have e9 := (show f_Law_place w (Array.size H) r1 v_50 v_51 v_52 r3 = some q_53 by rw [hz]; exact e9)
        refine x_call hS (vx_runSW (As := [va_rf r1, .int v_50, .int v_51, .int v_52, va_rf r3]) (rest := []) C0 (c_Law_place l G w _ r1 v_50 v_51 v_52 r3 q_53 e9 hlt) (vx_cwSW 5 C0.2.2.2.2 (x_goodW kw_2_155 kw_2_153 kw_2_154 kw_1_0) rfl rfl rfl (by decide +kernel) (x_rm hR1 hR2 (Nat.le_of_ble_eq_true rfl) (Nat.le_of_ble_eq_true rfl))) (x_preS hE hH hS) rfl rfl hl.1 rfl (lv_room (by first | exact Nat.le_of_ble_eq_true rfl | simp only [List.map_cons, List.map_nil, List.sum_cons, List.sum_nil, va_rf_cat, x_catI, x_catL, x_catA] <;> decide)) d_Law_law_376 ⟨Nat.le_trans (by omega) hR3, Nat.le_trans (by omega) hR4⟩) (fun H locs hH hS hz => ?_)
        refine W.widen (k := cells + (513 - (n + 1)) * 11 + 1) (n := slots + (513 - (n + 1)) * 152 + g + 6) (by omega) (by omega) ?_
        refine x_istore (lv' := [(5, .inl q_53.1), (0, .inr (.inl (some b))), (1, .inr (.inl r1)), (2, .inr (.inl r2)), (3, .inr (.inl r3)), (4, .inl x4)]) C0 hl d_Law_law_379 (by decide) rfl (fun ls hl => ?_)
        refine x_aload_n C0 hl 3 d_Law_law_381 rfl rfl ?_
        refine x_aload_n C0 hl 1 d_Law_law_382 rfl rfl ?_
        refine x_iload C0 hl 5 d_Law_law_383 rfl ?_
        refine lv_iconst (v := 1) C0.1 C0.2.1 d_Law_law_385 (by decide) ?_
        refine lv_iadd C0.1 C0.2.1 d_Law_law_386 ?_
        refine x_sld C0 hX hbl hbA hS d_Law_law_387 h (fun v_54 h => ?_)
        refine x_aload_n C0 hl 1 d_Law_law_388 rfl rfl ?_
        refine x_iload C0 hl 5 d_Law_law_389 rfl ?_
        refine lv_iconst (v := 2) C0.1 C0.2.1 d_Law_law_391 (by decide) ?_
        refine lv_iadd C0.1 C0.2.1 d_Law_law_392 ?_
        refine x_sld C0 hX hbl hbA hS d_Law_law_393 h (fun v_55 h => ?_)
        refine x_aload_n C0 hl 1 d_Law_law_394 rfl rfl ?_
        refine x_iload C0 hl 5 d_Law_law_395 rfl ?_
        refine lv_iconst (v := 3) C0.1 C0.2.1 d_Law_law_397 (by decide) ?_
        refine lv_iadd C0.1 C0.2.1 d_Law_law_398 ?_
        refine x_sld C0 hX hbl hbA hS d_Law_law_399 h (fun v_56 h => ?_)
        obtain ⟨b_58, e9, h⟩ := Option.bind_eq_some_iff.mp h
        obtain ⟨e8, fs9, hb9⟩ := xo_inv e9
        obtain ⟨q_57, e9, h⟩ := Option.bind_eq_some_iff.mp h
        refine x_call0 hS (va_runV (As := [.int v_54, .int v_55, .int v_56]) (rest := []) C0 (c_Mod_place l G q_53.2.1 _ b_58 v_54 v_55 v_56 q_57 e9) (x_cwV 3 C0 kw_4_182 kw_4_185 kw_1_3 kw_4_183 kw_4_184 (by decide +kernel) (x_rm hR1 hR2 (Nat.le_of_ble_eq_true rfl) (Nat.le_of_ble_eq_true rfl))) (x_preV hE hH hS (ci := 5) rfl hb9) rfl rfl hl.1 (by rw [e8]; rfl) (lv_room (by first | exact Nat.le_of_ble_eq_true rfl | simp only [List.map_cons, List.map_nil, List.sum_cons, List.sum_nil, va_rf_cat, x_catI, x_catL, x_catA] <;> decide)) d_Law_law_400 (x_le0 (Nat.le_trans (by omega) hR3) (Nat.le_trans (by omega) hR4))) (fun H locs hH hS hz9 => ?_)
        have hz := hz9.trans hz
        refine x_istore (lv' := [(6, .inl q_57.1), (5, .inl q_53.1), (0, .inr (.inl (some b))), (1, .inr (.inl r1)), (2, .inr (.inl r2)), (3, .inr (.inl r3)), (4, .inl x4)]) C0 hl d_Law_law_403 (by decide) rfl (fun ls hl => ?_)
        refine x_goto C0 849 d_Law_law_405 (by decide) ?_
        refine x_iinc (v := 5) (lv' := [(4, .inl (x4 + 5)), (6, .inl q_57.1), (5, .inl q_53.1), (0, .inr (.inl (some b))), (1, .inr (.inl r1)), (2, .inr (.inl r2)), (3, .inr (.inl r3))]) C0 hl 6 d_Law_law_849 rfl (by decide) (by decide) rfl (fun ls hl => ?_)
        refine x_goto C0 23 d_Law_law_852 (by decide) ?_
        refine W.widen (k := cells + (513 - n) * 11) (n := slots + (513 - n) * 152 + g) (by omega) (by omega) ?_
        exact ih _ _ _ _ _ _ (by omega) (by omega) q ls hH hS hz (x_sub hl [3, 4, 5, 6, 0] rfl) h K
      rw [if_neg z] at h
      have z5 := lv_neT z (a := 5) (by decide)
      by_cases z : (v_8 &&& (31 : Int32)) = 6
      · rw [if_pos z] at h
        refine lv_tableIn (tgt := 408) C0.1 C0.2.1 d_Law_law_39 (by rw [z]; decide) (by rw [z]; decide) (by rw [z]; rfl) (by decide) ?_
        refine x_aload_n C0 hl 1 d_Law_law_408 rfl rfl ?_
        refine x_aload_n C0 hl 0 d_Law_law_409 rfl rfl ?_
        refine x_iload C0 hl 4 d_Law_law_410 rfl ?_
        refine lv_iconst (v := 1) C0.1 C0.2.1 d_Law_law_412 (by decide) ?_
        refine lv_iadd C0.1 C0.2.1 d_Law_law_413 ?_
        refine x_sld C0 hX hbl hbA hS d_Law_law_414 h (fun v_59 h => ?_)
        refine x_aload_n C0 hl 0 d_Law_law_415 rfl rfl ?_
        refine x_iload C0 hl 4 d_Law_law_416 rfl ?_
        refine lv_iconst (v := 2) C0.1 C0.2.1 d_Law_law_418 (by decide) ?_
        refine lv_iadd C0.1 C0.2.1 d_Law_law_419 ?_
        refine x_sld C0 hX hbl hbA hS d_Law_law_420 h (fun v_60 h => ?_)
        refine x_aload_n C0 hl 0 d_Law_law_421 rfl rfl ?_
        refine x_iload C0 hl 4 d_Law_law_422 rfl ?_
        refine lv_iconst (v := 3) C0.1 C0.2.1 d_Law_law_424 (by decide) ?_
        refine lv_iadd C0.1 C0.2.1 d_Law_law_425 ?_
        refine x_sld C0 hX hbl hbA hS d_Law_law_426 h (fun v_61 h => ?_)
        refine x_aload_n C0 hl 3 d_Law_law_427 rfl rfl ?_
        obtain ⟨q_62, e9, h⟩ := Option.bind_eq_some_iff.mp h
        have e9 := (show f_Law_at w (Array.size H) r1 v_59 v_60 v_61 r3 = some q_62 by rw [hz]; exact e9)
        refine x_call hS (vx_runSW (As := [va_rf r1, .int v_59, .int v_60, .int v_61, va_rf r3]) (rest := []) C0 (c_Law_at l G w _ r1 v_59 v_60 v_61 r3 q_62 e9 hlt) (vx_cwSW 5 C0.2.2.2.2 (x_goodW kw_2_203 kw_2_201 kw_2_202 kw_1_0) rfl rfl rfl (by decide +kernel) (x_rm hR1 hR2 (Nat.le_of_ble_eq_true rfl) (Nat.le_of_ble_eq_true rfl))) (x_preS hE hH hS) rfl rfl hl.1 rfl (lv_room (by first | exact Nat.le_of_ble_eq_true rfl | simp only [List.map_cons, List.map_nil, List.sum_cons, List.sum_nil, va_rf_cat, x_catI, x_catL, x_catA] <;> decide)) d_Law_law_428 ⟨Nat.le_trans (by omega) hR3, Nat.le_trans (by omega) hR4⟩) (fun H locs hH hS hz => ?_)
        refine W.widen (k := cells + (513 - (n + 1)) * 11 + 1) (n := slots + (513 - (n + 1)) * 152 + g + 6) (by omega) (by omega) ?_
        refine x_istore (lv' := [(5, .inl q_62.1), (0, .inr (.inl (some b))), (1, .inr (.inl r1)), (2, .inr (.inl r2)), (3, .inr (.inl r3)), (4, .inl x4)]) C0 hl d_Law_law_431 (by decide) rfl (fun ls hl => ?_)
        refine x_aload_n C0 hl 3 d_Law_law_433 rfl rfl ?_
        refine x_aload_n C0 hl 1 d_Law_law_434 rfl rfl ?_
        refine x_iload C0 hl 5 d_Law_law_435 rfl ?_
        refine lv_iconst (v := 1) C0.1 C0.2.1 d_Law_law_437 (by decide) ?_
        refine lv_iadd C0.1 C0.2.1 d_Law_law_438 ?_
        refine x_sld C0 hX hbl hbA hS d_Law_law_439 h (fun v_63 h => ?_)
        refine x_aload_n C0 hl 1 d_Law_law_440 rfl rfl ?_
        refine x_iload C0 hl 5 d_Law_law_441 rfl ?_
        refine lv_iconst (v := 2) C0.1 C0.2.1 d_Law_law_443 (by decide) ?_
        refine lv_iadd C0.1 C0.2.1 d_Law_law_444 ?_
        refine x_sld C0 hX hbl hbA hS d_Law_law_445 h (fun v_64 h => ?_)
        refine x_aload_n C0 hl 1 d_Law_law_446 rfl rfl ?_
        refine x_iload C0 hl 5 d_Law_law_447 rfl ?_
        refine lv_iconst (v := 3) C0.1 C0.2.1 d_Law_law_449 (by decide) ?_
        refine lv_iadd C0.1 C0.2.1 d_Law_law_450 ?_
        refine x_sld C0 hX hbl hbA hS d_Law_law_451 h (fun v_65 h => ?_)
        obtain ⟨b_67, e9, h⟩ := Option.bind_eq_some_iff.mp h
        obtain ⟨e8, fs9, hb9⟩ := xo_inv e9
        obtain ⟨q_66, e9, h⟩ := Option.bind_eq_some_iff.mp h
        refine x_call0 hS (va_runV (As := [.int v_63, .int v_64, .int v_65]) (rest := []) C0 (c_Mod_at l G q_62.2.1 _ b_67 v_63 v_64 v_65 q_66 e9) (x_cwV 3 C0 kw_4_230 kw_4_233 kw_1_3 kw_4_231 kw_4_232 (by decide +kernel) (x_rm hR1 hR2 (Nat.le_of_ble_eq_true rfl) (Nat.le_of_ble_eq_true rfl))) (x_preV hE hH hS (ci := 5) rfl hb9) rfl rfl hl.1 (by rw [e8]; rfl) (lv_room (by first | exact Nat.le_of_ble_eq_true rfl | simp only [List.map_cons, List.map_nil, List.sum_cons, List.sum_nil, va_rf_cat, x_catI, x_catL, x_catA] <;> decide)) d_Law_law_452 (x_le0 (Nat.le_trans (by omega) hR3) (Nat.le_trans (by omega) hR4))) (fun H locs hH hS hz9 => ?_)
        have hz := hz9.trans hz
        refine x_istore (lv' := [(6, .inl q_66.1), (5, .inl q_62.1), (0, .inr (.inl (some b))), (1, .inr (.inl r1)), (2, .inr (.inl r2)), (3, .inr (.inl r3)), (4, .inl x4)]) C0 hl d_Law_law_455 (by decide) rfl (fun ls hl => ?_)
        refine x_aload_n C0 hl 4 d_Law_law_457 rfl rfl ?_
        obtain ⟨b_69, e9, h⟩ := Option.bind_eq_some_iff.mp h
        obtain ⟨e8, fs9, hb9⟩ := xo_inv e9
        obtain ⟨q_68, e9, h⟩ := Option.bind_eq_some_iff.mp h
        refine x_callP (va_runV (As := []) (rest := []) C0 (c_Mod_thrown l G q_66.2 _ b_69 q_68 e9) (x_cwV 0 C0 kw_4_147 kw_4_150 kw_1_3 kw_4_148 kw_4_149 (by decide +kernel) (x_rm hR1 hR2 (Nat.le_of_ble_eq_true rfl) (Nat.le_of_ble_eq_true rfl))) (x_preV hE hH hS (ci := 5) rfl hb9) rfl rfl hl.1 (by rw [e8]; rfl) (lv_room (by first | exact Nat.le_of_ble_eq_true rfl | simp only [List.map_cons, List.map_nil, List.sum_cons, List.sum_nil, va_rf_cat, x_catI, x_catL, x_catA] <;> decide)) d_Law_law_458 (x_le0 (Nat.le_trans (by omega) hR3) (Nat.le_trans (by omega) hR4))) ?_
        refine x_iload C0 hl 1 d_Law_law_461 rfl ?_
        refine x_icmp_eq C0 468 d_Law_law_463 (by decide) h (fun h => ?_) (fun h => ?_)
        · refine x_iload C0 hl 1 d_Law_law_468 rfl ?_
          refine x_if_ne C0 485 d_Law_law_470 (by decide) h (fun h => ?_) (fun h => ?_)
          · refine x_goto C0 849 d_Law_law_485 (by decide) ?_
            refine x_iinc (v := 5) (lv' := [(4, .inl (x4 + 5)), (6, .inl q_66.1), (5, .inl q_62.1), (0, .inr (.inl (some b))), (1, .inr (.inl r1)), (2, .inr (.inl r2)), (3, .inr (.inl r3))]) C0 hl 6 d_Law_law_849 rfl (by decide) (by decide) rfl (fun ls hl => ?_)
            refine x_goto C0 23 d_Law_law_852 (by decide) ?_
            refine W.widen (k := cells + (513 - n) * 11) (n := slots + (513 - n) * 152 + g) (by omega) (by omega) ?_
            exact ih _ _ _ _ _ _ (by omega) (by omega) q ls hH hS hz (x_sub hl [3, 4, 5, 6, 0] rfl) h K
          · refine x_aload_n C0 hl 5 d_Law_law_473 rfl rfl ?_
            refine lv_iconst (v := 0) C0.1 C0.2.1 d_Law_law_474 (by decide) ?_
            refine x_lald C0 hE hH (t := 5) rfl d_Law_law_475 h (fun v_70 h => ?_)
            refine x_iload C0 hl 0 d_Law_law_476 rfl ?_
            refine lv_i2l C0.1 C0.2.1 d_Law_law_478 rfl ?_
            refine W.lcmp C0.1 C0.2.1 d_Law_law_479 ?_
            refine x_if_eq C0 485 d_Law_law_480 (by decide) h (fun h => ?_) (fun h => ?_)
            · refine x_goto C0 849 d_Law_law_485 (by decide) ?_
              refine x_iinc (v := 5) (lv' := [(4, .inl (x4 + 5)), (6, .inl q_66.1), (5, .inl q_62.1), (0, .inr (.inl (some b))), (1, .inr (.inl r1)), (2, .inr (.inl r2)), (3, .inr (.inl r3))]) C0 hl 6 d_Law_law_849 rfl (by decide) (by decide) rfl (fun ls hl => ?_)
              refine x_goto C0 23 d_Law_law_852 (by decide) ?_
              refine W.widen (k := cells + (513 - n) * 11) (n := slots + (513 - n) * 152 + g) (by omega) (by omega) ?_
              exact ih _ _ _ _ _ _ (by omega) (by omega) q ls hH hS hz (x_sub hl [3, 4, 5, 6, 0] rfl) h K
            · cases h
              refine W.widen (k := cells + 513 * 11) (n := slots + 513 * 152 + 40000) (by omega) (by omega) ?_
              exact K.2.2 rfl _ _ ls hH hS hz (x_sub hl [2, 3, 4, 5, 6] rfl)
        · cases h
          refine W.widen (k := cells + 513 * 11) (n := slots + 513 * 152 + 40000) (by omega) (by omega) ?_
          exact K.2.1 rfl _ _ ls hH hS hz (x_sub hl [2, 3, 4, 5, 6] rfl)
      rw [if_neg z] at h
      have z6 := lv_neT z (a := 6) (by decide)
      by_cases z : (v_8 &&& (31 : Int32)) = 7
      · rw [if_pos z] at h
        refine lv_tableIn (tgt := 488) C0.1 C0.2.1 d_Law_law_39 (by rw [z]; decide) (by rw [z]; decide) (by rw [z]; rfl) (by decide) ?_
        refine x_aload_n C0 hl 1 d_Law_law_488 rfl rfl ?_
        refine x_aload_n C0 hl 0 d_Law_law_489 rfl rfl ?_
        refine x_iload C0 hl 4 d_Law_law_490 rfl ?_
        refine lv_iconst (v := 1) C0.1 C0.2.1 d_Law_law_492 (by decide) ?_
        refine lv_iadd C0.1 C0.2.1 d_Law_law_493 ?_
        refine x_sld C0 hX hbl hbA hS d_Law_law_494 h (fun v_71 h => ?_)
        refine x_aload_n C0 hl 0 d_Law_law_495 rfl rfl ?_
        refine x_iload C0 hl 4 d_Law_law_496 rfl ?_
        refine lv_iconst (v := 2) C0.1 C0.2.1 d_Law_law_498 (by decide) ?_
        refine lv_iadd C0.1 C0.2.1 d_Law_law_499 ?_
        refine x_sld C0 hX hbl hbA hS d_Law_law_500 h (fun v_72 h => ?_)
        refine x_aload_n C0 hl 3 d_Law_law_501 rfl rfl ?_
        obtain ⟨q_73, e9, h⟩ := Option.bind_eq_some_iff.mp h
        have e9 := (show f_Law_about w (Array.size H) r1 v_71 v_72 r3 = some q_73 by rw [hz]; exact e9)
        refine x_call hS (vx_runSW (As := [va_rf r1, .int v_71, .int v_72, va_rf r3]) (rest := []) C0 (c_Law_about l G w _ r1 v_71 v_72 r3 q_73 e9 hlt) (vx_cwSW 4 C0.2.2.2.2 (x_goodW kw_2_221 kw_2_219 kw_2_220 kw_1_0) rfl rfl rfl (by decide +kernel) (x_rm hR1 hR2 (Nat.le_of_ble_eq_true rfl) (Nat.le_of_ble_eq_true rfl))) (x_preS hE hH hS) rfl rfl hl.1 rfl (lv_room (by first | exact Nat.le_of_ble_eq_true rfl | simp only [List.map_cons, List.map_nil, List.sum_cons, List.sum_nil, va_rf_cat, x_catI, x_catL, x_catA] <;> decide)) d_Law_law_502 ⟨Nat.le_trans (by omega) hR3, Nat.le_trans (by omega) hR4⟩) (fun H locs hH hS hz => ?_)
        refine W.widen (k := cells + (513 - (n + 1)) * 11 + 1) (n := slots + (513 - (n + 1)) * 152 + g + 6) (by omega) (by omega) ?_
        refine x_istore (lv' := [(5, .inl q_73.1), (0, .inr (.inl (some b))), (1, .inr (.inl r1)), (2, .inr (.inl r2)), (3, .inr (.inl r3)), (4, .inl x4)]) C0 hl d_Law_law_505 (by decide) rfl (fun ls hl => ?_)
        refine x_aload_n C0 hl 3 d_Law_law_507 rfl rfl ?_
        refine x_aload_n C0 hl 1 d_Law_law_508 rfl rfl ?_
        refine x_iload C0 hl 5 d_Law_law_509 rfl ?_
        refine lv_iconst (v := 1) C0.1 C0.2.1 d_Law_law_511 (by decide) ?_
        refine lv_iadd C0.1 C0.2.1 d_Law_law_512 ?_
        refine x_sld C0 hX hbl hbA hS d_Law_law_513 h (fun v_74 h => ?_)
        refine x_aload_n C0 hl 1 d_Law_law_514 rfl rfl ?_
        refine x_iload C0 hl 5 d_Law_law_515 rfl ?_
        refine lv_iconst (v := 2) C0.1 C0.2.1 d_Law_law_517 (by decide) ?_
        refine lv_iadd C0.1 C0.2.1 d_Law_law_518 ?_
        refine x_sld C0 hX hbl hbA hS d_Law_law_519 h (fun v_75 h => ?_)
        obtain ⟨b_77, e9, h⟩ := Option.bind_eq_some_iff.mp h
        obtain ⟨e8, fs9, hb9⟩ := xo_inv e9
        obtain ⟨q_76, e9, h⟩ := Option.bind_eq_some_iff.mp h
        refine x_call0 hS (va_runV (As := [.int v_74, .int v_75]) (rest := []) C0 (c_Mod_about l G q_73.2.1 _ b_77 v_74 v_75 q_76 e9) (x_cwV 2 C0 kw_4_238 kw_5_1 kw_1_3 kw_4_239 kw_5_0 (by decide +kernel) (x_rm hR1 hR2 (Nat.le_of_ble_eq_true rfl) (Nat.le_of_ble_eq_true rfl))) (x_preV hE hH hS (ci := 5) rfl hb9) rfl rfl hl.1 (by rw [e8]; rfl) (lv_room (by first | exact Nat.le_of_ble_eq_true rfl | simp only [List.map_cons, List.map_nil, List.sum_cons, List.sum_nil, va_rf_cat, x_catI, x_catL, x_catA] <;> decide)) d_Law_law_520 (x_le0 (Nat.le_trans (by omega) hR3) (Nat.le_trans (by omega) hR4))) (fun H locs hH hS hz9 => ?_)
        have hz := hz9.trans hz
        refine x_istore (lv' := [(6, .inl q_76.1), (5, .inl q_73.1), (0, .inr (.inl (some b))), (1, .inr (.inl r1)), (2, .inr (.inl r2)), (3, .inr (.inl r3)), (4, .inl x4)]) C0 hl d_Law_law_523 (by decide) rfl (fun ls hl => ?_)
        refine x_goto C0 849 d_Law_law_525 (by decide) ?_
        refine x_iinc (v := 5) (lv' := [(4, .inl (x4 + 5)), (6, .inl q_76.1), (5, .inl q_73.1), (0, .inr (.inl (some b))), (1, .inr (.inl r1)), (2, .inr (.inl r2)), (3, .inr (.inl r3))]) C0 hl 6 d_Law_law_849 rfl (by decide) (by decide) rfl (fun ls hl => ?_)
        refine x_goto C0 23 d_Law_law_852 (by decide) ?_
        refine W.widen (k := cells + (513 - n) * 11) (n := slots + (513 - n) * 152 + g) (by omega) (by omega) ?_
        exact ih _ _ _ _ _ _ (by omega) (by omega) q ls hH hS hz (x_sub hl [3, 4, 5, 6, 0] rfl) h K
      rw [if_neg z] at h
      have z7 := lv_neT z (a := 7) (by decide)
      by_cases z : (v_8 &&& (31 : Int32)) = 8
      · rw [if_pos z] at h
        refine lv_tableIn (tgt := 528) C0.1 C0.2.1 d_Law_law_39 (by rw [z]; decide) (by rw [z]; decide) (by rw [z]; rfl) (by decide) ?_
        refine x_aload_n C0 hl 1 d_Law_law_528 rfl rfl ?_
        refine x_aload_n C0 hl 0 d_Law_law_529 rfl rfl ?_
        refine x_iload C0 hl 4 d_Law_law_530 rfl ?_
        refine lv_iconst (v := 1) C0.1 C0.2.1 d_Law_law_532 (by decide) ?_
        refine lv_iadd C0.1 C0.2.1 d_Law_law_533 ?_
        refine x_sld C0 hX hbl hbA hS d_Law_law_534 h (fun v_78 h => ?_)
        refine x_aload_n C0 hl 0 d_Law_law_535 rfl rfl ?_
        refine x_iload C0 hl 4 d_Law_law_536 rfl ?_
        refine lv_iconst (v := 2) C0.1 C0.2.1 d_Law_law_538 (by decide) ?_
        refine lv_iadd C0.1 C0.2.1 d_Law_law_539 ?_
        refine x_sld C0 hX hbl hbA hS d_Law_law_540 h (fun v_79 h => ?_)
        refine x_aload_n C0 hl 3 d_Law_law_541 rfl rfl ?_
        obtain ⟨q_80, e9, h⟩ := Option.bind_eq_some_iff.mp h
        have e9 := (show f_Law_seam w (Array.size H) r1 v_78 v_79 r3 = some q_80 by rw [hz]; exact e9)
        refine x_call hS (vx_runSW (As := [va_rf r1, .int v_78, .int v_79, va_rf r3]) (rest := []) C0 (c_Law_seam l G w _ r1 v_78 v_79 r3 q_80 e9 hlt) (vx_cwSW 4 C0.2.2.2.2 (x_goodW kw_3_1 kw_2_239 kw_3_0 kw_1_0) rfl rfl rfl (by decide +kernel) (x_rm hR1 hR2 (Nat.le_of_ble_eq_true rfl) (Nat.le_of_ble_eq_true rfl))) (x_preS hE hH hS) rfl rfl hl.1 rfl (lv_room (by first | exact Nat.le_of_ble_eq_true rfl | simp only [List.map_cons, List.map_nil, List.sum_cons, List.sum_nil, va_rf_cat, x_catI, x_catL, x_catA] <;> decide)) d_Law_law_542 ⟨Nat.le_trans (by omega) hR3, Nat.le_trans (by omega) hR4⟩) (fun H locs hH hS hz => ?_)
        refine W.widen (k := cells + (513 - (n + 1)) * 11 + 1) (n := slots + (513 - (n + 1)) * 152 + g + 6) (by omega) (by omega) ?_
        refine x_istore (lv' := [(5, .inl q_80.1), (0, .inr (.inl (some b))), (1, .inr (.inl r1)), (2, .inr (.inl r2)), (3, .inr (.inl r3)), (4, .inl x4)]) C0 hl d_Law_law_545 (by decide) rfl (fun ls hl => ?_)
        refine x_aload_n C0 hl 3 d_Law_law_547 rfl rfl ?_
        refine x_aload_n C0 hl 1 d_Law_law_548 rfl rfl ?_
        refine x_iload C0 hl 5 d_Law_law_549 rfl ?_
        refine lv_iconst (v := 1) C0.1 C0.2.1 d_Law_law_551 (by decide) ?_
        refine lv_iadd C0.1 C0.2.1 d_Law_law_552 ?_
        refine x_sld C0 hX hbl hbA hS d_Law_law_553 h (fun v_81 h => ?_)
        refine x_aload_n C0 hl 1 d_Law_law_554 rfl rfl ?_
        refine x_iload C0 hl 5 d_Law_law_555 rfl ?_
        refine lv_iconst (v := 2) C0.1 C0.2.1 d_Law_law_557 (by decide) ?_
        refine lv_iadd C0.1 C0.2.1 d_Law_law_558 ?_
        refine x_sld C0 hX hbl hbA hS d_Law_law_559 h (fun v_82 h => ?_)
        obtain ⟨b_84, e9, h⟩ := Option.bind_eq_some_iff.mp h
        obtain ⟨e8, fs9, hb9⟩ := xo_inv e9
        obtain ⟨q_83, e9, h⟩ := Option.bind_eq_some_iff.mp h
        refine x_call0 hS (va_runV (As := [.int v_81, .int v_82]) (rest := []) C0 (c_Mod_seam l G q_80.2.1 _ b_84 v_81 v_82 q_83 e9) (x_cwV 2 C0 kw_5_7 kw_5_10 kw_1_3 kw_5_8 kw_5_9 (by decide +kernel) (x_rm hR1 hR2 (Nat.le_of_ble_eq_true rfl) (Nat.le_of_ble_eq_true rfl))) (x_preV hE hH hS (ci := 5) rfl hb9) rfl rfl hl.1 (by rw [e8]; rfl) (lv_room (by first | exact Nat.le_of_ble_eq_true rfl | simp only [List.map_cons, List.map_nil, List.sum_cons, List.sum_nil, va_rf_cat, x_catI, x_catL, x_catA] <;> decide)) d_Law_law_560 (x_le0 (Nat.le_trans (by omega) hR3) (Nat.le_trans (by omega) hR4))) (fun H locs hH hS hz9 => ?_)
        have hz := hz9.trans hz
        refine x_istore (lv' := [(6, .inl q_83.1), (5, .inl q_80.1), (0, .inr (.inl (some b))), (1, .inr (.inl r1)), (2, .inr (.inl r2)), (3, .inr (.inl r3)), (4, .inl x4)]) C0 hl d_Law_law_563 (by decide) rfl (fun ls hl => ?_)
        refine x_goto C0 849 d_Law_law_565 (by decide) ?_
        refine x_iinc (v := 5) (lv' := [(4, .inl (x4 + 5)), (6, .inl q_83.1), (5, .inl q_80.1), (0, .inr (.inl (some b))), (1, .inr (.inl r1)), (2, .inr (.inl r2)), (3, .inr (.inl r3))]) C0 hl 6 d_Law_law_849 rfl (by decide) (by decide) rfl (fun ls hl => ?_)
        refine x_goto C0 23 d_Law_law_852 (by decide) ?_
        refine W.widen (k := cells + (513 - n) * 11) (n := slots + (513 - n) * 152 + g) (by omega) (by omega) ?_
        exact ih _ _ _ _ _ _ (by omega) (by omega) q ls hH hS hz (x_sub hl [3, 4, 5, 6, 0] rfl) h K
      rw [if_neg z] at h
      have z8 := lv_neT z (a := 8) (by decide)
      by_cases z : (v_8 &&& (31 : Int32)) = 9
      · rw [if_pos z] at h
        refine lv_tableIn (tgt := 568) C0.1 C0.2.1 d_Law_law_39 (by rw [z]; decide) (by rw [z]; decide) (by rw [z]; rfl) (by decide) ?_
        refine x_aload_n C0 hl 1 d_Law_law_568 rfl rfl ?_
        refine x_aload_n C0 hl 0 d_Law_law_569 rfl rfl ?_
        refine x_iload C0 hl 4 d_Law_law_570 rfl ?_
        refine lv_iconst (v := 1) C0.1 C0.2.1 d_Law_law_572 (by decide) ?_
        refine lv_iadd C0.1 C0.2.1 d_Law_law_573 ?_
        refine x_sld C0 hX hbl hbA hS d_Law_law_574 h (fun v_85 h => ?_)
        refine x_aload_n C0 hl 0 d_Law_law_575 rfl rfl ?_
        refine x_iload C0 hl 4 d_Law_law_576 rfl ?_
        refine lv_iconst (v := 2) C0.1 C0.2.1 d_Law_law_578 (by decide) ?_
        refine lv_iadd C0.1 C0.2.1 d_Law_law_579 ?_
        refine x_sld C0 hX hbl hbA hS d_Law_law_580 h (fun v_86 h => ?_)
        refine x_aload_n C0 hl 0 d_Law_law_581 rfl rfl ?_
        refine x_iload C0 hl 4 d_Law_law_582 rfl ?_
        refine lv_iconst (v := 3) C0.1 C0.2.1 d_Law_law_584 (by decide) ?_
        refine lv_iadd C0.1 C0.2.1 d_Law_law_585 ?_
        refine x_sld C0 hX hbl hbA hS d_Law_law_586 h (fun v_87 h => ?_)
        refine x_aload_n C0 hl 3 d_Law_law_587 rfl rfl ?_
        obtain ⟨q_88, e9, h⟩ := Option.bind_eq_some_iff.mp h
        have e9 := (show f_Law_sum w (Array.size H) r1 v_85 v_86 v_87 r3 = some q_88 by rw [hz]; exact e9)
        refine x_call hS (vx_runSW (As := [va_rf r1, .int v_85, .int v_86, .int v_87, va_rf r3]) (rest := []) C0 (c_Law_sum l G w _ r1 v_85 v_86 v_87 r3 q_88 e9 hlt) (vx_cwSW 5 C0.2.2.2.2 (x_goodW kw_3_14 kw_3_12 kw_3_13 kw_1_0) rfl rfl rfl (by decide +kernel) (x_rm hR1 hR2 (Nat.le_of_ble_eq_true rfl) (Nat.le_of_ble_eq_true rfl))) (x_preS hE hH hS) rfl rfl hl.1 rfl (lv_room (by first | exact Nat.le_of_ble_eq_true rfl | simp only [List.map_cons, List.map_nil, List.sum_cons, List.sum_nil, va_rf_cat, x_catI, x_catL, x_catA] <;> decide)) d_Law_law_588 ⟨Nat.le_trans (by omega) hR3, Nat.le_trans (by omega) hR4⟩) (fun H locs hH hS hz => ?_)
        refine W.widen (k := cells + (513 - (n + 1)) * 11 + 1) (n := slots + (513 - (n + 1)) * 152 + g + 6) (by omega) (by omega) ?_
        refine x_istore (lv' := [(5, .inl q_88.1), (0, .inr (.inl (some b))), (1, .inr (.inl r1)), (2, .inr (.inl r2)), (3, .inr (.inl r3)), (4, .inl x4)]) C0 hl d_Law_law_591 (by decide) rfl (fun ls hl => ?_)
        refine x_aload_n C0 hl 3 d_Law_law_593 rfl rfl ?_
        refine x_aload_n C0 hl 1 d_Law_law_594 rfl rfl ?_
        refine x_iload C0 hl 5 d_Law_law_595 rfl ?_
        refine lv_iconst (v := 1) C0.1 C0.2.1 d_Law_law_597 (by decide) ?_
        refine lv_iadd C0.1 C0.2.1 d_Law_law_598 ?_
        refine x_sld C0 hX hbl hbA hS d_Law_law_599 h (fun v_89 h => ?_)
        refine x_aload_n C0 hl 1 d_Law_law_600 rfl rfl ?_
        refine x_iload C0 hl 5 d_Law_law_601 rfl ?_
        refine lv_iconst (v := 2) C0.1 C0.2.1 d_Law_law_603 (by decide) ?_
        refine lv_iadd C0.1 C0.2.1 d_Law_law_604 ?_
        refine x_sld C0 hX hbl hbA hS d_Law_law_605 h (fun v_90 h => ?_)
        refine x_aload_n C0 hl 1 d_Law_law_606 rfl rfl ?_
        refine x_iload C0 hl 5 d_Law_law_607 rfl ?_
        refine lv_iconst (v := 3) C0.1 C0.2.1 d_Law_law_609 (by decide) ?_
        refine lv_iadd C0.1 C0.2.1 d_Law_law_610 ?_
        refine x_sld C0 hX hbl hbA hS d_Law_law_611 h (fun v_91 h => ?_)
        obtain ⟨b_93, e9, h⟩ := Option.bind_eq_some_iff.mp h
        obtain ⟨e8, fs9, hb9⟩ := xo_inv e9
        obtain ⟨q_92, e9, h⟩ := Option.bind_eq_some_iff.mp h
        refine x_call0 hS (va_runV (As := [.int v_89, .int v_90, .int v_91]) (rest := []) C0 (c_Mod_sum l G q_88.2.1 _ b_93 v_89 v_90 v_91 q_92 e9) (x_cwV 3 C0 kw_5_19 kw_5_22 kw_1_3 kw_5_20 kw_5_21 (by decide +kernel) (x_rm hR1 hR2 (Nat.le_of_ble_eq_true rfl) (Nat.le_of_ble_eq_true rfl))) (x_preV hE hH hS (ci := 5) rfl hb9) rfl rfl hl.1 (by rw [e8]; rfl) (lv_room (by first | exact Nat.le_of_ble_eq_true rfl | simp only [List.map_cons, List.map_nil, List.sum_cons, List.sum_nil, va_rf_cat, x_catI, x_catL, x_catA] <;> decide)) d_Law_law_612 (x_le0 (Nat.le_trans (by omega) hR3) (Nat.le_trans (by omega) hR4))) (fun H locs hH hS hz9 => ?_)
        have hz := hz9.trans hz
        refine x_lstore (lv' := [(6, .inr (.inr q_92.1)), (5, .inl q_88.1), (0, .inr (.inl (some b))), (1, .inr (.inl r1)), (2, .inr (.inl r2)), (3, .inr (.inl r3)), (4, .inl x4)]) C0 hl d_Law_law_615 (by decide) rfl (fun ls hl => ?_)
        refine x_goto C0 849 d_Law_law_617 (by decide) ?_
        refine x_iinc (v := 5) (lv' := [(4, .inl (x4 + 5)), (6, .inr (.inr q_92.1)), (5, .inl q_88.1), (0, .inr (.inl (some b))), (1, .inr (.inl r1)), (2, .inr (.inl r2)), (3, .inr (.inl r3))]) C0 hl 6 d_Law_law_849 rfl (by decide) (by decide) rfl (fun ls hl => ?_)
        refine x_goto C0 23 d_Law_law_852 (by decide) ?_
        refine W.widen (k := cells + (513 - n) * 11) (n := slots + (513 - n) * 152 + g) (by omega) (by omega) ?_
        exact ih _ _ _ _ _ _ (by omega) (by omega) q ls hH hS hz (x_sub hl [3, 4, 5, 6, 0] rfl) h K
      rw [if_neg z] at h
      have z9 := lv_neT z (a := 9) (by decide)
      by_cases z : (v_8 &&& (31 : Int32)) = 10
      · rw [if_pos z] at h
        refine lv_tableIn (tgt := 620) C0.1 C0.2.1 d_Law_law_39 (by rw [z]; decide) (by rw [z]; decide) (by rw [z]; rfl) (by decide) ?_
        refine x_aload_n C0 hl 1 d_Law_law_620 rfl rfl ?_
        refine x_aload_n C0 hl 0 d_Law_law_621 rfl rfl ?_
        refine x_iload C0 hl 4 d_Law_law_622 rfl ?_
        refine lv_iconst (v := 1) C0.1 C0.2.1 d_Law_law_624 (by decide) ?_
        refine lv_iadd C0.1 C0.2.1 d_Law_law_625 ?_
        refine x_sld C0 hX hbl hbA hS d_Law_law_626 h (fun v_94 h => ?_)
        refine x_aload_n C0 hl 0 d_Law_law_627 rfl rfl ?_
        refine x_iload C0 hl 4 d_Law_law_628 rfl ?_
        refine lv_iconst (v := 2) C0.1 C0.2.1 d_Law_law_630 (by decide) ?_
        refine lv_iadd C0.1 C0.2.1 d_Law_law_631 ?_
        refine x_sld C0 hX hbl hbA hS d_Law_law_632 h (fun v_95 h => ?_)
        refine x_aload_n C0 hl 3 d_Law_law_633 rfl rfl ?_
        obtain ⟨q_96, e9, h⟩ := Option.bind_eq_some_iff.mp h
        have e9 := (show f_Law_mirrored w (Array.size H) r1 v_94 v_95 r3 = some q_96 by rw [hz]; exact e9)
        refine x_call hS (vx_runSW (As := [va_rf r1, .int v_94, .int v_95, va_rf r3]) (rest := []) C0 (c_Law_mirrored l G w _ r1 v_94 v_95 r3 q_96 e9 hlt) (vx_cwSW 4 C0.2.2.2.2 (x_goodW kw_3_23 kw_3_21 kw_3_22 kw_1_0) rfl rfl rfl (by decide +kernel) (x_rm hR1 hR2 (Nat.le_of_ble_eq_true rfl) (Nat.le_of_ble_eq_true rfl))) (x_preS hE hH hS) rfl rfl hl.1 rfl (lv_room (by first | exact Nat.le_of_ble_eq_true rfl | simp only [List.map_cons, List.map_nil, List.sum_cons, List.sum_nil, va_rf_cat, x_catI, x_catL, x_catA] <;> decide)) d_Law_law_634 ⟨Nat.le_trans (by omega) hR3, Nat.le_trans (by omega) hR4⟩) (fun H locs hH hS hz => ?_)
        refine W.widen (k := cells + (513 - (n + 1)) * 11 + 1) (n := slots + (513 - (n + 1)) * 152 + g + 6) (by omega) (by omega) ?_
        refine x_istore (lv' := [(5, .inl q_96.1), (0, .inr (.inl (some b))), (1, .inr (.inl r1)), (2, .inr (.inl r2)), (3, .inr (.inl r3)), (4, .inl x4)]) C0 hl d_Law_law_637 (by decide) rfl (fun ls hl => ?_)
        refine x_aload_n C0 hl 3 d_Law_law_639 rfl rfl ?_
        refine x_aload_n C0 hl 1 d_Law_law_640 rfl rfl ?_
        refine x_iload C0 hl 5 d_Law_law_641 rfl ?_
        refine lv_iconst (v := 1) C0.1 C0.2.1 d_Law_law_643 (by decide) ?_
        refine lv_iadd C0.1 C0.2.1 d_Law_law_644 ?_
        refine x_sld C0 hX hbl hbA hS d_Law_law_645 h (fun v_97 h => ?_)
        refine x_aload_n C0 hl 1 d_Law_law_646 rfl rfl ?_
        refine x_iload C0 hl 5 d_Law_law_647 rfl ?_
        refine lv_iconst (v := 2) C0.1 C0.2.1 d_Law_law_649 (by decide) ?_
        refine lv_iadd C0.1 C0.2.1 d_Law_law_650 ?_
        refine x_sld C0 hX hbl hbA hS d_Law_law_651 h (fun v_98 h => ?_)
        obtain ⟨b_100, e9, h⟩ := Option.bind_eq_some_iff.mp h
        obtain ⟨e8, fs9, hb9⟩ := xo_inv e9
        obtain ⟨q_99, e9, h⟩ := Option.bind_eq_some_iff.mp h
        refine x_call0 hS (va_runV (As := [.int v_97, .int v_98]) (rest := []) C0 (c_Mod_mirrored l G q_96.2.1 _ b_100 v_97 v_98 q_99 e9) (x_cwV 2 C0 kw_5_23 kw_5_26 kw_1_3 kw_5_24 kw_5_25 (by decide +kernel) (x_rm hR1 hR2 (Nat.le_of_ble_eq_true rfl) (Nat.le_of_ble_eq_true rfl))) (x_preV hE hH hS (ci := 5) rfl hb9) rfl rfl hl.1 (by rw [e8]; rfl) (lv_room (by first | exact Nat.le_of_ble_eq_true rfl | simp only [List.map_cons, List.map_nil, List.sum_cons, List.sum_nil, va_rf_cat, x_catI, x_catL, x_catA] <;> decide)) d_Law_law_652 (x_le0 (Nat.le_trans (by omega) hR3) (Nat.le_trans (by omega) hR4))) (fun H locs hH hS hz9 => ?_)
        have hz := hz9.trans hz
        refine x_istore (lv' := [(6, .inl q_99.1), (5, .inl q_96.1), (0, .inr (.inl (some b))), (1, .inr (.inl r1)), (2, .inr (.inl r2)), (3, .inr (.inl r3)), (4, .inl x4)]) C0 hl d_Law_law_655 (by decide) rfl (fun ls hl => ?_)
        refine x_goto C0 849 d_Law_law_657 (by decide) ?_
        refine x_iinc (v := 5) (lv' := [(4, .inl (x4 + 5)), (6, .inl q_99.1), (5, .inl q_96.1), (0, .inr (.inl (some b))), (1, .inr (.inl r1)), (2, .inr (.inl r2)), (3, .inr (.inl r3))]) C0 hl 6 d_Law_law_849 rfl (by decide) (by decide) rfl (fun ls hl => ?_)
        refine x_goto C0 23 d_Law_law_852 (by decide) ?_
        refine W.widen (k := cells + (513 - n) * 11) (n := slots + (513 - n) * 152 + g) (by omega) (by omega) ?_
        exact ih _ _ _ _ _ _ (by omega) (by omega) q ls hH hS hz (x_sub hl [3, 4, 5, 6, 0] rfl) h K
      rw [if_neg z] at h
      have z10 := lv_neT z (a := 10) (by decide)
      by_cases z : (v_8 &&& (31 : Int32)) = 11
      · rw [if_pos z] at h
        refine lv_tableIn (tgt := 660) C0.1 C0.2.1 d_Law_law_39 (by rw [z]; decide) (by rw [z]; decide) (by rw [z]; rfl) (by decide) ?_
        refine x_aload_n C0 hl 1 d_Law_law_660 rfl rfl ?_
        refine x_aload_n C0 hl 0 d_Law_law_661 rfl rfl ?_
        refine x_iload C0 hl 4 d_Law_law_662 rfl ?_
        refine lv_iconst (v := 1) C0.1 C0.2.1 d_Law_law_664 (by decide) ?_
        refine lv_iadd C0.1 C0.2.1 d_Law_law_665 ?_
        refine x_sld C0 hX hbl hbA hS d_Law_law_666 h (fun v_101 h => ?_)
        refine x_aload_n C0 hl 3 d_Law_law_667 rfl rfl ?_
        obtain ⟨q_102, e9, h⟩ := Option.bind_eq_some_iff.mp h
        have e9 := (show f_Law_balance w (Array.size H) r1 v_101 r3 = some q_102 by rw [hz]; exact e9)
        refine x_call hS (vx_runSW (As := [va_rf r1, .int v_101, va_rf r3]) (rest := []) C0 (c_Law_balance l G w _ r1 v_101 r3 q_102 e9 hlt) (vx_cwSW 3 C0.2.2.2.2 (x_goodW kw_3_30 kw_3_28 kw_3_29 kw_1_0) rfl rfl rfl (by decide +kernel) (x_rm hR1 hR2 (Nat.le_of_ble_eq_true rfl) (Nat.le_of_ble_eq_true rfl))) (x_preS hE hH hS) rfl rfl hl.1 rfl (lv_room (by first | exact Nat.le_of_ble_eq_true rfl | simp only [List.map_cons, List.map_nil, List.sum_cons, List.sum_nil, va_rf_cat, x_catI, x_catL, x_catA] <;> decide)) d_Law_law_668 ⟨Nat.le_trans (by omega) hR3, Nat.le_trans (by omega) hR4⟩) (fun H locs hH hS hz => ?_)
        refine W.widen (k := cells + (513 - (n + 1)) * 11 + 1) (n := slots + (513 - (n + 1)) * 152 + g + 6) (by omega) (by omega) ?_
        refine x_istore (lv' := [(5, .inl q_102.1), (0, .inr (.inl (some b))), (1, .inr (.inl r1)), (2, .inr (.inl r2)), (3, .inr (.inl r3)), (4, .inl x4)]) C0 hl d_Law_law_671 (by decide) rfl (fun ls hl => ?_)
        refine x_aload_n C0 hl 3 d_Law_law_673 rfl rfl ?_
        refine x_aload_n C0 hl 1 d_Law_law_674 rfl rfl ?_
        refine x_iload C0 hl 5 d_Law_law_675 rfl ?_
        refine lv_iconst (v := 1) C0.1 C0.2.1 d_Law_law_677 (by decide) ?_
        refine lv_iadd C0.1 C0.2.1 d_Law_law_678 ?_
        refine x_sld C0 hX hbl hbA hS d_Law_law_679 h (fun v_103 h => ?_)
        obtain ⟨b_105, e9, h⟩ := Option.bind_eq_some_iff.mp h
        obtain ⟨e8, fs9, hb9⟩ := xo_inv e9
        obtain ⟨q_104, e9, h⟩ := Option.bind_eq_some_iff.mp h
        refine x_call0 hS (va_runV (As := [.int v_103]) (rest := []) C0 (c_Mod_balance l G q_102.2.1 _ b_105 v_103 q_104 e9) (x_cwV 1 C0 kw_5_27 kw_5_30 kw_1_3 kw_5_28 kw_5_29 (by decide +kernel) (x_rm hR1 hR2 (Nat.le_of_ble_eq_true rfl) (Nat.le_of_ble_eq_true rfl))) (x_preV hE hH hS (ci := 5) rfl hb9) rfl rfl hl.1 (by rw [e8]; rfl) (lv_room (by first | exact Nat.le_of_ble_eq_true rfl | simp only [List.map_cons, List.map_nil, List.sum_cons, List.sum_nil, va_rf_cat, x_catI, x_catL, x_catA] <;> decide)) d_Law_law_680 (x_le0 (Nat.le_trans (by omega) hR3) (Nat.le_trans (by omega) hR4))) (fun H locs hH hS hz9 => ?_)
        have hz := hz9.trans hz
        refine x_istore (lv' := [(6, .inl q_104.1), (5, .inl q_102.1), (0, .inr (.inl (some b))), (1, .inr (.inl r1)), (2, .inr (.inl r2)), (3, .inr (.inl r3)), (4, .inl x4)]) C0 hl d_Law_law_683 (by decide) rfl (fun ls hl => ?_)
        refine x_goto C0 849 d_Law_law_685 (by decide) ?_
        refine x_iinc (v := 5) (lv' := [(4, .inl (x4 + 5)), (6, .inl q_104.1), (5, .inl q_102.1), (0, .inr (.inl (some b))), (1, .inr (.inl r1)), (2, .inr (.inl r2)), (3, .inr (.inl r3))]) C0 hl 6 d_Law_law_849 rfl (by decide) (by decide) rfl (fun ls hl => ?_)
        refine x_goto C0 23 d_Law_law_852 (by decide) ?_
        refine W.widen (k := cells + (513 - n) * 11) (n := slots + (513 - n) * 152 + g) (by omega) (by omega) ?_
        exact ih _ _ _ _ _ _ (by omega) (by omega) q ls hH hS hz (x_sub hl [3, 4, 5, 6, 0] rfl) h K
      rw [if_neg z] at h
      have z11 := lv_neT z (a := 11) (by decide)
      by_cases z : (v_8 &&& (31 : Int32)) = 12
      · rw [if_pos z] at h
        refine lv_tableIn (tgt := 688) C0.1 C0.2.1 d_Law_law_39 (by rw [z]; decide) (by rw [z]; decide) (by rw [z]; rfl) (by decide) ?_
        refine x_aload_n C0 hl 1 d_Law_law_688 rfl rfl ?_
        refine x_aload_n C0 hl 0 d_Law_law_689 rfl rfl ?_
        refine x_iload C0 hl 4 d_Law_law_690 rfl ?_
        refine lv_iconst (v := 1) C0.1 C0.2.1 d_Law_law_692 (by decide) ?_
        refine lv_iadd C0.1 C0.2.1 d_Law_law_693 ?_
        refine x_sld C0 hX hbl hbA hS d_Law_law_694 h (fun v_106 h => ?_)
        refine x_aload_n C0 hl 0 d_Law_law_695 rfl rfl ?_
        refine x_iload C0 hl 4 d_Law_law_696 rfl ?_
        refine lv_iconst (v := 2) C0.1 C0.2.1 d_Law_law_698 (by decide) ?_
        refine lv_iadd C0.1 C0.2.1 d_Law_law_699 ?_
        refine x_sld C0 hX hbl hbA hS d_Law_law_700 h (fun v_107 h => ?_)
        refine x_aload_n C0 hl 0 d_Law_law_701 rfl rfl ?_
        refine x_iload C0 hl 4 d_Law_law_702 rfl ?_
        refine lv_iconst (v := 3) C0.1 C0.2.1 d_Law_law_704 (by decide) ?_
        refine lv_iadd C0.1 C0.2.1 d_Law_law_705 ?_
        refine x_sld C0 hX hbl hbA hS d_Law_law_706 h (fun v_108 h => ?_)
        refine x_aload_n C0 hl 3 d_Law_law_707 rfl rfl ?_
        obtain ⟨q_109, e9, h⟩ := Option.bind_eq_some_iff.mp h
        have e9 := (show f_Law_number w (Array.size H) r1 v_106 v_107 v_108 r3 = some q_109 by rw [hz]; exact e9)
        refine x_call hS (vx_runSW (As := [va_rf r1, .int v_106, .int v_107, .int v_108, va_rf r3]) (rest := []) C0 (c_Law_number l G w _ r1 v_106 v_107 v_108 r3 q_109 e9 hlt) (vx_cwSW 5 C0.2.2.2.2 (x_goodW kw_3_42 kw_3_40 kw_3_41 kw_1_0) rfl rfl rfl (by decide +kernel) (x_rm hR1 hR2 (Nat.le_of_ble_eq_true rfl) (Nat.le_of_ble_eq_true rfl))) (x_preS hE hH hS) rfl rfl hl.1 rfl (lv_room (by first | exact Nat.le_of_ble_eq_true rfl | simp only [List.map_cons, List.map_nil, List.sum_cons, List.sum_nil, va_rf_cat, x_catI, x_catL, x_catA] <;> decide)) d_Law_law_708 ⟨Nat.le_trans (by omega) hR3, Nat.le_trans (by omega) hR4⟩) (fun H locs hH hS hz => ?_)
        refine W.widen (k := cells + (513 - (n + 1)) * 11 + 2) (n := slots + (513 - (n + 1)) * 152 + g + 20) (by omega) (by omega) ?_
        refine x_istore (lv' := [(5, .inl q_109.1), (0, .inr (.inl (some b))), (1, .inr (.inl r1)), (2, .inr (.inl r2)), (3, .inr (.inl r3)), (4, .inl x4)]) C0 hl d_Law_law_711 (by decide) rfl (fun ls hl => ?_)
        refine x_aload_n C0 hl 3 d_Law_law_713 rfl rfl ?_
        refine x_aload_n C0 hl 1 d_Law_law_714 rfl rfl ?_
        refine x_iload C0 hl 5 d_Law_law_715 rfl ?_
        refine lv_iconst (v := 1) C0.1 C0.2.1 d_Law_law_717 (by decide) ?_
        refine lv_iadd C0.1 C0.2.1 d_Law_law_718 ?_
        refine x_sld C0 hX hbl hbA hS d_Law_law_719 h (fun v_110 h => ?_)
        refine x_aload_n C0 hl 1 d_Law_law_720 rfl rfl ?_
        refine x_iload C0 hl 5 d_Law_law_721 rfl ?_
        refine lv_iconst (v := 2) C0.1 C0.2.1 d_Law_law_723 (by decide) ?_
        refine lv_iadd C0.1 C0.2.1 d_Law_law_724 ?_
        refine x_sld C0 hX hbl hbA hS d_Law_law_725 h (fun v_111 h => ?_)
        refine x_aload_n C0 hl 1 d_Law_law_726 rfl rfl ?_
        refine x_iload C0 hl 5 d_Law_law_727 rfl ?_
        refine lv_iconst (v := 3) C0.1 C0.2.1 d_Law_law_729 (by decide) ?_
        refine lv_iadd C0.1 C0.2.1 d_Law_law_730 ?_
        refine x_sld C0 hX hbl hbA hS d_Law_law_731 h (fun v_112 h => ?_)
        obtain ⟨b_114, e9, h⟩ := Option.bind_eq_some_iff.mp h
        obtain ⟨e8, fs9, hb9⟩ := xo_inv e9
        obtain ⟨q_113, e9, h⟩ := Option.bind_eq_some_iff.mp h
        refine x_call0 hS (va_runV (As := [.int v_110, .int v_111, .int v_112]) (rest := []) C0 (c_Mod_number l G q_109.2.1 _ b_114 v_110 v_111 v_112 q_113 e9) (x_cwV 3 C0 kw_5_31 kw_5_34 kw_1_3 kw_5_32 kw_5_33 (by decide +kernel) (x_rm hR1 hR2 (Nat.le_of_ble_eq_true rfl) (Nat.le_of_ble_eq_true rfl))) (x_preV hE hH hS (ci := 5) rfl hb9) rfl rfl hl.1 (by rw [e8]; rfl) (lv_room (by first | exact Nat.le_of_ble_eq_true rfl | simp only [List.map_cons, List.map_nil, List.sum_cons, List.sum_nil, va_rf_cat, x_catI, x_catL, x_catA] <;> decide)) d_Law_law_732 (x_le0 (Nat.le_trans (by omega) hR3) (Nat.le_trans (by omega) hR4))) (fun H locs hH hS hz9 => ?_)
        have hz := hz9.trans hz
        refine x_istore (lv' := [(6, .inl q_113.1), (5, .inl q_109.1), (0, .inr (.inl (some b))), (1, .inr (.inl r1)), (2, .inr (.inl r2)), (3, .inr (.inl r3)), (4, .inl x4)]) C0 hl d_Law_law_735 (by decide) rfl (fun ls hl => ?_)
        refine x_goto C0 849 d_Law_law_737 (by decide) ?_
        refine x_iinc (v := 5) (lv' := [(4, .inl (x4 + 5)), (6, .inl q_113.1), (5, .inl q_109.1), (0, .inr (.inl (some b))), (1, .inr (.inl r1)), (2, .inr (.inl r2)), (3, .inr (.inl r3))]) C0 hl 6 d_Law_law_849 rfl (by decide) (by decide) rfl (fun ls hl => ?_)
        refine x_goto C0 23 d_Law_law_852 (by decide) ?_
        refine W.widen (k := cells + (513 - n) * 11) (n := slots + (513 - n) * 152 + g) (by omega) (by omega) ?_
        exact ih _ _ _ _ _ _ (by omega) (by omega) q ls hH hS hz (x_sub hl [3, 4, 5, 6, 0] rfl) h K
      rw [if_neg z] at h
      have z12 := lv_neT z (a := 12) (by decide)
      by_cases z : (v_8 &&& (31 : Int32)) = 13
      · rw [if_pos z] at h
        refine lv_tableIn (tgt := 740) C0.1 C0.2.1 d_Law_law_39 (by rw [z]; decide) (by rw [z]; decide) (by rw [z]; rfl) (by decide) ?_
        refine x_aload_n C0 hl 1 d_Law_law_740 rfl rfl ?_
        refine x_aload_n C0 hl 0 d_Law_law_741 rfl rfl ?_
        refine x_iload C0 hl 4 d_Law_law_742 rfl ?_
        refine lv_iconst (v := 1) C0.1 C0.2.1 d_Law_law_744 (by decide) ?_
        refine lv_iadd C0.1 C0.2.1 d_Law_law_745 ?_
        refine x_sld C0 hX hbl hbA hS d_Law_law_746 h (fun v_115 h => ?_)
        refine x_aload_n C0 hl 3 d_Law_law_747 rfl rfl ?_
        obtain ⟨q_116, e9, h⟩ := Option.bind_eq_some_iff.mp h
        have e9 := (show f_Law_want w (Array.size H) r1 v_115 r3 = some q_116 by rw [hz]; exact e9)
        refine x_call hS (vx_runSW (As := [va_rf r1, .int v_115, va_rf r3]) (rest := []) C0 (c_Law_want l G w _ r1 v_115 r3 q_116 e9 hlt) (vx_cwSW 3 C0.2.2.2.2 (x_goodW kw_4_5 kw_4_3 kw_4_4 kw_1_0) rfl rfl rfl (by decide +kernel) (x_rm hR1 hR2 (Nat.le_of_ble_eq_true rfl) (Nat.le_of_ble_eq_true rfl))) (x_preS hE hH hS) rfl rfl hl.1 rfl (lv_room (by first | exact Nat.le_of_ble_eq_true rfl | simp only [List.map_cons, List.map_nil, List.sum_cons, List.sum_nil, va_rf_cat, x_catI, x_catL, x_catA] <;> decide)) d_Law_law_748 ⟨Nat.le_trans (by omega) hR3, Nat.le_trans (by omega) hR4⟩) (fun H locs hH hS hz => ?_)
        refine W.widen (k := cells + (513 - (n + 1)) * 11 + 1) (n := slots + (513 - (n + 1)) * 152 + g + 6) (by omega) (by omega) ?_
        refine x_istore (lv' := [(5, .inl q_116.1), (0, .inr (.inl (some b))), (1, .inr (.inl r1)), (2, .inr (.inl r2)), (3, .inr (.inl r3)), (4, .inl x4)]) C0 hl d_Law_law_751 (by decide) rfl (fun ls hl => ?_)
        refine x_aload_n C0 hl 3 d_Law_law_753 rfl rfl ?_
        refine x_aload_n C0 hl 1 d_Law_law_754 rfl rfl ?_
        refine x_iload C0 hl 5 d_Law_law_755 rfl ?_
        refine lv_iconst (v := 1) C0.1 C0.2.1 d_Law_law_757 (by decide) ?_
        refine lv_iadd C0.1 C0.2.1 d_Law_law_758 ?_
        refine x_sld C0 hX hbl hbA hS d_Law_law_759 h (fun v_117 h => ?_)
        obtain ⟨b_119, e9, h⟩ := Option.bind_eq_some_iff.mp h
        obtain ⟨e8, fs9, hb9⟩ := xo_inv e9
        obtain ⟨q_118, e9, h⟩ := Option.bind_eq_some_iff.mp h
        refine x_call0 hS (va_runV (As := [.int v_117]) (rest := []) C0 (c_Mod_want l G q_116.2.1 _ b_119 v_117 q_118 e9) (x_cwV 1 C0 kw_5_39 kw_5_42 kw_1_3 kw_5_40 kw_5_41 (by decide +kernel) (x_rm hR1 hR2 (Nat.le_of_ble_eq_true rfl) (Nat.le_of_ble_eq_true rfl))) (x_preV hE hH hS (ci := 5) rfl hb9) rfl rfl hl.1 (by rw [e8]; rfl) (lv_room (by first | exact Nat.le_of_ble_eq_true rfl | simp only [List.map_cons, List.map_nil, List.sum_cons, List.sum_nil, va_rf_cat, x_catI, x_catL, x_catA] <;> decide)) d_Law_law_760 (x_le0 (Nat.le_trans (by omega) hR3) (Nat.le_trans (by omega) hR4))) (fun H locs hH hS hz9 => ?_)
        have hz := hz9.trans hz
        refine x_istore (lv' := [(6, .inl q_118.1), (5, .inl q_116.1), (0, .inr (.inl (some b))), (1, .inr (.inl r1)), (2, .inr (.inl r2)), (3, .inr (.inl r3)), (4, .inl x4)]) C0 hl d_Law_law_763 (by decide) rfl (fun ls hl => ?_)
        refine x_goto C0 849 d_Law_law_765 (by decide) ?_
        refine x_iinc (v := 5) (lv' := [(4, .inl (x4 + 5)), (6, .inl q_118.1), (5, .inl q_116.1), (0, .inr (.inl (some b))), (1, .inr (.inl r1)), (2, .inr (.inl r2)), (3, .inr (.inl r3))]) C0 hl 6 d_Law_law_849 rfl (by decide) (by decide) rfl (fun ls hl => ?_)
        refine x_goto C0 23 d_Law_law_852 (by decide) ?_
        refine W.widen (k := cells + (513 - n) * 11) (n := slots + (513 - n) * 152 + g) (by omega) (by omega) ?_
        exact ih _ _ _ _ _ _ (by omega) (by omega) q ls hH hS hz (x_sub hl [3, 4, 5, 6, 0] rfl) h K
      rw [if_neg z] at h
      have z13 := lv_neT z (a := 13) (by decide)
      by_cases z : (v_8 &&& (31 : Int32)) = 14
      · rw [if_pos z] at h
        refine lv_tableIn (tgt := 768) C0.1 C0.2.1 d_Law_law_39 (by rw [z]; decide) (by rw [z]; decide) (by rw [z]; rfl) (by decide) ?_
        refine x_aload_n C0 hl 1 d_Law_law_768 rfl rfl ?_
        obtain ⟨b_121, e9, h⟩ := Option.bind_eq_some_iff.mp h
        obtain ⟨e8, fs9, hb9⟩ := xo_inv e9
        obtain ⟨q_120, e9, h⟩ := Option.bind_eq_some_iff.mp h
        refine x_call0 hS (va_runV (As := []) (rest := []) C0 (c_LM_clear l G w _ b_121 q_120 e9) (x_cwV 0 C0 kw_1_94 kw_1_97 kw_1_1 kw_1_95 kw_1_96 (by decide +kernel) (x_rm hR1 hR2 (Nat.le_of_ble_eq_true rfl) (Nat.le_of_ble_eq_true rfl))) (x_preV hE hH hS (ci := 0) rfl hb9) rfl rfl hl.1 (by rw [e8]; rfl) (lv_room (by first | exact Nat.le_of_ble_eq_true rfl | simp only [List.map_cons, List.map_nil, List.sum_cons, List.sum_nil, va_rf_cat, x_catI, x_catL, x_catA] <;> decide)) d_Law_law_769 (x_le0 (Nat.le_trans (by omega) hR3) (Nat.le_trans (by omega) hR4))) (fun H locs hH hS hz9 => ?_)
        have hz := hz9.trans hz
        refine lv_pop C0.1 C0.2.1 d_Law_law_772 rfl ?_
        refine x_aload_n C0 hl 2 d_Law_law_773 rfl rfl ?_
        obtain ⟨b_123, e9, h⟩ := Option.bind_eq_some_iff.mp h
        obtain ⟨e8, fs9, hb9⟩ := xo_inv e9
        obtain ⟨q_122, e9, h⟩ := Option.bind_eq_some_iff.mp h
        refine x_call0 hS (va_runV (As := []) (rest := []) C0 (c_Mod_clear l G q_120.2 _ b_123 q_122 e9) (x_cwV 0 C0 kw_5_43 kw_5_46 kw_1_3 kw_5_44 kw_5_45 (by decide +kernel) (x_rm hR1 hR2 (Nat.le_of_ble_eq_true rfl) (Nat.le_of_ble_eq_true rfl))) (x_preV hE hH hS (ci := 5) rfl hb9) rfl rfl hl.1 (by rw [e8]; rfl) (lv_room (by first | exact Nat.le_of_ble_eq_true rfl | simp only [List.map_cons, List.map_nil, List.sum_cons, List.sum_nil, va_rf_cat, x_catI, x_catL, x_catA] <;> decide)) d_Law_law_774 (x_le0 (Nat.le_trans (by omega) hR3) (Nat.le_trans (by omega) hR4))) (fun H locs hH hS hz9 => ?_)
        have hz := hz9.trans hz
        refine lv_pop C0.1 C0.2.1 d_Law_law_777 rfl ?_
        refine x_goto C0 849 d_Law_law_778 (by decide) ?_
        refine x_iinc (v := 5) (lv' := [(4, .inl (x4 + 5)), (0, .inr (.inl (some b))), (1, .inr (.inl r1)), (2, .inr (.inl r2)), (3, .inr (.inl r3))]) C0 hl 4 d_Law_law_849 rfl (by decide) (by decide) rfl (fun ls hl => ?_)
        refine x_goto C0 23 d_Law_law_852 (by decide) ?_
        refine W.widen (k := cells + (513 - n) * 11) (n := slots + (513 - n) * 152 + g) (by omega) (by omega) ?_
        exact ih _ _ _ _ _ _ (by omega) (by omega) q ls hH hS hz (x_sub hl [1, 2, 3, 4, 0] rfl) h K
      rw [if_neg z] at h
      have z14 := lv_neT z (a := 14) (by decide)
      by_cases z : (v_8 &&& (31 : Int32)) = 15
      · rw [if_pos z] at h
        refine lv_tableIn (tgt := 781) C0.1 C0.2.1 d_Law_law_39 (by rw [z]; decide) (by rw [z]; decide) (by rw [z]; rfl) (by decide) ?_
        refine x_aload_n C0 hl 1 d_Law_law_781 rfl rfl ?_
        refine x_aload_n C0 hl 0 d_Law_law_782 rfl rfl ?_
        refine x_iload C0 hl 4 d_Law_law_783 rfl ?_
        refine lv_iconst (v := 1) C0.1 C0.2.1 d_Law_law_785 (by decide) ?_
        refine lv_iadd C0.1 C0.2.1 d_Law_law_786 ?_
        refine x_sld C0 hX hbl hbA hS d_Law_law_787 h (fun v_124 h => ?_)
        refine x_aload_n C0 hl 3 d_Law_law_788 rfl rfl ?_
        obtain ⟨hg9, h⟩ := x_ifn h
        obtain ⟨q_125, e9, h⟩ := Option.bind_eq_some_iff.mp h
        have e9 := (show f_Law_faces (xk5 w r1 v_124) (xk6 w r1 v_124) (xk7 w r1 v_124) w (Array.size H) r1 v_124 r3 = some q_125 by rw [hz]; exact e9)
        refine x_call hS (vx_runSW (As := [va_rf r1, .int v_124, va_rf r3]) (rest := []) C0 (c_Law_faces l G (xk5 w r1 v_124) (xk6 w r1 v_124) (xk7 w r1 v_124) w _ r1 v_124 r3 q_125 e9 hlt) (vx_cwSW 3 C0.2.2.2.2 (x_goodW kw_4_18 kw_4_16 kw_4_17 kw_1_0) rfl rfl rfl (by decide +kernel) (x_rm hR1 hR2 (Nat.le_of_ble_eq_true rfl) (Nat.le_of_ble_eq_true rfl))) (x_preS hE hH hS) rfl rfl hl.1 rfl (lv_room (by first | exact Nat.le_of_ble_eq_true rfl | simp only [List.map_cons, List.map_nil, List.sum_cons, List.sum_nil, va_rf_cat, x_catI, x_catL, x_catA] <;> decide)) d_Law_law_789 ⟨Nat.le_trans (by omega) hR3, Nat.le_trans (by omega) hR4⟩) (fun H locs hH hS hz => ?_)
        refine W.widen (k := cells + (513 - (n + 1)) * 11 + 3) (n := slots + (513 - (n + 1)) * 152 + g + 6 + (xk5 w r1 v_124) + (xk6 w r1 v_124) + (xk7 w r1 v_124)) (by omega) (by omega) ?_
        refine x_istore (lv' := [(5, .inl q_125.1), (0, .inr (.inl (some b))), (1, .inr (.inl r1)), (2, .inr (.inl r2)), (3, .inr (.inl r3)), (4, .inl x4)]) C0 hl d_Law_law_792 (by decide) rfl (fun ls hl => ?_)
        refine x_aload_n C0 hl 3 d_Law_law_794 rfl rfl ?_
        refine x_aload_n C0 hl 1 d_Law_law_795 rfl rfl ?_
        refine x_iload C0 hl 5 d_Law_law_796 rfl ?_
        refine lv_iconst (v := 1) C0.1 C0.2.1 d_Law_law_798 (by decide) ?_
        refine lv_iadd C0.1 C0.2.1 d_Law_law_799 ?_
        refine x_sld C0 hX hbl hbA hS d_Law_law_800 h (fun v_126 h => ?_)
        obtain ⟨b_128, e9, h⟩ := Option.bind_eq_some_iff.mp h
        obtain ⟨e8, fs9, hb9⟩ := xo_inv e9
        obtain ⟨q_127, e9, h⟩ := Option.bind_eq_some_iff.mp h
        refine x_call0 hS (va_runV (As := [.int v_126]) (rest := []) C0 (c_Mod_faces l G q_125.2.1 _ b_128 v_126 q_127 e9) (x_cwV 1 C0 kw_5_47 kw_5_50 kw_1_3 kw_5_48 kw_5_49 (by decide +kernel) (x_rm hR1 hR2 (Nat.le_of_ble_eq_true rfl) (Nat.le_of_ble_eq_true rfl))) (x_preV hE hH hS (ci := 5) rfl hb9) rfl rfl hl.1 (by rw [e8]; rfl) (lv_room (by first | exact Nat.le_of_ble_eq_true rfl | simp only [List.map_cons, List.map_nil, List.sum_cons, List.sum_nil, va_rf_cat, x_catI, x_catL, x_catA] <;> decide)) d_Law_law_801 (x_le0 (Nat.le_trans (by omega) hR3) (Nat.le_trans (by omega) hR4))) (fun H locs hH hS hz9 => ?_)
        have hz := hz9.trans hz
        refine x_istore (lv' := [(6, .inl q_127.1), (5, .inl q_125.1), (0, .inr (.inl (some b))), (1, .inr (.inl r1)), (2, .inr (.inl r2)), (3, .inr (.inl r3)), (4, .inl x4)]) C0 hl d_Law_law_804 (by decide) rfl (fun ls hl => ?_)
        refine x_goto C0 849 d_Law_law_806 (by decide) ?_
        refine x_iinc (v := 5) (lv' := [(4, .inl (x4 + 5)), (6, .inl q_127.1), (5, .inl q_125.1), (0, .inr (.inl (some b))), (1, .inr (.inl r1)), (2, .inr (.inl r2)), (3, .inr (.inl r3))]) C0 hl 6 d_Law_law_849 rfl (by decide) (by decide) rfl (fun ls hl => ?_)
        refine x_goto C0 23 d_Law_law_852 (by decide) ?_
        refine W.widen (k := cells + (513 - n) * 11) (n := slots + (513 - n) * 152 + (g + ((xk5 w r1 v_124) + (xk6 w r1 v_124) + (xk7 w r1 v_124)))) (by omega) (by omega) ?_
        exact ih _ _ _ _ _ _ (by omega) (by omega) q ls hH hS hz (x_sub hl [3, 4, 5, 6, 0] rfl) h K
      rw [if_neg z] at h
      have z15 := lv_neT z (a := 15) (by decide)
      by_cases z : (v_8 &&& (31 : Int32)) = 16
      · rw [if_pos z] at h
        refine lv_tableIn (tgt := 809) C0.1 C0.2.1 d_Law_law_39 (by rw [z]; decide) (by rw [z]; decide) (by rw [z]; rfl) (by decide) ?_
        refine x_aload_n C0 hl 1 d_Law_law_809 rfl rfl ?_
        refine x_aload_n C0 hl 0 d_Law_law_810 rfl rfl ?_
        refine x_iload C0 hl 4 d_Law_law_811 rfl ?_
        refine lv_iconst (v := 1) C0.1 C0.2.1 d_Law_law_813 (by decide) ?_
        refine lv_iadd C0.1 C0.2.1 d_Law_law_814 ?_
        refine x_sld C0 hX hbl hbA hS d_Law_law_815 h (fun v_129 h => ?_)
        refine x_aload_n C0 hl 0 d_Law_law_816 rfl rfl ?_
        refine x_iload C0 hl 4 d_Law_law_817 rfl ?_
        refine lv_iconst (v := 2) C0.1 C0.2.1 d_Law_law_819 (by decide) ?_
        refine lv_iadd C0.1 C0.2.1 d_Law_law_820 ?_
        refine x_sld C0 hX hbl hbA hS d_Law_law_821 h (fun v_130 h => ?_)
        refine x_aload_n C0 hl 3 d_Law_law_822 rfl rfl ?_
        obtain ⟨q_131, e9, h⟩ := Option.bind_eq_some_iff.mp h
        have e9 := (show f_Law_planned w (Array.size H) r1 v_129 v_130 r3 = some q_131 by rw [hz]; exact e9)
        refine x_call hS (vx_runSW (As := [va_rf r1, .int v_129, .int v_130, va_rf r3]) (rest := []) C0 (c_Law_planned l G w _ r1 v_129 v_130 r3 q_131 e9 hlt) (vx_cwSW 4 C0.2.2.2.2 (x_goodW kw_4_65 kw_4_63 kw_4_64 kw_1_0) rfl rfl rfl (by decide +kernel) (x_rm hR1 hR2 (Nat.le_of_ble_eq_true rfl) (Nat.le_of_ble_eq_true rfl))) (x_preS hE hH hS) rfl rfl hl.1 rfl (lv_room (by first | exact Nat.le_of_ble_eq_true rfl | simp only [List.map_cons, List.map_nil, List.sum_cons, List.sum_nil, va_rf_cat, x_catI, x_catL, x_catA] <;> decide)) d_Law_law_823 ⟨Nat.le_trans (by omega) hR3, Nat.le_trans (by omega) hR4⟩) (fun H locs hH hS hz => ?_)
        refine W.widen (k := cells + (513 - (n + 1)) * 11 + 1) (n := slots + (513 - (n + 1)) * 152 + g + 6) (by omega) (by omega) ?_
        refine x_istore (lv' := [(5, .inl q_131.1), (0, .inr (.inl (some b))), (1, .inr (.inl r1)), (2, .inr (.inl r2)), (3, .inr (.inl r3)), (4, .inl x4)]) C0 hl d_Law_law_826 (by decide) rfl (fun ls hl => ?_)
        refine x_aload_n C0 hl 3 d_Law_law_828 rfl rfl ?_
        refine x_aload_n C0 hl 1 d_Law_law_829 rfl rfl ?_
        refine x_iload C0 hl 5 d_Law_law_830 rfl ?_
        refine lv_iconst (v := 1) C0.1 C0.2.1 d_Law_law_832 (by decide) ?_
        refine lv_iadd C0.1 C0.2.1 d_Law_law_833 ?_
        refine x_sld C0 hX hbl hbA hS d_Law_law_834 h (fun v_132 h => ?_)
        refine x_aload_n C0 hl 1 d_Law_law_835 rfl rfl ?_
        refine x_iload C0 hl 5 d_Law_law_836 rfl ?_
        refine lv_iconst (v := 2) C0.1 C0.2.1 d_Law_law_838 (by decide) ?_
        refine lv_iadd C0.1 C0.2.1 d_Law_law_839 ?_
        refine x_sld C0 hX hbl hbA hS d_Law_law_840 h (fun v_133 h => ?_)
        obtain ⟨b_135, e9, h⟩ := Option.bind_eq_some_iff.mp h
        obtain ⟨e8, fs9, hb9⟩ := xo_inv e9
        obtain ⟨q_134, e9, h⟩ := Option.bind_eq_some_iff.mp h
        refine x_call0 hS (va_runV (As := [.int v_132, .int v_133]) (rest := []) C0 (c_Mod_planned l G q_131.2.1 _ b_135 v_132 v_133 q_134 e9) (x_cwV 2 C0 kw_5_68 kw_5_71 kw_1_3 kw_5_69 kw_5_70 (by decide +kernel) (x_rm hR1 hR2 (Nat.le_of_ble_eq_true rfl) (Nat.le_of_ble_eq_true rfl))) (x_preV hE hH hS (ci := 5) rfl hb9) rfl rfl hl.1 (by rw [e8]; rfl) (lv_room (by first | exact Nat.le_of_ble_eq_true rfl | simp only [List.map_cons, List.map_nil, List.sum_cons, List.sum_nil, va_rf_cat, x_catI, x_catL, x_catA] <;> decide)) d_Law_law_841 (x_le0 (Nat.le_trans (by omega) hR3) (Nat.le_trans (by omega) hR4))) (fun H locs hH hS hz9 => ?_)
        have hz := hz9.trans hz
        refine x_istore (lv' := [(6, .inl q_134.1), (5, .inl q_131.1), (0, .inr (.inl (some b))), (1, .inr (.inl r1)), (2, .inr (.inl r2)), (3, .inr (.inl r3)), (4, .inl x4)]) C0 hl d_Law_law_844 (by decide) rfl (fun ls hl => ?_)
        refine x_goto C0 849 d_Law_law_846 (by decide) ?_
        refine x_iinc (v := 5) (lv' := [(4, .inl (x4 + 5)), (6, .inl q_134.1), (5, .inl q_131.1), (0, .inr (.inl (some b))), (1, .inr (.inl r1)), (2, .inr (.inl r2)), (3, .inr (.inl r3))]) C0 hl 6 d_Law_law_849 rfl (by decide) (by decide) rfl (fun ls hl => ?_)
        refine x_goto C0 23 d_Law_law_852 (by decide) ?_
        refine W.widen (k := cells + (513 - n) * 11) (n := slots + (513 - n) * 152 + g) (by omega) (by omega) ?_
        exact ih _ _ _ _ _ _ (by omega) (by omega) q ls hH hS hz (x_sub hl [3, 4, 5, 6, 0] rfl) h K
      rw [if_neg z] at h
      have z16 := lv_neT z (a := 16) (by decide)
      refine lv_tableOut (tgt := 849) C0.1 C0.2.1 d_Law_law_39 (by omega) (by decide) ?_
      refine x_iinc (v := 5) (lv' := [(4, .inl (x4 + 5)), (0, .inr (.inl (some b))), (1, .inr (.inl r1)), (2, .inr (.inl r2)), (3, .inr (.inl r3))]) C0 hl 4 d_Law_law_849 rfl (by decide) (by decide) rfl (fun ls hl => ?_)
      refine x_goto C0 23 d_Law_law_852 (by decide) ?_
      refine W.widen (k := cells + (513 - n) * 11) (n := slots + (513 - n) * 152 + g) (by omega) (by omega) ?_
      exact ih _ _ _ _ _ _ (by omega) (by omega) q ls hH hS hz (x_sub hl [1, 2, 3, 4, 0] rfl) h K
