theorem kw_0_1 : (Jvm.Cond.selects "LeafMatches" ({ cls := "LeafMatches", name := "isNumberTaken", desc := "(II)Z" } : Jvm.MethodName) ({ cls := "LeafMatches", name := "isNumberTaken", desc := "(II)Z" } : Jvm.MethodName)) ∈ wA := ku_0 1 rfl rfl
theorem kw_0_2 : (Jvm.Cond.selects "LeafMatches" ({ cls := "LeafMatches", name := "leafOrNull", desc := "(I)LLeafMatches$Leaf;" } : Jvm.MethodName) ({ cls := "LeafMatches", name := "leafOrNull", desc := "(I)LLeafMatches$Leaf;" } : Jvm.MethodName)) ∈ wA := ku_0 2 rfl rfl
theorem kw_0_3 : (Jvm.Cond.selects "LeafMatches" ({ cls := "LeafMatches", name := "leastFlitchWith", desc := "(I)I" } : Jvm.MethodName) ({ cls := "LeafMatches", name := "leastFlitchWith", desc := "(I)I" } : Jvm.MethodName)) ∈ wA := ku_0 3 rfl rfl
theorem kw_0_5 : (Jvm.Cond.selects "LeafMatches" ({ cls := "LeafMatches", name := "gatherFree", desc := "(I)I" } : Jvm.MethodName) ({ cls := "LeafMatches", name := "gatherFree", desc := "(I)I" } : Jvm.MethodName)) ∈ wA := ku_0 5 rfl rfl
theorem kw_0_6 : (Jvm.Cond.selects "LeafMatches" ({ cls := "LeafMatches", name := "isBroken", desc := "(I)Z" } : Jvm.MethodName) ({ cls := "LeafMatches", name := "isBroken", desc := "(I)Z" } : Jvm.MethodName)) ∈ wA := ku_0 6 rfl rfl
theorem kw_0_7 : (Jvm.Cond.selects "LeafMatches" ({ cls := "LeafMatches", name := "faceOrNull", desc := "(I)LLeafMatches$Face;" } : Jvm.MethodName) ({ cls := "LeafMatches", name := "faceOrNull", desc := "(I)LLeafMatches$Face;" } : Jvm.MethodName)) ∈ wA := ku_0 7 rfl rfl
theorem kw_1_7 : (Jvm.Cond.initialized "java/lang/IllegalStateException") ∈ wA := ku_1 7 rfl rfl
theorem kw_1_8 : (Jvm.Cond.initialized "java/lang/IllegalArgumentException") ∈ wA := ku_1 8 rfl rfl
theorem kw_1_10 : (Jvm.Cond.initialized "java/lang/IndexOutOfBoundsException") ∈ wA := ku_1 10 rfl rfl
theorem kw_1_32 : (Jvm.Cond.classLink "LeafMatches" (9 : Nat) "LeafMatches$Leaf") ∈ wA := ku_1 32 rfl rfl
theorem kw_1_34 : (Jvm.Cond.classLink "LeafMatches" (19 : Nat) "LeafMatches$Face") ∈ wA := ku_1 34 rfl rfl
theorem kw_1_46 : (Jvm.Cond.fieldLink "LeafMatches" (236 : Nat) "LeafMatches$Planner" "isFound" "Z") ∈ wA := ku_1 46 rfl rfl
theorem kw_1_48 : (Jvm.Cond.fieldLink "LeafMatches" (243 : Nat) "LeafMatches$Planner" "firstLeaf" "[I") ∈ wA := ku_1 48 rfl rfl
theorem kw_1_50 : (Jvm.Cond.fieldLink "LeafMatches" (247 : Nat) "LeafMatches$Planner" "rowLength" "[I") ∈ wA := ku_1 50 rfl rfl
theorem kw_1_111 : (Jvm.Cond.classLink "LeafMatches" (38 : Nat) "java/lang/IllegalStateException") ∈ wA := ku_1 111 rfl rfl
theorem kw_1_179 : (Jvm.Cond.methodLink "LeafMatches" (45 : Nat) ({ cls := "LeafMatches", name := "isNumberTaken", desc := "(II)Z" } : Jvm.MethodName)) ∈ wA := ku_1 179 rfl rfl
theorem kw_1_181 : (Jvm.Cond.instanceMethod ({ cls := "LeafMatches", name := "isNumberTaken", desc := "(II)Z" } : Jvm.MethodName)) ∈ wA := ku_1 181 rfl rfl
theorem kw_1_182 : (Jvm.Cond.code ({ cls := "LeafMatches", name := "isNumberTaken", desc := "(II)Z" } : Jvm.MethodName) prog_1_method_22_code (4 : Nat) (Option.some Jvm.ClassFile.FieldType.boolean)) ∈ wA := ku_1 182 rfl rfl
theorem kw_1_187 : (Jvm.Cond.classLink "LeafMatches" (55 : Nat) "java/lang/IllegalArgumentException") ∈ wA := ku_1 187 rfl rfl
theorem kw_1_204 : (Jvm.Cond.instantiable "LeafMatches$Leaf" (8 : Nat)) ∈ wA := ku_1 204 rfl rfl
theorem kw_1_205 : (Jvm.Cond.methodLink "LeafMatches" (62 : Nat) ({ cls := "LeafMatches$Leaf", name := "<init>", desc := "(IIIII)V" } : Jvm.MethodName)) ∈ wA := ku_1 205 rfl rfl
theorem kw_1_206 : (Jvm.Cond.instanceMethod ({ cls := "LeafMatches$Leaf", name := "<init>", desc := "(IIIII)V" } : Jvm.MethodName)) ∈ wA := ku_1 206 rfl rfl
theorem kw_1_207 : (Jvm.Cond.code ({ cls := "LeafMatches$Leaf", name := "<init>", desc := "(IIIII)V" } : Jvm.MethodName) prog_3_method_1_code (6 : Nat) (Option.none : Option Jvm.ClassFile.FieldType)) ∈ wA := ku_1 207 rfl rfl
theorem kw_1_210 : (Jvm.Cond.fieldLink "LeafMatches" (148 : Nat) "LeafMatches$Leaf" "index" "I") ∈ wA := ku_1 210 rfl rfl
theorem kw_1_225 : (Jvm.Cond.fieldLink "LeafMatches" (95 : Nat) "LeafMatches$Leaf" "order" "I") ∈ wA := ku_1 225 rfl rfl
theorem kw_1_228 : (Jvm.Cond.fieldLink "LeafMatches" (87 : Nat) "LeafMatches$Leaf" "used" "Z") ∈ wA := ku_1 228 rfl rfl
theorem kw_2_6 : (Jvm.Cond.methodLink "LeafMatches" (65 : Nat) ({ cls := "LeafMatches$Planner", name := "forgetPlan", desc := "()V" } : Jvm.MethodName)) ∈ wA := ku_2 6 rfl rfl
theorem kw_2_7 : (Jvm.Cond.instanceMethod ({ cls := "LeafMatches$Planner", name := "forgetPlan", desc := "()V" } : Jvm.MethodName)) ∈ wA := ku_2 7 rfl rfl
theorem kw_2_8 : (Jvm.Cond.selects "LeafMatches$Planner" ({ cls := "LeafMatches$Planner", name := "forgetPlan", desc := "()V" } : Jvm.MethodName) ({ cls := "LeafMatches$Planner", name := "forgetPlan", desc := "()V" } : Jvm.MethodName)) ∈ wA := ku_2 8 rfl rfl
theorem kw_2_9 : (Jvm.Cond.code ({ cls := "LeafMatches$Planner", name := "forgetPlan", desc := "()V" } : Jvm.MethodName) prog_5_method_2_code (1 : Nat) (Option.none : Option Jvm.ClassFile.FieldType)) ∈ wA := ku_2 9 rfl rfl
theorem kw_2_18 : (Jvm.Cond.methodLink "LeafMatches" (68 : Nat) ({ cls := "LeafMatches", name := "leafOrNull", desc := "(I)LLeafMatches$Leaf;" } : Jvm.MethodName)) ∈ wA := ku_2 18 rfl rfl
theorem kw_2_20 : (Jvm.Cond.instanceMethod ({ cls := "LeafMatches", name := "leafOrNull", desc := "(I)LLeafMatches$Leaf;" } : Jvm.MethodName)) ∈ wA := ku_2 20 rfl rfl
theorem kw_2_21 : (Jvm.Cond.code ({ cls := "LeafMatches", name := "leafOrNull", desc := "(I)LLeafMatches$Leaf;" } : Jvm.MethodName) prog_1_method_20_code (2 : Nat) (Option.some (Jvm.ClassFile.FieldType.object "LeafMatches$Leaf"))) ∈ wA := ku_2 21 rfl rfl
theorem kw_2_22 : (Jvm.Cond.methodLink "LeafMatches" (72 : Nat) ({ cls := "LeafMatches$Leaf", name := "holds", desc := "(II)Z" } : Jvm.MethodName)) ∈ wA := ku_2 22 rfl rfl
theorem kw_2_26 : (Jvm.Cond.classLink "LeafMatches" (75 : Nat) "java/lang/IndexOutOfBoundsException") ∈ wA := ku_2 26 rfl rfl
theorem kw_2_43 : (Jvm.Cond.methodLink "LeafMatches" (82 : Nat) ({ cls := "LeafMatches$Leaf", name := "paint", desc := "(III)Z" } : Jvm.MethodName)) ∈ wA := ku_2 43 rfl rfl
theorem kw_2_44 : (Jvm.Cond.instanceMethod ({ cls := "LeafMatches$Leaf", name := "paint", desc := "(III)Z" } : Jvm.MethodName)) ∈ wA := ku_2 44 rfl rfl
theorem kw_2_45 : (Jvm.Cond.selects "LeafMatches$Leaf" ({ cls := "LeafMatches$Leaf", name := "paint", desc := "(III)Z" } : Jvm.MethodName) ({ cls := "LeafMatches$Leaf", name := "paint", desc := "(III)Z" } : Jvm.MethodName)) ∈ wA := ku_2 45 rfl rfl
theorem kw_2_46 : (Jvm.Cond.code ({ cls := "LeafMatches$Leaf", name := "paint", desc := "(III)Z" } : Jvm.MethodName) prog_3_method_6_code (6 : Nat) (Option.some Jvm.ClassFile.FieldType.boolean)) ∈ wA := ku_2 46 rfl rfl
theorem kw_2_65 : (Jvm.Cond.methodLink "LeafMatches" (100 : Nat) ({ cls := "LeafMatches", name := "leastFlitchWith", desc := "(I)I" } : Jvm.MethodName)) ∈ wA := ku_2 65 rfl rfl
theorem kw_2_67 : (Jvm.Cond.instanceMethod ({ cls := "LeafMatches", name := "leastFlitchWith", desc := "(I)I" } : Jvm.MethodName)) ∈ wA := ku_2 67 rfl rfl
theorem kw_2_68 : (Jvm.Cond.code ({ cls := "LeafMatches", name := "leastFlitchWith", desc := "(I)I" } : Jvm.MethodName) prog_1_method_24_code (3 : Nat) (Option.some Jvm.ClassFile.FieldType.int)) ∈ wA := ku_2 68 rfl rfl
theorem kw_2_80 : (Jvm.Cond.methodLink "LeafMatches" (110 : Nat) ({ cls := "LeafMatches", name := "gatherFree", desc := "(I)I" } : Jvm.MethodName)) ∈ wA := ku_2 80 rfl rfl
theorem kw_2_82 : (Jvm.Cond.instanceMethod ({ cls := "LeafMatches", name := "gatherFree", desc := "(I)I" } : Jvm.MethodName)) ∈ wA := ku_2 82 rfl rfl
theorem kw_2_83 : (Jvm.Cond.code ({ cls := "LeafMatches", name := "gatherFree", desc := "(I)I" } : Jvm.MethodName) prog_1_method_25_code (6 : Nat) (Option.some Jvm.ClassFile.FieldType.int)) ∈ wA := ku_2 83 rfl rfl
theorem kw_2_84 : (Jvm.Cond.methodLink "LeafMatches" (113 : Nat) ({ cls := "LeafMatches", name := "isBroken", desc := "(I)Z" } : Jvm.MethodName)) ∈ wA := ku_2 84 rfl rfl
theorem kw_2_86 : (Jvm.Cond.instanceMethod ({ cls := "LeafMatches", name := "isBroken", desc := "(I)Z" } : Jvm.MethodName)) ∈ wA := ku_2 86 rfl rfl
theorem kw_2_87 : (Jvm.Cond.code ({ cls := "LeafMatches", name := "isBroken", desc := "(I)Z" } : Jvm.MethodName) prog_1_method_26_code (3 : Nat) (Option.some Jvm.ClassFile.FieldType.boolean)) ∈ wA := ku_2 87 rfl rfl
theorem kw_2_92 : (Jvm.Cond.instantiable "LeafMatches$Face" (2 : Nat)) ∈ wA := ku_2 92 rfl rfl
theorem kw_2_93 : (Jvm.Cond.methodLink "LeafMatches" (117 : Nat) ({ cls := "LeafMatches$Face", name := "<init>", desc := "(I[LLeafMatches$Leaf;I)V" } : Jvm.MethodName)) ∈ wA := ku_2 93 rfl rfl
theorem kw_2_94 : (Jvm.Cond.instanceMethod ({ cls := "LeafMatches$Face", name := "<init>", desc := "(I[LLeafMatches$Leaf;I)V" } : Jvm.MethodName)) ∈ wA := ku_2 94 rfl rfl
theorem kw_2_95 : (Jvm.Cond.code ({ cls := "LeafMatches$Face", name := "<init>", desc := "(I[LLeafMatches$Leaf;I)V" } : Jvm.MethodName) prog_2_method_1_code (8 : Nat) (Option.none : Option Jvm.ClassFile.FieldType)) ∈ wA := ku_2 95 rfl rfl
theorem kw_2_113 : (Jvm.Cond.fieldLink "LeafMatches" (157 : Nat) "LeafMatches$Piece" "begin" "I") ∈ wA := ku_2 113 rfl rfl
theorem kw_2_116 : (Jvm.Cond.fieldLink "LeafMatches" (160 : Nat) "LeafMatches$Piece" "top" "I") ∈ wA := ku_2 116 rfl rfl
theorem kw_2_129 : (Jvm.Cond.fieldLink "LeafMatches" (179 : Nat) "LeafMatches$Face" "kind" "I") ∈ wA := ku_2 129 rfl rfl
theorem kw_2_131 : (Jvm.Cond.fieldLink "LeafMatches" (138 : Nat) "LeafMatches$Face" "pieces" "[LLeafMatches$Piece;") ∈ wA := ku_2 131 rfl rfl
theorem kw_2_137 : (Jvm.Cond.methodLink "LeafMatches" (120 : Nat) ({ cls := "LeafMatches$Face", name := "markUsed", desc := "(Z)V" } : Jvm.MethodName)) ∈ wA := ku_2 137 rfl rfl
theorem kw_2_138 : (Jvm.Cond.instanceMethod ({ cls := "LeafMatches$Face", name := "markUsed", desc := "(Z)V" } : Jvm.MethodName)) ∈ wA := ku_2 138 rfl rfl
theorem kw_2_139 : (Jvm.Cond.selects "LeafMatches$Face" ({ cls := "LeafMatches$Face", name := "markUsed", desc := "(Z)V" } : Jvm.MethodName) ({ cls := "LeafMatches$Face", name := "markUsed", desc := "(Z)V" } : Jvm.MethodName)) ∈ wA := ku_2 139 rfl rfl
theorem kw_2_140 : (Jvm.Cond.code ({ cls := "LeafMatches$Face", name := "markUsed", desc := "(Z)V" } : Jvm.MethodName) prog_2_method_2_code (6 : Nat) (Option.none : Option Jvm.ClassFile.FieldType)) ∈ wA := ku_2 140 rfl rfl
theorem kw_2_148 : (Jvm.Cond.methodLink "LeafMatches" (124 : Nat) ({ cls := "LeafMatches", name := "faceOrNull", desc := "(I)LLeafMatches$Face;" } : Jvm.MethodName)) ∈ wA := ku_2 148 rfl rfl
theorem kw_2_150 : (Jvm.Cond.instanceMethod ({ cls := "LeafMatches", name := "faceOrNull", desc := "(I)LLeafMatches$Face;" } : Jvm.MethodName)) ∈ wA := ku_2 150 rfl rfl
theorem kw_2_151 : (Jvm.Cond.code ({ cls := "LeafMatches", name := "faceOrNull", desc := "(I)LLeafMatches$Face;" } : Jvm.MethodName) prog_1_method_21_code (2 : Nat) (Option.some (Jvm.ClassFile.FieldType.object "LeafMatches$Face"))) ∈ wA := ku_2 151 rfl rfl
theorem kw_2_160 : (Jvm.Cond.methodLink "LeafMatches" (130 : Nat) ({ cls := "LeafMatches$Face", name := "hasPiece", desc := "(I)Z" } : Jvm.MethodName)) ∈ wA := ku_2 160 rfl rfl
theorem kw_2_161 : (Jvm.Cond.instanceMethod ({ cls := "LeafMatches$Face", name := "hasPiece", desc := "(I)Z" } : Jvm.MethodName)) ∈ wA := ku_2 161 rfl rfl
theorem kw_2_162 : (Jvm.Cond.selects "LeafMatches$Face" ({ cls := "LeafMatches$Face", name := "hasPiece", desc := "(I)Z" } : Jvm.MethodName) ({ cls := "LeafMatches$Face", name := "hasPiece", desc := "(I)Z" } : Jvm.MethodName)) ∈ wA := ku_2 162 rfl rfl
theorem kw_2_163 : (Jvm.Cond.code ({ cls := "LeafMatches$Face", name := "hasPiece", desc := "(I)Z" } : Jvm.MethodName) prog_2_method_3_code (2 : Nat) (Option.some Jvm.ClassFile.FieldType.boolean)) ∈ wA := ku_2 163 rfl rfl
theorem kw_2_166 : (Jvm.Cond.methodLink "LeafMatches" (135 : Nat) ({ cls := "LeafMatches$Face", name := "layOut", desc := "()V" } : Jvm.MethodName)) ∈ wA := ku_2 166 rfl rfl
theorem kw_2_167 : (Jvm.Cond.instanceMethod ({ cls := "LeafMatches$Face", name := "layOut", desc := "()V" } : Jvm.MethodName)) ∈ wA := ku_2 167 rfl rfl
theorem kw_2_168 : (Jvm.Cond.selects "LeafMatches$Face" ({ cls := "LeafMatches$Face", name := "layOut", desc := "()V" } : Jvm.MethodName) ({ cls := "LeafMatches$Face", name := "layOut", desc := "()V" } : Jvm.MethodName)) ∈ wA := ku_2 168 rfl rfl
theorem kw_2_169 : (Jvm.Cond.code ({ cls := "LeafMatches$Face", name := "layOut", desc := "()V" } : Jvm.MethodName) prog_2_method_5_code (2 : Nat) (Option.none : Option Jvm.ClassFile.FieldType)) ∈ wA := ku_2 169 rfl rfl
theorem kw_2_208 : (Jvm.Cond.methodLink "LeafMatches" (165 : Nat) ({ cls := "LeafMatches$Face", name := "greySeen", desc := "(II)I" } : Jvm.MethodName)) ∈ wA := ku_2 208 rfl rfl
theorem kw_2_209 : (Jvm.Cond.instanceMethod ({ cls := "LeafMatches$Face", name := "greySeen", desc := "(II)I" } : Jvm.MethodName)) ∈ wA := ku_2 209 rfl rfl
theorem kw_2_210 : (Jvm.Cond.selects "LeafMatches$Face" ({ cls := "LeafMatches$Face", name := "greySeen", desc := "(II)I" } : Jvm.MethodName) ({ cls := "LeafMatches$Face", name := "greySeen", desc := "(II)I" } : Jvm.MethodName)) ∈ wA := ku_2 210 rfl rfl
theorem kw_2_211 : (Jvm.Cond.code ({ cls := "LeafMatches$Face", name := "greySeen", desc := "(II)I" } : Jvm.MethodName) prog_2_method_11_code (9 : Nat) (Option.some Jvm.ClassFile.FieldType.int)) ∈ wA := ku_2 211 rfl rfl
theorem kw_2_226 : (Jvm.Cond.methodLink "LeafMatches" (169 : Nat) ({ cls := "LeafMatches$Face", name := "sizeAcross", desc := "()I" } : Jvm.MethodName)) ∈ wA := ku_2 226 rfl rfl
theorem kw_2_233 : (Jvm.Cond.methodLink "LeafMatches" (173 : Nat) ({ cls := "LeafMatches$Face", name := "greatestBottom", desc := "()I" } : Jvm.MethodName)) ∈ wA := ku_2 233 rfl rfl
theorem kw_2_234 : (Jvm.Cond.instanceMethod ({ cls := "LeafMatches$Face", name := "greatestBottom", desc := "()I" } : Jvm.MethodName)) ∈ wA := ku_2 234 rfl rfl
theorem kw_2_235 : (Jvm.Cond.selects "LeafMatches$Face" ({ cls := "LeafMatches$Face", name := "greatestBottom", desc := "()I" } : Jvm.MethodName) ({ cls := "LeafMatches$Face", name := "greatestBottom", desc := "()I" } : Jvm.MethodName)) ∈ wA := ku_2 235 rfl rfl
theorem kw_2_236 : (Jvm.Cond.code ({ cls := "LeafMatches$Face", name := "greatestBottom", desc := "()I" } : Jvm.MethodName) prog_2_method_10_code (6 : Nat) (Option.some Jvm.ClassFile.FieldType.int)) ∈ wA := ku_2 236 rfl rfl
theorem kw_2_237 : (Jvm.Cond.methodLink "LeafMatches" (176 : Nat) ({ cls := "LeafMatches$Face", name := "leastTop", desc := "()I" } : Jvm.MethodName)) ∈ wA := ku_2 237 rfl rfl
theorem kw_3_6 : (Jvm.Cond.methodLink "LeafMatches" (184 : Nat) ({ cls := "LeafMatches$Face", name := "hasSeam", desc := "(I)Z" } : Jvm.MethodName)) ∈ wA := ku_3 6 rfl rfl
theorem kw_3_7 : (Jvm.Cond.instanceMethod ({ cls := "LeafMatches$Face", name := "hasSeam", desc := "(I)Z" } : Jvm.MethodName)) ∈ wA := ku_3 7 rfl rfl
theorem kw_3_8 : (Jvm.Cond.selects "LeafMatches$Face" ({ cls := "LeafMatches$Face", name := "hasSeam", desc := "(I)Z" } : Jvm.MethodName) ({ cls := "LeafMatches$Face", name := "hasSeam", desc := "(I)Z" } : Jvm.MethodName)) ∈ wA := ku_3 8 rfl rfl
theorem kw_3_9 : (Jvm.Cond.code ({ cls := "LeafMatches$Face", name := "hasSeam", desc := "(I)Z" } : Jvm.MethodName) prog_2_method_4_code (3 : Nat) (Option.some Jvm.ClassFile.FieldType.boolean)) ∈ wA := ku_3 9 rfl rfl
theorem kw_3_11 : (Jvm.Cond.methodLink "LeafMatches" (189 : Nat) ({ cls := "LeafMatches$Face", name := "bestShift", desc := "(I)I" } : Jvm.MethodName)) ∈ wA := ku_3 11 rfl rfl
theorem kw_3_20 : (Jvm.Cond.methodLink "LeafMatches" (194 : Nat) ({ cls := "LeafMatches$Face", name := "differenceAt", desc := "(II)I" } : Jvm.MethodName)) ∈ wA := ku_3 20 rfl rfl
theorem kw_3_35 : (Jvm.Cond.methodLink "LeafMatches" (197 : Nat) ({ cls := "LeafMatches$Face", name := "isBalanced", desc := "()Z" } : Jvm.MethodName)) ∈ wA := ku_3 35 rfl rfl
theorem kw_3_36 : (Jvm.Cond.instanceMethod ({ cls := "LeafMatches$Face", name := "isBalanced", desc := "()Z" } : Jvm.MethodName)) ∈ wA := ku_3 36 rfl rfl
theorem kw_3_37 : (Jvm.Cond.selects "LeafMatches$Face" ({ cls := "LeafMatches$Face", name := "isBalanced", desc := "()Z" } : Jvm.MethodName) ({ cls := "LeafMatches$Face", name := "isBalanced", desc := "()Z" } : Jvm.MethodName)) ∈ wA := ku_3 37 rfl rfl
theorem kw_3_38 : (Jvm.Cond.code ({ cls := "LeafMatches$Face", name := "isBalanced", desc := "()Z" } : Jvm.MethodName) prog_2_method_12_code (6 : Nat) (Option.some Jvm.ClassFile.FieldType.boolean)) ∈ wA := ku_3 38 rfl rfl
theorem kw_3_48 : (Jvm.Cond.methodLink "LeafMatches" (203 : Nat) ({ cls := "LeafMatches", name := "writtenOn", desc := "(IILLeafMatches$Piece;)Ljava/lang/StringBuilder;" } : Jvm.MethodName)) ∈ wA := ku_3 48 rfl rfl
theorem kw_3_49 : (Jvm.Cond.static ({ cls := "LeafMatches", name := "writtenOn", desc := "(IILLeafMatches$Piece;)Ljava/lang/StringBuilder;" } : Jvm.MethodName)) ∈ wA := ku_3 49 rfl rfl
theorem kw_3_50 : (Jvm.Cond.code ({ cls := "LeafMatches", name := "writtenOn", desc := "(IILLeafMatches$Piece;)Ljava/lang/StringBuilder;" } : Jvm.MethodName) prog_1_method_27_code (4 : Nat) (Option.some (Jvm.ClassFile.FieldType.object "java/lang/StringBuilder"))) ∈ wA := ku_3 50 rfl rfl
theorem kw_3_226 : (Jvm.Cond.methodLink "LeafMatches" (207 : Nat) ({ cls := "java/lang/StringBuilder", name := "length", desc := "()I" } : Jvm.MethodName)) ∈ wA := ku_3 226 rfl rfl
theorem kw_3_227 : (Jvm.Cond.instanceMethod ({ cls := "java/lang/StringBuilder", name := "length", desc := "()I" } : Jvm.MethodName)) ∈ wA := ku_3 227 rfl rfl
theorem kw_3_228 : (Jvm.Cond.selects "java/lang/StringBuilder" ({ cls := "java/lang/StringBuilder", name := "length", desc := "()I" } : Jvm.MethodName) ({ cls := "java/lang/StringBuilder", name := "length", desc := "()I" } : Jvm.MethodName)) ∈ wA := ku_3 228 rfl rfl
theorem kw_3_229 : (Jvm.Cond.code ({ cls := "java/lang/StringBuilder", name := "length", desc := "()I" } : Jvm.MethodName) prog_18_method_93_code (1 : Nat) (Option.some Jvm.ClassFile.FieldType.int)) ∈ wA := ku_3 229 rfl rfl
theorem kw_3_233 : (Jvm.Cond.methodLink "LeafMatches" (212 : Nat) ({ cls := "java/lang/StringBuilder", name := "charAt", desc := "(I)C" } : Jvm.MethodName)) ∈ wA := ku_3 233 rfl rfl
theorem kw_3_234 : (Jvm.Cond.instanceMethod ({ cls := "java/lang/StringBuilder", name := "charAt", desc := "(I)C" } : Jvm.MethodName)) ∈ wA := ku_3 234 rfl rfl
theorem kw_3_235 : (Jvm.Cond.selects "java/lang/StringBuilder" ({ cls := "java/lang/StringBuilder", name := "charAt", desc := "(I)C" } : Jvm.MethodName) ({ cls := "java/lang/StringBuilder", name := "charAt", desc := "(I)C" } : Jvm.MethodName)) ∈ wA := ku_3 235 rfl rfl
theorem kw_3_236 : (Jvm.Cond.code ({ cls := "java/lang/StringBuilder", name := "charAt", desc := "(I)C" } : Jvm.MethodName) prog_18_method_88_code (2 : Nat) (Option.some Jvm.ClassFile.FieldType.char)) ∈ wA := ku_3 236 rfl rfl
theorem kw_4_12 : (Jvm.Cond.methodLink "LeafMatches" (223 : Nat) ({ cls := "LeafMatches$Planner", name := "addWanted", desc := "(I)V" } : Jvm.MethodName)) ∈ wA := ku_4 12 rfl rfl
theorem kw_4_13 : (Jvm.Cond.instanceMethod ({ cls := "LeafMatches$Planner", name := "addWanted", desc := "(I)V" } : Jvm.MethodName)) ∈ wA := ku_4 13 rfl rfl
theorem kw_4_14 : (Jvm.Cond.selects "LeafMatches$Planner" ({ cls := "LeafMatches$Planner", name := "addWanted", desc := "(I)V" } : Jvm.MethodName) ({ cls := "LeafMatches$Planner", name := "addWanted", desc := "(I)V" } : Jvm.MethodName)) ∈ wA := ku_4 14 rfl rfl
theorem kw_4_15 : (Jvm.Cond.code ({ cls := "LeafMatches$Planner", name := "addWanted", desc := "(I)V" } : Jvm.MethodName) prog_5_method_3_code (2 : Nat) (Option.none : Option Jvm.ClassFile.FieldType)) ∈ wA := ku_4 15 rfl rfl
theorem kw_4_24 : (Jvm.Cond.methodLink "LeafMatches" (232 : Nat) ({ cls := "LeafMatches$Planner", name := "planFrom", desc := "([LLeafMatches$Leaf;I)I" } : Jvm.MethodName)) ∈ wA := ku_4 24 rfl rfl
theorem kw_4_25 : (Jvm.Cond.instanceMethod ({ cls := "LeafMatches$Planner", name := "planFrom", desc := "([LLeafMatches$Leaf;I)I" } : Jvm.MethodName)) ∈ wA := ku_4 25 rfl rfl
theorem kw_4_26 : (Jvm.Cond.selects "LeafMatches$Planner" ({ cls := "LeafMatches$Planner", name := "planFrom", desc := "([LLeafMatches$Leaf;I)I" } : Jvm.MethodName) ({ cls := "LeafMatches$Planner", name := "planFrom", desc := "([LLeafMatches$Leaf;I)I" } : Jvm.MethodName)) ∈ wA := ku_4 26 rfl rfl
theorem kw_4_27 : (Jvm.Cond.code ({ cls := "LeafMatches$Planner", name := "planFrom", desc := "([LLeafMatches$Leaf;I)I" } : Jvm.MethodName) prog_5_method_5_code (4 : Nat) (Option.some Jvm.ClassFile.FieldType.int)) ∈ wA := ku_4 27 rfl rfl
set_option maxRecDepth 20000 in
theorem at1_55_59_1 : ∀ w ∈ (vx_atS R_LM 59 (xexn 1) xnames).filter goodWord, w ∈ lw_tbl := by decide +kernel
set_option maxRecDepth 20000 in
theorem at2_55_59_1 : ∀ w ∈ (vx_atS R_LM 59 (xexn 1) xnames).filter (fun w => !goodWord w), w ∈ xnw := by decide +kernel
theorem at3_55_59_1 : ∀ w ∈ Cond.classLink R_LM 55 (xexn 1) :: Cond.initialized (xexn 1) :: vx_atS R_LM 59 (xexn 1) xnames, vx_ot w = true := by decide +kernel
set_option maxRecDepth 20000 in
theorem at1_38_42_0 : ∀ w ∈ (vx_atS R_LM 42 (xexn 0) xnames).filter goodWord, w ∈ lw_tbl := by decide +kernel
set_option maxRecDepth 20000 in
theorem at2_38_42_0 : ∀ w ∈ (vx_atS R_LM 42 (xexn 0) xnames).filter (fun w => !goodWord w), w ∈ xnw := by decide +kernel
theorem at3_38_42_0 : ∀ w ∈ Cond.classLink R_LM 38 (xexn 0) :: Cond.initialized (xexn 0) :: vx_atS R_LM 42 (xexn 0) xnames, vx_ot w = true := by decide +kernel
set_option maxRecDepth 20000 in
theorem at1_75_79_2 : ∀ w ∈ (vx_atS R_LM 79 (xexn 2) xnames).filter goodWord, w ∈ lw_tbl := by decide +kernel
set_option maxRecDepth 20000 in
theorem at2_75_79_2 : ∀ w ∈ (vx_atS R_LM 79 (xexn 2) xnames).filter (fun w => !goodWord w), w ∈ xnw := by decide +kernel
theorem at3_75_79_2 : ∀ w ∈ Cond.classLink R_LM 75 (xexn 2) :: Cond.initialized (xexn 2) :: vx_atS R_LM 79 (xexn 2) xnames, vx_ot w = true := by decide +kernel
theorem d_LM_leaf_0 : decode b_LM_leaf 0 = .ok (.aload_n 0, 1) := by decide +kernel
theorem d_LM_leaf_1 : decode b_LM_leaf 1 = .ok (.getfield 15, 3) := by decide +kernel
theorem d_LM_leaf_4 : decode b_LM_leaf 4 = .ok (.bipush 32, 2) := by decide +kernel
theorem d_LM_leaf_6 : decode b_LM_leaf 6 = .ok (.if_icmp .lt 13, 3) := by decide +kernel
theorem d_LM_leaf_9 : decode b_LM_leaf 9 = .ok (.new 38, 3) := by decide +kernel
theorem d_LM_leaf_12 : decode b_LM_leaf 12 = .ok (.dup, 1) := by decide +kernel
theorem d_LM_leaf_13 : decode b_LM_leaf 13 = .ok (.ldc 40, 2) := by decide +kernel
theorem d_LM_leaf_15 : decode b_LM_leaf 15 = .ok (.invokespecial 42, 3) := by decide +kernel
theorem d_LM_leaf_18 : decode b_LM_leaf 18 = .ok (.athrow, 1) := by decide +kernel
theorem d_LM_leaf_19 : decode b_LM_leaf 19 = .ok (.aload_n 0, 1) := by decide +kernel
theorem d_LM_leaf_20 : decode b_LM_leaf 20 = .ok (.iload_n 1, 1) := by decide +kernel
theorem d_LM_leaf_21 : decode b_LM_leaf 21 = .ok (.iload_n 2, 1) := by decide +kernel
theorem d_LM_leaf_22 : decode b_LM_leaf 22 = .ok (.invokevirtual 45, 3) := by decide +kernel
theorem d_LM_leaf_25 : decode b_LM_leaf 25 = .ok (.ifCond .eq 13, 3) := by decide +kernel
theorem d_LM_leaf_28 : decode b_LM_leaf 28 = .ok (.new 38, 3) := by decide +kernel
theorem d_LM_leaf_31 : decode b_LM_leaf 31 = .ok (.dup, 1) := by decide +kernel
theorem d_LM_leaf_32 : decode b_LM_leaf 32 = .ok (.ldc 49, 2) := by decide +kernel
theorem d_LM_leaf_34 : decode b_LM_leaf 34 = .ok (.invokespecial 42, 3) := by decide +kernel
theorem d_LM_leaf_37 : decode b_LM_leaf 37 = .ok (.athrow, 1) := by decide +kernel
theorem d_LM_leaf_38 : decode b_LM_leaf 38 = .ok (.iload_n 1, 1) := by decide +kernel
theorem d_LM_leaf_39 : decode b_LM_leaf 39 = .ok (.iconst 0, 1) := by decide +kernel
theorem d_LM_leaf_40 : decode b_LM_leaf 40 = .ok (.iconst 3, 1) := by decide +kernel
theorem d_LM_leaf_41 : decode b_LM_leaf 41 = .ok (.invokestatic 51, 3) := by decide +kernel
theorem d_LM_leaf_44 : decode b_LM_leaf 44 = .ok (.ifCond .eq 14, 3) := by decide +kernel
theorem d_LM_leaf_47 : decode b_LM_leaf 47 = .ok (.iload_n 2, 1) := by decide +kernel
theorem d_LM_leaf_48 : decode b_LM_leaf 48 = .ok (.iconst 0, 1) := by decide +kernel
theorem d_LM_leaf_49 : decode b_LM_leaf 49 = .ok (.sipush 1000, 3) := by decide +kernel
theorem d_LM_leaf_52 : decode b_LM_leaf 52 = .ok (.invokestatic 51, 3) := by decide +kernel
theorem d_LM_leaf_55 : decode b_LM_leaf 55 = .ok (.ifCond .ne 13, 3) := by decide +kernel
theorem d_LM_leaf_58 : decode b_LM_leaf 58 = .ok (.new 55, 3) := by decide +kernel
theorem d_LM_leaf_61 : decode b_LM_leaf 61 = .ok (.dup, 1) := by decide +kernel
theorem d_LM_leaf_62 : decode b_LM_leaf 62 = .ok (.ldc 57, 2) := by decide +kernel
theorem d_LM_leaf_64 : decode b_LM_leaf 64 = .ok (.invokespecial 59, 3) := by decide +kernel
theorem d_LM_leaf_67 : decode b_LM_leaf 67 = .ok (.athrow, 1) := by decide +kernel
theorem d_LM_leaf_68 : decode b_LM_leaf 68 = .ok (.iload_n 3, 1) := by decide +kernel
theorem d_LM_leaf_69 : decode b_LM_leaf 69 = .ok (.iconst 1, 1) := by decide +kernel
theorem d_LM_leaf_70 : decode b_LM_leaf 70 = .ok (.bipush 12, 2) := by decide +kernel
theorem d_LM_leaf_72 : decode b_LM_leaf 72 = .ok (.invokestatic 51, 3) := by decide +kernel
theorem d_LM_leaf_75 : decode b_LM_leaf 75 = .ok (.ifCond .eq 14, 3) := by decide +kernel
theorem d_LM_leaf_78 : decode b_LM_leaf 78 = .ok (.iload 4, 2) := by decide +kernel
theorem d_LM_leaf_80 : decode b_LM_leaf 80 = .ok (.iconst 1, 1) := by decide +kernel
theorem d_LM_leaf_81 : decode b_LM_leaf 81 = .ok (.bipush 12, 2) := by decide +kernel
theorem d_LM_leaf_83 : decode b_LM_leaf 83 = .ok (.invokestatic 51, 3) := by decide +kernel
theorem d_LM_leaf_86 : decode b_LM_leaf 86 = .ok (.ifCond .ne 13, 3) := by decide +kernel
theorem d_LM_leaf_89 : decode b_LM_leaf 89 = .ok (.new 55, 3) := by decide +kernel
theorem d_LM_leaf_92 : decode b_LM_leaf 92 = .ok (.dup, 1) := by decide +kernel
theorem d_LM_leaf_93 : decode b_LM_leaf 93 = .ok (.ldc 60, 2) := by decide +kernel
theorem d_LM_leaf_95 : decode b_LM_leaf 95 = .ok (.invokespecial 59, 3) := by decide +kernel
theorem d_LM_leaf_98 : decode b_LM_leaf 98 = .ok (.athrow, 1) := by decide +kernel
theorem d_LM_leaf_99 : decode b_LM_leaf 99 = .ok (.aload_n 0, 1) := by decide +kernel
theorem d_LM_leaf_100 : decode b_LM_leaf 100 = .ok (.getfield 11, 3) := by decide +kernel
theorem d_LM_leaf_103 : decode b_LM_leaf 103 = .ok (.aload_n 0, 1) := by decide +kernel
theorem d_LM_leaf_104 : decode b_LM_leaf 104 = .ok (.getfield 15, 3) := by decide +kernel
theorem d_LM_leaf_107 : decode b_LM_leaf 107 = .ok (.new 9, 3) := by decide +kernel
theorem d_LM_leaf_110 : decode b_LM_leaf 110 = .ok (.dup, 1) := by decide +kernel
theorem d_LM_leaf_111 : decode b_LM_leaf 111 = .ok (.aload_n 0, 1) := by decide +kernel
theorem d_LM_leaf_112 : decode b_LM_leaf 112 = .ok (.getfield 15, 3) := by decide +kernel
theorem d_LM_leaf_115 : decode b_LM_leaf 115 = .ok (.iload_n 1, 1) := by decide +kernel
theorem d_LM_leaf_116 : decode b_LM_leaf 116 = .ok (.iload_n 2, 1) := by decide +kernel
theorem d_LM_leaf_117 : decode b_LM_leaf 117 = .ok (.iload_n 3, 1) := by decide +kernel
theorem d_LM_leaf_118 : decode b_LM_leaf 118 = .ok (.iload 4, 2) := by decide +kernel
theorem d_LM_leaf_120 : decode b_LM_leaf 120 = .ok (.invokespecial 62, 3) := by decide +kernel
theorem d_LM_leaf_123 : decode b_LM_leaf 123 = .ok (.aastore, 1) := by decide +kernel
theorem d_LM_leaf_124 : decode b_LM_leaf 124 = .ok (.aload_n 0, 1) := by decide +kernel
theorem d_LM_leaf_125 : decode b_LM_leaf 125 = .ok (.getfield 31, 3) := by decide +kernel
theorem d_LM_leaf_128 : decode b_LM_leaf 128 = .ok (.invokevirtual 65, 3) := by decide +kernel
theorem d_LM_leaf_131 : decode b_LM_leaf 131 = .ok (.aload_n 0, 1) := by decide +kernel
theorem d_LM_leaf_132 : decode b_LM_leaf 132 = .ok (.dup, 1) := by decide +kernel
theorem d_LM_leaf_133 : decode b_LM_leaf 133 = .ok (.getfield 15, 3) := by decide +kernel
theorem d_LM_leaf_136 : decode b_LM_leaf 136 = .ok (.dup_x1, 1) := by decide +kernel
theorem d_LM_leaf_137 : decode b_LM_leaf 137 = .ok (.iconst 1, 1) := by decide +kernel
theorem d_LM_leaf_138 : decode b_LM_leaf 138 = .ok (.iadd, 1) := by decide +kernel
theorem d_LM_leaf_139 : decode b_LM_leaf 139 = .ok (.putfield 15, 3) := by decide +kernel
theorem d_LM_leaf_142 : decode b_LM_leaf 142 = .ok (.ireturn, 1) := by decide +kernel
def f_LM_leaf (w : Mp) (sz : Nat) (h0 : Nat) (x1 : Int32) (x2 : Int32) (x3 : Int32) (x4 : Int32) : Option ((Int32 ⊕ Nat) × Mp × Nat) := (gI w (some h0) 0 1).bind fun v_1 => if v_1 < (32 : Int32) then ((xo w (some h0) 0).bind fun b_3 => (f_LM_isNumberTaken w b_3 x1 x2).bind fun q_2 => if q_2 = 0 then ((f_LM_isWithin w x1 (0 : Int32) (3 : Int32)).bind fun q_4 => if q_4 = 0 then (some (.inr 1, w, sz + 1)) else ((f_LM_isWithin w x2 (0 : Int32) (1000 : Int32)).bind fun q_5 => if q_5 = 0 then (some (.inr 1, w, sz + 1)) else ((f_LM_isWithin w x3 (1 : Int32) (12 : Int32)).bind fun q_6 => if q_6 = 0 then (some (.inr 1, w, sz + 1)) else ((f_LM_isWithin w x4 (1 : Int32) (12 : Int32)).bind fun q_7 => if q_7 = 0 then (some (.inr 1, w, sz + 1)) else ((gR w (some h0) 0 0).bind fun v_8 => (gI w (some h0) 0 1).bind fun v_9 => (xnO w sz 1 [.int 0, .int 0, .int 0, .int 0, .int 0, .null, .int 0, .int 0]).bind fun w_10 => (gI w_10 (some h0) 0 1).bind fun v_11 => (xo w_10 (some sz) 1).bind fun b_13 => (f_Leaf_init w_10 (sz + 1) b_13 v_11 x1 x2 x3 x4).bind fun q_12 => (sR q_12.2.1 v_8 1 1 v_9 (some sz)).bind fun w_14 => (gR w_14 (some h0) 0 4).bind fun v_15 => (xo w_14 v_15 4).bind fun b_17 => (f_Plan_forgetPlan w_14 b_17).bind fun q_16 => (gI q_16.2 (some h0) 0 1).bind fun v_18 => (pF q_16.2 (some h0) 0 1 (.int (v_18 + (1 : Int32)))).bind fun w_19 => some (.inl v_18, w_19, q_12.2.2)))))) else (some (.inr 0, w, sz + 1))) else (some (.inr 0, w, sz + 1))
set_option maxHeartbeats 4000000 in
set_option maxRecDepth 100000 in
theorem c_LM_leaf (l : Launch) (G : Gx) (w : Mp) (sz : Nat) (h0 : Nat) (x1 : Int32) (x2 : Int32) (x3 : Int32) (x4 : Int32) (res : (Int32 ⊕ Nat) × Mp × Nat) (hf : f_LM_leaf w sz h0 x1 x2 x3 x4 = some res) (hlt : l.stackTraces = false) : vx_Met l y_LM_leaf (xws y_LM_leaf b_LM_leaf 5 (some .int)) { frames := 6, cells := 2, slots := 152, locals := 82 } (xPc G vwCl xaty w sz [va_rf (some h0), .int x1, .int x2, .int x3, .int x4]) (xQT G vwCl (xri res.1) res.2.1 res.2.2) (xXT G vwCl (xri res.1) res.2.1 res.2.2) (2) (152) (xA G) := by
  refine vx_ofW (cc := b_LM_leaf) (maxL := 5) (ret := (some .int)) (by decide) rfl ?_
  intro p e s m args below meth c s₁ B hml ht hv
  obtain ⟨ha, hE, hH, hz⟩ := hv
  have hout : ∀ x ∈ c.exceptionTable.toList, ∀ q, covers x q = false := fun x hx => (ht x hx).elim
  have C0 : CallFix p m c b_LM_leaf 5 s args wA R_LM := ⟨B.exec, B.bytes, hml, findClass_of_methodNamed B.named, fun w hw => atoms_spec (ws := xws y_LM_leaf b_LM_leaf 5 (some .int)) B.pre w (List.mem_cons_of_mem _ hw)⟩
  have hr := B.returns
  have hlocks := B.notSynchronized
  obtain ⟨R, hR⟩ : ∃ R, R = (headSpec (xws y_LM_leaf b_LM_leaf 5 (some .int)) { frames := 6, cells := 2, slots := 152, locals := 82 }).room := ⟨_, rfl⟩
  have hR1 : 6 ≤ R.frames := by rw [hR]; exact Nat.le_of_ble_eq_true rfl
  have hR2 : 82 ≤ R.locals := by rw [hR]; exact Nat.le_of_ble_eq_true rfl
  have hR3 : 2 ≤ R.cells := by rw [hR]; exact Nat.le_refl _
  have hR4 : 152 ≤ R.slots := by rw [hR]; exact Nat.le_refl _
  rw [← hR]
  obtain ⟨Q, hQ⟩ : ∃ Q, Q = vx_MQ below (xQT G vwCl (xri res.1) res.2.1 res.2.2) (xXT G vwCl (xri res.1) res.2.1 res.2.2) args s (2) (152) (xA G) := ⟨_, rfl⟩
  rw [← hQ]
  have hS : xS G s s.heap [] := va_S.rf
  obtain ⟨ls, he, hl⟩ := x_entry m [.inr (.inl (some h0)), .inl x1, .inl x2, .inl x3, .inl x4] 5 (Nat.le_of_ble_eq_true rfl)
  rw [show entryFrame m args 5 = F0 m 0 ls [] by rw [ha]; exact he]
  have hl : xL ls 5 [(0, .inr (.inl (some h0))), (1, .inl x1), (2, .inl x2), (3, .inl x3), (4, .inl x4)] := hl
  have h := hf
  unfold f_LM_leaf at h
  suffices hmain : ∀ (H : Heap) (locs : List Loc), xhd G vwCl w H → xS G s H locs → H.size = sz → (H = s.heap ∧ locs = []) → W p l e R s m args below meth c H locs 0 0 Q (F0 m 0 ls []) from hmain _ _ hH hS hz ⟨rfl, rfl⟩
  clear hH hS hz
  intro H locs hH hS hz hP0
  refine x_aload_n C0 hl 0 d_LM_leaf_0 rfl rfl ?_
  refine x_getI C0 hE hH (ci := 0) rfl i_LM 1 (by decide) kw_1_76 d_LM_leaf_1 h (fun v_1 h => ?_)
  refine lv_bipush (v := 32) C0.1 C0.2.1 d_LM_leaf_4 (by decide) ?_
  refine x_icmp_lt C0 19 d_LM_leaf_6 (by decide) h (fun h => ?_) (fun h => ?_)
  · refine x_aload_n C0 hl 0 d_LM_leaf_19 rfl rfl ?_
    refine x_iload_n C0 hl 1 d_LM_leaf_20 rfl rfl ?_
    refine x_iload_n C0 hl 2 d_LM_leaf_21 rfl rfl ?_
    obtain ⟨b_3, e9, h⟩ := Option.bind_eq_some_iff.mp h
    obtain ⟨e8, fs9, hb9⟩ := xo_inv e9
    obtain ⟨q_2, e9, h⟩ := Option.bind_eq_some_iff.mp h
    refine x_callP (va_runV (As := [.int x1, .int x2]) (rest := []) C0 (c_LM_isNumberTaken l G w _ b_3 x1 x2 q_2 e9) (x_cwV 2 C0 kw_1_179 kw_1_182 kw_1_1 kw_1_181 kw_0_1 (by decide +kernel) (x_rm hR1 hR2 (Nat.le_of_ble_eq_true rfl) (Nat.le_of_ble_eq_true rfl))) (x_preV hE hH hS (ci := 0) rfl hb9) rfl rfl hl.1 (by rw [e8]; rfl) (lv_room (by first | exact Nat.le_of_ble_eq_true rfl | simp only [List.map_cons, List.map_nil, List.sum_cons, List.sum_nil, va_rf_cat, x_catI, x_catL, x_catA] <;> decide)) d_LM_leaf_22 (x_le0 (Nat.le_trans (by omega) hR3) (Nat.le_trans (by omega) hR4))) ?_
    refine x_if_eq C0 38 d_LM_leaf_25 (by decide) h (fun h => ?_) (fun h => ?_)
    · refine x_iload_n C0 hl 1 d_LM_leaf_38 rfl rfl ?_
      refine lv_iconst (v := 0) C0.1 C0.2.1 d_LM_leaf_39 (by decide) ?_
      refine lv_iconst (v := 3) C0.1 C0.2.1 d_LM_leaf_40 (by decide) ?_
      obtain ⟨q_4, e9, h⟩ := Option.bind_eq_some_iff.mp h
      refine x_callP (va_runS (As := [.int x1, .int (0 : Int32), .int (3 : Int32)]) (rest := []) C0 (c_LM_isWithin l G w _ x1 (0 : Int32) (3 : Int32) q_4 e9) (x_cwS 3 C0 kw_1_184 kw_1_186 kw_1_1 kw_1_185 (by decide +kernel) (x_rm hR1 hR2 (Nat.le_of_ble_eq_true rfl) (Nat.le_of_ble_eq_true rfl))) (x_preS hE hH hS) rfl rfl hl.1 rfl (lv_room (by first | exact Nat.le_of_ble_eq_true rfl | simp only [List.map_cons, List.map_nil, List.sum_cons, List.sum_nil, va_rf_cat, x_catI, x_catL, x_catA] <;> decide)) d_LM_leaf_41 (x_le0 (Nat.le_trans (by omega) hR3) (Nat.le_trans (by omega) hR4))) ?_
      refine x_if_eq C0 58 d_LM_leaf_44 (by decide) h (fun h => ?_) (fun h => ?_)
      · cases h
        rw [hQ]
        exact x_throw C0 hlt hE hH hS hz hl hout 1 (by decide +kernel) kw_1_187 kw_1_8 (List.mem_of_getElem? (i := 2) rfl) at1_55_59_1 at2_55_59_1 at3_55_59_1 d_LM_leaf_58 d_LM_leaf_61 d_LM_leaf_62 d_LM_leaf_64 d_LM_leaf_67 (Nat.le_trans (by decide) hR1) (Nat.le_trans (by decide) hR2) (Nat.le_trans (by omega) hR3) (Nat.le_trans (by omega) hR4) hlocks (by omega) (by omega)
      · refine x_iload_n C0 hl 2 d_LM_leaf_47 rfl rfl ?_
        refine lv_iconst (v := 0) C0.1 C0.2.1 d_LM_leaf_48 (by decide) ?_
        refine lv_sipush (v := 1000) C0.1 C0.2.1 d_LM_leaf_49 (by decide) ?_
        obtain ⟨q_5, e9, h⟩ := Option.bind_eq_some_iff.mp h
        refine x_callP (va_runS (As := [.int x2, .int (0 : Int32), .int (1000 : Int32)]) (rest := []) C0 (c_LM_isWithin l G w _ x2 (0 : Int32) (1000 : Int32) q_5 e9) (x_cwS 3 C0 kw_1_184 kw_1_186 kw_1_1 kw_1_185 (by decide +kernel) (x_rm hR1 hR2 (Nat.le_of_ble_eq_true rfl) (Nat.le_of_ble_eq_true rfl))) (x_preS hE hH hS) rfl rfl hl.1 rfl (lv_room (by first | exact Nat.le_of_ble_eq_true rfl | simp only [List.map_cons, List.map_nil, List.sum_cons, List.sum_nil, va_rf_cat, x_catI, x_catL, x_catA] <;> decide)) d_LM_leaf_52 (x_le0 (Nat.le_trans (by omega) hR3) (Nat.le_trans (by omega) hR4))) ?_
        refine x_if_ne C0 68 d_LM_leaf_55 (by decide) h (fun h => ?_) (fun h => ?_)
        · refine x_iload_n C0 hl 3 d_LM_leaf_68 rfl rfl ?_
          refine lv_iconst (v := 1) C0.1 C0.2.1 d_LM_leaf_69 (by decide) ?_
          refine lv_bipush (v := 12) C0.1 C0.2.1 d_LM_leaf_70 (by decide) ?_
          obtain ⟨q_6, e9, h⟩ := Option.bind_eq_some_iff.mp h
          refine x_callP (va_runS (As := [.int x3, .int (1 : Int32), .int (12 : Int32)]) (rest := []) C0 (c_LM_isWithin l G w _ x3 (1 : Int32) (12 : Int32) q_6 e9) (x_cwS 3 C0 kw_1_184 kw_1_186 kw_1_1 kw_1_185 (by decide +kernel) (x_rm hR1 hR2 (Nat.le_of_ble_eq_true rfl) (Nat.le_of_ble_eq_true rfl))) (x_preS hE hH hS) rfl rfl hl.1 rfl (lv_room (by first | exact Nat.le_of_ble_eq_true rfl | simp only [List.map_cons, List.map_nil, List.sum_cons, List.sum_nil, va_rf_cat, x_catI, x_catL, x_catA] <;> decide)) d_LM_leaf_72 (x_le0 (Nat.le_trans (by omega) hR3) (Nat.le_trans (by omega) hR4))) ?_
          refine x_if_eq C0 89 d_LM_leaf_75 (by decide) h (fun h => ?_) (fun h => ?_)
          · cases h
            rw [hQ]
            exact x_throw C0 hlt hE hH hS hz hl hout 1 (by decide +kernel) kw_1_187 kw_1_8 (List.mem_of_getElem? (i := 3) rfl) at1_55_59_1 at2_55_59_1 at3_55_59_1 d_LM_leaf_89 d_LM_leaf_92 d_LM_leaf_93 d_LM_leaf_95 d_LM_leaf_98 (Nat.le_trans (by decide) hR1) (Nat.le_trans (by decide) hR2) (Nat.le_trans (by omega) hR3) (Nat.le_trans (by omega) hR4) hlocks (by omega) (by omega)
          · refine x_iload C0 hl 4 d_LM_leaf_78 rfl ?_
            refine lv_iconst (v := 1) C0.1 C0.2.1 d_LM_leaf_80 (by decide) ?_
            refine lv_bipush (v := 12) C0.1 C0.2.1 d_LM_leaf_81 (by decide) ?_
            obtain ⟨q_7, e9, h⟩ := Option.bind_eq_some_iff.mp h
            refine x_callP (va_runS (As := [.int x4, .int (1 : Int32), .int (12 : Int32)]) (rest := []) C0 (c_LM_isWithin l G w _ x4 (1 : Int32) (12 : Int32) q_7 e9) (x_cwS 3 C0 kw_1_184 kw_1_186 kw_1_1 kw_1_185 (by decide +kernel) (x_rm hR1 hR2 (Nat.le_of_ble_eq_true rfl) (Nat.le_of_ble_eq_true rfl))) (x_preS hE hH hS) rfl rfl hl.1 rfl (lv_room (by first | exact Nat.le_of_ble_eq_true rfl | simp only [List.map_cons, List.map_nil, List.sum_cons, List.sum_nil, va_rf_cat, x_catI, x_catL, x_catA] <;> decide)) d_LM_leaf_83 (x_le0 (Nat.le_trans (by omega) hR3) (Nat.le_trans (by omega) hR4))) ?_
            refine x_if_ne C0 99 d_LM_leaf_86 (by decide) h (fun h => ?_) (fun h => ?_)
            · refine x_aload_n C0 hl 0 d_LM_leaf_99 rfl rfl ?_
              refine x_getR C0 hE hH (ci := 0) rfl i_LM 0 (by decide) kw_1_75 d_LM_leaf_100 h (fun v_8 h => ?_)
              refine x_aload_n C0 hl 0 d_LM_leaf_103 rfl rfl ?_
              refine x_getI C0 hE hH (ci := 0) rfl i_LM 1 (by decide) kw_1_76 d_LM_leaf_104 h (fun v_9 h => ?_)
              refine x_new (fs := [.int 0, .int 0, .int 0, .int 0, .int 0, .null, .int 0, .int 0]) C0 hE hH hS hz (ci := 1) rfl i_Leaf t_Leaf t_Leaf_ok kw_1_32 kw_1_204 kw_1_9 (fun j hj => by rcases (show j = 0 ∨ j = 1 ∨ j = 2 ∨ j = 3 ∨ j = 4 ∨ j = 5 ∨ j = 6 ∨ j = 7 by omega) with rfl | rfl | rfl | rfl | rfl | rfl | rfl | rfl <;> rfl) (Nat.le_trans (by omega) hR3) (Nat.le_trans (by omega) hR4) d_LM_leaf_107 h (fun w_10 H hH hS hz h => ?_)
              refine W.widen (k := 1) (n := 8) (by omega) (by omega) ?_
              refine lv_dup C0.1 C0.2.1 d_LM_leaf_110 (va_rf_cat _) ?_
              refine x_aload_n C0 hl 0 d_LM_leaf_111 rfl rfl ?_
              refine x_getI C0 hE hH (ci := 0) rfl i_LM 1 (by decide) kw_1_76 d_LM_leaf_112 h (fun v_11 h => ?_)
              refine x_iload_n C0 hl 1 d_LM_leaf_115 rfl rfl ?_
              refine x_iload_n C0 hl 2 d_LM_leaf_116 rfl rfl ?_
              refine x_iload_n C0 hl 3 d_LM_leaf_117 rfl rfl ?_
              refine x_iload C0 hl 4 d_LM_leaf_118 rfl ?_
              obtain ⟨b_13, e9, h⟩ := Option.bind_eq_some_iff.mp h
              obtain ⟨e8, fs9, hb9⟩ := xo_inv e9
              obtain ⟨q_12, e9, h⟩ := Option.bind_eq_some_iff.mp h
              have e9 := (show f_Leaf_init w_10 (Array.size H) b_13 v_11 x1 x2 x3 x4 = some q_12 by rw [hz]; exact e9)
              refine x_call hS (va_runI (As := [.int v_11, .int x1, .int x2, .int x3, .int x4]) (rest := [va_rf (some sz), .int v_9, va_rf v_8]) C0 (c_Leaf_init l G w_10 _ b_13 v_11 x1 x2 x3 x4 q_12 e9) (x_cwI 5 C0 kw_1_205 kw_1_207 kw_1_9 kw_1_206 rfl (by decide +kernel) (x_rm hR1 hR2 (Nat.le_of_ble_eq_true rfl) (Nat.le_of_ble_eq_true rfl))) (x_preS hE hH hS) rfl rfl hl.1 (by rw [e8]; rfl) (lv_room (by first | exact Nat.le_of_ble_eq_true rfl | simp only [List.map_cons, List.map_nil, List.sum_cons, List.sum_nil, va_rf_cat, x_catI, x_catL, x_catA] <;> decide)) d_LM_leaf_120 ⟨Nat.le_trans (by omega) hR3, Nat.le_trans (by omega) hR4⟩) (fun H locs hH hS hz => ?_)
              refine W.widen (k := 2) (n := 152) (by omega) (by omega) ?_
              refine x_aast C0 hE hH hS (t := 1) (ci := 1) rfl rfl d_LM_leaf_123 h (fun w_14 H locs hH hS hz9 h => ?_)
              have hz := hz9.trans hz
              refine x_aload_n C0 hl 0 d_LM_leaf_124 rfl rfl ?_
              refine x_getR C0 hE hH (ci := 0) rfl i_LM 4 (by decide) kw_1_79 d_LM_leaf_125 h (fun v_15 h => ?_)
              obtain ⟨b_17, e9, h⟩ := Option.bind_eq_some_iff.mp h
              obtain ⟨e8, fs9, hb9⟩ := xo_inv e9
              obtain ⟨q_16, e9, h⟩ := Option.bind_eq_some_iff.mp h
              refine x_call0 hS (va_runV (As := []) (rest := []) C0 (c_Plan_forgetPlan l G w_14 _ b_17 q_16 e9) (x_cwV 0 C0 kw_2_6 kw_2_9 kw_1_2 kw_2_7 kw_2_8 (by decide +kernel) (x_rm hR1 hR2 (Nat.le_of_ble_eq_true rfl) (Nat.le_of_ble_eq_true rfl))) (x_preV hE hH hS (ci := 4) rfl hb9) rfl rfl hl.1 (by rw [e8]; rfl) (lv_room (by first | exact Nat.le_of_ble_eq_true rfl | simp only [List.map_cons, List.map_nil, List.sum_cons, List.sum_nil, va_rf_cat, x_catI, x_catL, x_catA] <;> decide)) d_LM_leaf_128 (x_le0 (Nat.le_trans (by omega) hR3) (Nat.le_trans (by omega) hR4))) (fun H locs hH hS hz9 => ?_)
              have hz := hz9.trans hz
              refine x_aload_n C0 hl 0 d_LM_leaf_131 rfl rfl ?_
              refine lv_dup C0.1 C0.2.1 d_LM_leaf_132 (va_rf_cat _) ?_
              refine x_getI C0 hE hH (ci := 0) rfl i_LM 1 (by decide) kw_1_76 d_LM_leaf_133 h (fun v_18 h => ?_)
              refine lv_dup_x1 C0.1 C0.2.1 d_LM_leaf_136 rfl (va_rf_cat _) ?_
              refine lv_iconst (v := 1) C0.1 C0.2.1 d_LM_leaf_137 (by decide) ?_
              refine lv_iadd C0.1 C0.2.1 d_LM_leaf_138 ?_
              refine x_put C0 hE hH hS (ci := 0) rfl i_LM t_LM t_LM_ok n_LM 1 (by decide) kw_1_76 rfl rfl rfl d_LM_leaf_139 h (fun w_19 H locs hH hS hz9 h => ?_)
              have hz := hz9.trans hz
              cases h
              rw [hQ]
              exact x_iretT (v := v_18) C0 hr hlocks hH hS hz (by omega) (by omega) d_LM_leaf_142
            · cases h
              rw [hQ]
              exact x_throw C0 hlt hE hH hS hz hl hout 1 (by decide +kernel) kw_1_187 kw_1_8 (List.mem_of_getElem? (i := 3) rfl) at1_55_59_1 at2_55_59_1 at3_55_59_1 d_LM_leaf_89 d_LM_leaf_92 d_LM_leaf_93 d_LM_leaf_95 d_LM_leaf_98 (Nat.le_trans (by decide) hR1) (Nat.le_trans (by decide) hR2) (Nat.le_trans (by omega) hR3) (Nat.le_trans (by omega) hR4) hlocks (by omega) (by omega)
        · cases h
          rw [hQ]
          exact x_throw C0 hlt hE hH hS hz hl hout 1 (by decide +kernel) kw_1_187 kw_1_8 (List.mem_of_getElem? (i := 2) rfl) at1_55_59_1 at2_55_59_1 at3_55_59_1 d_LM_leaf_58 d_LM_leaf_61 d_LM_leaf_62 d_LM_leaf_64 d_LM_leaf_67 (Nat.le_trans (by decide) hR1) (Nat.le_trans (by decide) hR2) (Nat.le_trans (by omega) hR3) (Nat.le_trans (by omega) hR4) hlocks (by omega) (by omega)
    · cases h
      rw [hQ]
      exact x_throw C0 hlt hE hH hS hz hl hout 0 (by decide +kernel) kw_1_111 kw_1_7 (List.mem_of_getElem? (i := 1) rfl) at1_38_42_0 at2_38_42_0 at3_38_42_0 d_LM_leaf_28 d_LM_leaf_31 d_LM_leaf_32 d_LM_leaf_34 d_LM_leaf_37 (Nat.le_trans (by decide) hR1) (Nat.le_trans (by decide) hR2) (Nat.le_trans (by omega) hR3) (Nat.le_trans (by omega) hR4) hlocks (by omega) (by omega)
  · cases h
    rw [hQ]
    exact x_throw C0 hlt hE hH hS hz hl hout 0 (by decide +kernel) kw_1_111 kw_1_7 (List.mem_of_getElem? (i := 0) rfl) at1_38_42_0 at2_38_42_0 at3_38_42_0 d_LM_leaf_9 d_LM_leaf_12 d_LM_leaf_13 d_LM_leaf_15 d_LM_leaf_18 (Nat.le_trans (by decide) hR1) (Nat.le_trans (by decide) hR2) (Nat.le_trans (by omega) hR3) (Nat.le_trans (by omega) hR4) hlocks (by omega) (by omega)
theorem d_LM_pixel_0 : decode b_LM_pixel 0 = .ok (.aload_n 0, 1) := by decide +kernel
theorem d_LM_pixel_1 : decode b_LM_pixel 1 = .ok (.iload_n 1, 1) := by decide +kernel
theorem d_LM_pixel_2 : decode b_LM_pixel 2 = .ok (.invokevirtual 68, 3) := by decide +kernel
theorem d_LM_pixel_5 : decode b_LM_pixel 5 = .ok (.astore 5, 2) := by decide +kernel
theorem d_LM_pixel_7 : decode b_LM_pixel 7 = .ok (.aload 5, 2) := by decide +kernel
theorem d_LM_pixel_9 : decode b_LM_pixel 9 = .ok (.ifnull 13, 3) := by decide +kernel
theorem d_LM_pixel_12 : decode b_LM_pixel 12 = .ok (.aload 5, 2) := by decide +kernel
theorem d_LM_pixel_14 : decode b_LM_pixel 14 = .ok (.iload_n 2, 1) := by decide +kernel
theorem d_LM_pixel_15 : decode b_LM_pixel 15 = .ok (.iload_n 3, 1) := by decide +kernel
theorem d_LM_pixel_16 : decode b_LM_pixel 16 = .ok (.invokevirtual 72, 3) := by decide +kernel
theorem d_LM_pixel_19 : decode b_LM_pixel 19 = .ok (.ifCond .ne 13, 3) := by decide +kernel
theorem d_LM_pixel_22 : decode b_LM_pixel 22 = .ok (.new 75, 3) := by decide +kernel
theorem d_LM_pixel_25 : decode b_LM_pixel 25 = .ok (.dup, 1) := by decide +kernel
theorem d_LM_pixel_26 : decode b_LM_pixel 26 = .ok (.ldc 77, 2) := by decide +kernel
theorem d_LM_pixel_28 : decode b_LM_pixel 28 = .ok (.invokespecial 79, 3) := by decide +kernel
theorem d_LM_pixel_31 : decode b_LM_pixel 31 = .ok (.athrow, 1) := by decide +kernel
theorem d_LM_pixel_32 : decode b_LM_pixel 32 = .ok (.iload 4, 2) := by decide +kernel
theorem d_LM_pixel_34 : decode b_LM_pixel 34 = .ok (.iconst 0, 1) := by decide +kernel
theorem d_LM_pixel_35 : decode b_LM_pixel 35 = .ok (.sipush 255, 3) := by decide +kernel
theorem d_LM_pixel_38 : decode b_LM_pixel 38 = .ok (.invokestatic 51, 3) := by decide +kernel
theorem d_LM_pixel_41 : decode b_LM_pixel 41 = .ok (.ifCond .ne 13, 3) := by decide +kernel
theorem d_LM_pixel_44 : decode b_LM_pixel 44 = .ok (.new 55, 3) := by decide +kernel
theorem d_LM_pixel_47 : decode b_LM_pixel 47 = .ok (.dup, 1) := by decide +kernel
theorem d_LM_pixel_48 : decode b_LM_pixel 48 = .ok (.ldc 80, 2) := by decide +kernel
theorem d_LM_pixel_50 : decode b_LM_pixel 50 = .ok (.invokespecial 59, 3) := by decide +kernel
theorem d_LM_pixel_53 : decode b_LM_pixel 53 = .ok (.athrow, 1) := by decide +kernel
theorem d_LM_pixel_54 : decode b_LM_pixel 54 = .ok (.aload 5, 2) := by decide +kernel
theorem d_LM_pixel_56 : decode b_LM_pixel 56 = .ok (.iload_n 2, 1) := by decide +kernel
theorem d_LM_pixel_57 : decode b_LM_pixel 57 = .ok (.iload_n 3, 1) := by decide +kernel
theorem d_LM_pixel_58 : decode b_LM_pixel 58 = .ok (.iload 4, 2) := by decide +kernel
theorem d_LM_pixel_60 : decode b_LM_pixel 60 = .ok (.invokevirtual 82, 3) := by decide +kernel
theorem d_LM_pixel_63 : decode b_LM_pixel 63 = .ok (.ireturn, 1) := by decide +kernel
def f_LM_pixel (w : Mp) (sz : Nat) (h0 : Nat) (x1 : Int32) (x2 : Int32) (x3 : Int32) (x4 : Int32) : Option ((Int32 ⊕ Nat) × Mp × Nat) := (xo w (some h0) 0).bind fun b_2 => (f_LM_leafOrNull w b_2 x1).bind fun q_1 => if q_1 = none then (some (.inr 2, w, sz + 1)) else ((xo w q_1 1).bind fun b_4 => (f_Leaf_holds w b_4 x2 x3).bind fun q_3 => if q_3 = 0 then (some (.inr 2, w, sz + 1)) else ((f_LM_isWithin w x4 (0 : Int32) (255 : Int32)).bind fun q_5 => if q_5 = 0 then (some (.inr 1, w, sz + 1)) else ((xo w q_1 1).bind fun b_7 => (f_Leaf_paint w b_7 x2 x3 x4).bind fun q_6 => if vp_nar .boolean q_6.1 = q_6.1 then some (.inl q_6.1, q_6.2, sz) else none)))
set_option maxHeartbeats 4000000 in
set_option maxRecDepth 100000 in
theorem c_LM_pixel (l : Launch) (G : Gx) (w : Mp) (sz : Nat) (h0 : Nat) (x1 : Int32) (x2 : Int32) (x3 : Int32) (x4 : Int32) (res : (Int32 ⊕ Nat) × Mp × Nat) (hf : f_LM_pixel w sz h0 x1 x2 x3 x4 = some res) (hlt : l.stackTraces = false) : vx_Met l y_LM_pixel (xws y_LM_pixel b_LM_pixel 6 (some .boolean)) { frames := 6, cells := 1, slots := 6, locals := 82 } (xPc G vwCl xaty w sz [va_rf (some h0), .int x1, .int x2, .int x3, .int x4]) (xQT G vwCl (xri res.1) res.2.1 res.2.2) (xXT G vwCl (xri res.1) res.2.1 res.2.2) (1) (6) (xA G) := by
  refine vx_ofW (cc := b_LM_pixel) (maxL := 6) (ret := (some .boolean)) (by decide) rfl ?_
  intro p e s m args below meth c s₁ B hml ht hv
  obtain ⟨ha, hE, hH, hz⟩ := hv
  have hout : ∀ x ∈ c.exceptionTable.toList, ∀ q, covers x q = false := fun x hx => (ht x hx).elim
  have C0 : CallFix p m c b_LM_pixel 6 s args wA R_LM := ⟨B.exec, B.bytes, hml, findClass_of_methodNamed B.named, fun w hw => atoms_spec (ws := xws y_LM_pixel b_LM_pixel 6 (some .boolean)) B.pre w (List.mem_cons_of_mem _ hw)⟩
  have hr := B.returns
  have hlocks := B.notSynchronized
  obtain ⟨R, hR⟩ : ∃ R, R = (headSpec (xws y_LM_pixel b_LM_pixel 6 (some .boolean)) { frames := 6, cells := 1, slots := 6, locals := 82 }).room := ⟨_, rfl⟩
  have hR1 : 6 ≤ R.frames := by rw [hR]; exact Nat.le_of_ble_eq_true rfl
  have hR2 : 82 ≤ R.locals := by rw [hR]; exact Nat.le_of_ble_eq_true rfl
  have hR3 : 1 ≤ R.cells := by rw [hR]; exact Nat.le_refl _
  have hR4 : 6 ≤ R.slots := by rw [hR]; exact Nat.le_refl _
  rw [← hR]
  obtain ⟨Q, hQ⟩ : ∃ Q, Q = vx_MQ below (xQT G vwCl (xri res.1) res.2.1 res.2.2) (xXT G vwCl (xri res.1) res.2.1 res.2.2) args s (1) (6) (xA G) := ⟨_, rfl⟩
  rw [← hQ]
  have hS : xS G s s.heap [] := va_S.rf
  obtain ⟨ls, he, hl⟩ := x_entry m [.inr (.inl (some h0)), .inl x1, .inl x2, .inl x3, .inl x4] 6 (Nat.le_of_ble_eq_true rfl)
  rw [show entryFrame m args 6 = F0 m 0 ls [] by rw [ha]; exact he]
  have hl : xL ls 6 [(0, .inr (.inl (some h0))), (1, .inl x1), (2, .inl x2), (3, .inl x3), (4, .inl x4)] := hl
  have h := hf
  unfold f_LM_pixel at h
  suffices hmain : ∀ (H : Heap) (locs : List Loc), xhd G vwCl w H → xS G s H locs → H.size = sz → (H = s.heap ∧ locs = []) → W p l e R s m args below meth c H locs 0 0 Q (F0 m 0 ls []) from hmain _ _ hH hS hz ⟨rfl, rfl⟩
  clear hH hS hz
  intro H locs hH hS hz hP0
  refine x_aload_n C0 hl 0 d_LM_pixel_0 rfl rfl ?_
  refine x_iload_n C0 hl 1 d_LM_pixel_1 rfl rfl ?_
  obtain ⟨b_2, e9, h⟩ := Option.bind_eq_some_iff.mp h
  obtain ⟨e8, fs9, hb9⟩ := xo_inv e9
  obtain ⟨q_1, e9, h⟩ := Option.bind_eq_some_iff.mp h
  refine x_callP (va_runV (As := [.int x1]) (rest := []) C0 (c_LM_leafOrNull l G w _ b_2 x1 q_1 e9) (x_cwV 1 C0 kw_2_18 kw_2_21 kw_1_1 kw_2_20 kw_0_2 (by decide +kernel) (x_rm hR1 hR2 (Nat.le_of_ble_eq_true rfl) (Nat.le_of_ble_eq_true rfl))) (x_preV hE hH hS (ci := 0) rfl hb9) rfl rfl hl.1 (by rw [e8]; rfl) (lv_room (by first | exact Nat.le_of_ble_eq_true rfl | simp only [List.map_cons, List.map_nil, List.sum_cons, List.sum_nil, va_rf_cat, x_catI, x_catL, x_catA] <;> decide)) d_LM_pixel_2 (x_le0 (Nat.le_trans (by omega) hR3) (Nat.le_trans (by omega) hR4))) ?_
  refine x_astore (lv' := [(5, .inr (.inl q_1)), (0, .inr (.inl (some h0))), (1, .inl x1), (2, .inl x2), (3, .inl x3), (4, .inl x4)]) C0 hl d_LM_pixel_5 (by decide) rfl (fun ls hl => ?_)
  refine x_aload C0 hl 0 d_LM_pixel_7 rfl ?_
  refine x_ifnull C0 22 d_LM_pixel_9 (by decide) h (fun _ h => ?_) (fun _ _ h => ?_)
  · cases h
    rw [hQ]
    exact x_throw C0 hlt hE hH hS hz hl hout 2 (by decide +kernel) kw_2_26 kw_1_10 (List.mem_of_getElem? (i := 4) rfl) at1_75_79_2 at2_75_79_2 at3_75_79_2 d_LM_pixel_22 d_LM_pixel_25 d_LM_pixel_26 d_LM_pixel_28 d_LM_pixel_31 (Nat.le_trans (by decide) hR1) (Nat.le_trans (by decide) hR2) (Nat.le_trans (by omega) hR3) (Nat.le_trans (by omega) hR4) hlocks (by omega) (by omega)
  · refine x_aload C0 hl 0 d_LM_pixel_12 rfl ?_
    refine x_iload_n C0 hl 3 d_LM_pixel_14 rfl rfl ?_
    refine x_iload_n C0 hl 4 d_LM_pixel_15 rfl rfl ?_
    obtain ⟨b_4, e9, h⟩ := Option.bind_eq_some_iff.mp h
    obtain ⟨e8, fs9, hb9⟩ := xo_inv e9
    obtain ⟨q_3, e9, h⟩ := Option.bind_eq_some_iff.mp h
    refine x_callP (va_runV (As := [.int x2, .int x3]) (rest := []) C0 (c_Leaf_holds l G w _ b_4 x2 x3 q_3 e9) (x_cwV 2 C0 kw_2_22 kw_2_25 kw_1_9 kw_2_23 kw_2_24 (by decide +kernel) (x_rm hR1 hR2 (Nat.le_of_ble_eq_true rfl) (Nat.le_of_ble_eq_true rfl))) (x_preV hE hH hS (ci := 1) rfl hb9) rfl rfl hl.1 (by rw [e8]; rfl) (lv_room (by first | exact Nat.le_of_ble_eq_true rfl | simp only [List.map_cons, List.map_nil, List.sum_cons, List.sum_nil, va_rf_cat, x_catI, x_catL, x_catA] <;> decide)) d_LM_pixel_16 (x_le0 (Nat.le_trans (by omega) hR3) (Nat.le_trans (by omega) hR4))) ?_
    refine x_if_ne C0 32 d_LM_pixel_19 (by decide) h (fun h => ?_) (fun h => ?_)
    · refine x_iload C0 hl 5 d_LM_pixel_32 rfl ?_
      refine lv_iconst (v := 0) C0.1 C0.2.1 d_LM_pixel_34 (by decide) ?_
      refine lv_sipush (v := 255) C0.1 C0.2.1 d_LM_pixel_35 (by decide) ?_
      obtain ⟨q_5, e9, h⟩ := Option.bind_eq_some_iff.mp h
      refine x_callP (va_runS (As := [.int x4, .int (0 : Int32), .int (255 : Int32)]) (rest := []) C0 (c_LM_isWithin l G w _ x4 (0 : Int32) (255 : Int32) q_5 e9) (x_cwS 3 C0 kw_1_184 kw_1_186 kw_1_1 kw_1_185 (by decide +kernel) (x_rm hR1 hR2 (Nat.le_of_ble_eq_true rfl) (Nat.le_of_ble_eq_true rfl))) (x_preS hE hH hS) rfl rfl hl.1 rfl (lv_room (by first | exact Nat.le_of_ble_eq_true rfl | simp only [List.map_cons, List.map_nil, List.sum_cons, List.sum_nil, va_rf_cat, x_catI, x_catL, x_catA] <;> decide)) d_LM_pixel_38 (x_le0 (Nat.le_trans (by omega) hR3) (Nat.le_trans (by omega) hR4))) ?_
      refine x_if_ne C0 54 d_LM_pixel_41 (by decide) h (fun h => ?_) (fun h => ?_)
      · refine x_aload C0 hl 0 d_LM_pixel_54 rfl ?_
        refine x_iload_n C0 hl 3 d_LM_pixel_56 rfl rfl ?_
        refine x_iload_n C0 hl 4 d_LM_pixel_57 rfl rfl ?_
        refine x_iload C0 hl 5 d_LM_pixel_58 rfl ?_
        obtain ⟨b_7, e9, h⟩ := Option.bind_eq_some_iff.mp h
        obtain ⟨e8, fs9, hb9⟩ := xo_inv e9
        obtain ⟨q_6, e9, h⟩ := Option.bind_eq_some_iff.mp h
        refine x_call0 hS (va_runV (As := [.int x2, .int x3, .int x4]) (rest := []) C0 (c_Leaf_paint l G w _ b_7 x2 x3 x4 q_6 e9) (x_cwV 3 C0 kw_2_43 kw_2_46 kw_1_9 kw_2_44 kw_2_45 (by decide +kernel) (x_rm hR1 hR2 (Nat.le_of_ble_eq_true rfl) (Nat.le_of_ble_eq_true rfl))) (x_preV hE hH hS (ci := 1) rfl hb9) rfl rfl hl.1 (by rw [e8]; rfl) (lv_room (by first | exact Nat.le_of_ble_eq_true rfl | simp only [List.map_cons, List.map_nil, List.sum_cons, List.sum_nil, va_rf_cat, x_catI, x_catL, x_catA] <;> decide)) d_LM_pixel_60 (x_le0 (Nat.le_trans (by omega) hR3) (Nat.le_trans (by omega) hR4))) (fun H locs hH hS hz9 => ?_)
        have hz := hz9.trans hz
        obtain ⟨hn9, h⟩ := x_ifs h
        cases h
        rw [hQ]
        exact x_zretT (v := q_6.1) C0 hr hlocks hH hS hz (by omega) (by omega) (x_nar (fun _ => ⟨_, rfl⟩) hn9) d_LM_pixel_63
      · cases h
        rw [hQ]
        exact x_throw C0 hlt hE hH hS hz hl hout 1 (by decide +kernel) kw_1_187 kw_1_8 (List.mem_of_getElem? (i := 5) rfl) at1_55_59_1 at2_55_59_1 at3_55_59_1 d_LM_pixel_44 d_LM_pixel_47 d_LM_pixel_48 d_LM_pixel_50 d_LM_pixel_53 (Nat.le_trans (by decide) hR1) (Nat.le_trans (by decide) hR2) (Nat.le_trans (by omega) hR3) (Nat.le_trans (by omega) hR4) hlocks (by omega) (by omega)
    · cases h
      rw [hQ]
      exact x_throw C0 hlt hE hH hS hz hl hout 2 (by decide +kernel) kw_2_26 kw_1_10 (List.mem_of_getElem? (i := 4) rfl) at1_75_79_2 at2_75_79_2 at3_75_79_2 d_LM_pixel_22 d_LM_pixel_25 d_LM_pixel_26 d_LM_pixel_28 d_LM_pixel_31 (Nat.le_trans (by decide) hR1) (Nat.le_trans (by decide) hR2) (Nat.le_trans (by omega) hR3) (Nat.le_trans (by omega) hR4) hlocks (by omega) (by omega)
theorem d_LM_reserve_0 : decode b_LM_reserve 0 = .ok (.aload_n 0, 1) := by decide +kernel
theorem d_LM_reserve_1 : decode b_LM_reserve 1 = .ok (.iload_n 1, 1) := by decide +kernel
theorem d_LM_reserve_2 : decode b_LM_reserve 2 = .ok (.invokevirtual 68, 3) := by decide +kernel
theorem d_LM_reserve_5 : decode b_LM_reserve 5 = .ok (.astore_n 3, 1) := by decide +kernel
theorem d_LM_reserve_6 : decode b_LM_reserve 6 = .ok (.aload_n 3, 1) := by decide +kernel
theorem d_LM_reserve_7 : decode b_LM_reserve 7 = .ok (.ifnonnull 13, 3) := by decide +kernel
theorem d_LM_reserve_10 : decode b_LM_reserve 10 = .ok (.new 75, 3) := by decide +kernel
theorem d_LM_reserve_13 : decode b_LM_reserve 13 = .ok (.dup, 1) := by decide +kernel
theorem d_LM_reserve_14 : decode b_LM_reserve 14 = .ok (.ldc 85, 2) := by decide +kernel
theorem d_LM_reserve_16 : decode b_LM_reserve 16 = .ok (.invokespecial 79, 3) := by decide +kernel
theorem d_LM_reserve_19 : decode b_LM_reserve 19 = .ok (.athrow, 1) := by decide +kernel
theorem d_LM_reserve_20 : decode b_LM_reserve 20 = .ok (.aload_n 3, 1) := by decide +kernel
theorem d_LM_reserve_21 : decode b_LM_reserve 21 = .ok (.getfield 87, 3) := by decide +kernel
theorem d_LM_reserve_24 : decode b_LM_reserve 24 = .ok (.ifCond .eq 13, 3) := by decide +kernel
theorem d_LM_reserve_27 : decode b_LM_reserve 27 = .ok (.new 38, 3) := by decide +kernel
theorem d_LM_reserve_30 : decode b_LM_reserve 30 = .ok (.dup, 1) := by decide +kernel
theorem d_LM_reserve_31 : decode b_LM_reserve 31 = .ok (.ldc 91, 2) := by decide +kernel
theorem d_LM_reserve_33 : decode b_LM_reserve 33 = .ok (.invokespecial 42, 3) := by decide +kernel
theorem d_LM_reserve_36 : decode b_LM_reserve 36 = .ok (.athrow, 1) := by decide +kernel
theorem d_LM_reserve_37 : decode b_LM_reserve 37 = .ok (.iload_n 2, 1) := by decide +kernel
theorem d_LM_reserve_38 : decode b_LM_reserve 38 = .ok (.iconst 0, 1) := by decide +kernel
theorem d_LM_reserve_39 : decode b_LM_reserve 39 = .ok (.sipush 1000, 3) := by decide +kernel
theorem d_LM_reserve_42 : decode b_LM_reserve 42 = .ok (.invokestatic 51, 3) := by decide +kernel
theorem d_LM_reserve_45 : decode b_LM_reserve 45 = .ok (.ifCond .ne 13, 3) := by decide +kernel
theorem d_LM_reserve_48 : decode b_LM_reserve 48 = .ok (.new 55, 3) := by decide +kernel
theorem d_LM_reserve_51 : decode b_LM_reserve 51 = .ok (.dup, 1) := by decide +kernel
theorem d_LM_reserve_52 : decode b_LM_reserve 52 = .ok (.ldc 93, 2) := by decide +kernel
theorem d_LM_reserve_54 : decode b_LM_reserve 54 = .ok (.invokespecial 59, 3) := by decide +kernel
theorem d_LM_reserve_57 : decode b_LM_reserve 57 = .ok (.athrow, 1) := by decide +kernel
theorem d_LM_reserve_58 : decode b_LM_reserve 58 = .ok (.aload_n 3, 1) := by decide +kernel
theorem d_LM_reserve_59 : decode b_LM_reserve 59 = .ok (.getfield 95, 3) := by decide +kernel
theorem d_LM_reserve_62 : decode b_LM_reserve 62 = .ok (.iload_n 2, 1) := by decide +kernel
theorem d_LM_reserve_63 : decode b_LM_reserve 63 = .ok (.if_icmp .eq 7, 3) := by decide +kernel
theorem d_LM_reserve_66 : decode b_LM_reserve 66 = .ok (.iconst 1, 1) := by decide +kernel
theorem d_LM_reserve_67 : decode b_LM_reserve 67 = .ok (.goto 4, 3) := by decide +kernel
theorem d_LM_reserve_70 : decode b_LM_reserve 70 = .ok (.iconst 0, 1) := by decide +kernel
theorem d_LM_reserve_71 : decode b_LM_reserve 71 = .ok (.istore 4, 2) := by decide +kernel
theorem d_LM_reserve_73 : decode b_LM_reserve 73 = .ok (.aload_n 3, 1) := by decide +kernel
theorem d_LM_reserve_74 : decode b_LM_reserve 74 = .ok (.iload_n 2, 1) := by decide +kernel
theorem d_LM_reserve_75 : decode b_LM_reserve 75 = .ok (.putfield 95, 3) := by decide +kernel
theorem d_LM_reserve_78 : decode b_LM_reserve 78 = .ok (.aload_n 0, 1) := by decide +kernel
theorem d_LM_reserve_79 : decode b_LM_reserve 79 = .ok (.getfield 31, 3) := by decide +kernel
theorem d_LM_reserve_82 : decode b_LM_reserve 82 = .ok (.invokevirtual 65, 3) := by decide +kernel
theorem d_LM_reserve_85 : decode b_LM_reserve 85 = .ok (.iload 4, 2) := by decide +kernel
theorem d_LM_reserve_87 : decode b_LM_reserve 87 = .ok (.ireturn, 1) := by decide +kernel
def f_LM_reserve (w : Mp) (sz : Nat) (h0 : Nat) (x1 : Int32) (x2 : Int32) : Option ((Int32 ⊕ Nat) × Mp × Nat) := (xo w (some h0) 0).bind fun b_2 => (f_LM_leafOrNull w b_2 x1).bind fun q_1 => if q_1 = none then (some (.inr 2, w, sz + 1)) else ((gI w q_1 1 7).bind fun v_3 => if v_3 = 0 then ((f_LM_isWithin w x2 (0 : Int32) (1000 : Int32)).bind fun q_4 => if q_4 = 0 then (some (.inr 1, w, sz + 1)) else ((gI w q_1 1 6).bind fun v_5 => xJ1 (fun (x_6 : Int32) => (pF w q_1 1 6 (.int x2)).bind fun w_8 => (gR w_8 (some h0) 0 4).bind fun v_9 => (xo w_8 v_9 4).bind fun b_11 => (f_Plan_forgetPlan w_8 b_11).bind fun q_10 => if vp_nar .boolean x_6 = x_6 then some (.inl x_6, q_10.2, sz) else none) fun J_7 => if v_5 = x2 then (J_7 (0 : Int32)) else (J_7 (1 : Int32)))) else (some (.inr 0, w, sz + 1)))
set_option maxHeartbeats 4000000 in
set_option maxRecDepth 100000 in
theorem c_LM_reserve (l : Launch) (G : Gx) (w : Mp) (sz : Nat) (h0 : Nat) (x1 : Int32) (x2 : Int32) (res : (Int32 ⊕ Nat) × Mp × Nat) (hf : f_LM_reserve w sz h0 x1 x2 = some res) (hlt : l.stackTraces = false) : vx_Met l y_LM_reserve (xws y_LM_reserve b_LM_reserve 5 (some .boolean)) { frames := 6, cells := 1, slots := 6, locals := 82 } (xPc G vwCl xaty w sz [va_rf (some h0), .int x1, .int x2]) (xQT G vwCl (xri res.1) res.2.1 res.2.2) (xXT G vwCl (xri res.1) res.2.1 res.2.2) (1) (6) (xA G) := by
  refine vx_ofW (cc := b_LM_reserve) (maxL := 5) (ret := (some .boolean)) (by decide) rfl ?_
  intro p e s m args below meth c s₁ B hml ht hv
  obtain ⟨ha, hE, hH, hz⟩ := hv
  have hout : ∀ x ∈ c.exceptionTable.toList, ∀ q, covers x q = false := fun x hx => (ht x hx).elim
  have C0 : CallFix p m c b_LM_reserve 5 s args wA R_LM := ⟨B.exec, B.bytes, hml, findClass_of_methodNamed B.named, fun w hw => atoms_spec (ws := xws y_LM_reserve b_LM_reserve 5 (some .boolean)) B.pre w (List.mem_cons_of_mem _ hw)⟩
  have hr := B.returns
  have hlocks := B.notSynchronized
  obtain ⟨R, hR⟩ : ∃ R, R = (headSpec (xws y_LM_reserve b_LM_reserve 5 (some .boolean)) { frames := 6, cells := 1, slots := 6, locals := 82 }).room := ⟨_, rfl⟩
  have hR1 : 6 ≤ R.frames := by rw [hR]; exact Nat.le_of_ble_eq_true rfl
  have hR2 : 82 ≤ R.locals := by rw [hR]; exact Nat.le_of_ble_eq_true rfl
  have hR3 : 1 ≤ R.cells := by rw [hR]; exact Nat.le_refl _
  have hR4 : 6 ≤ R.slots := by rw [hR]; exact Nat.le_refl _
  rw [← hR]
  obtain ⟨Q, hQ⟩ : ∃ Q, Q = vx_MQ below (xQT G vwCl (xri res.1) res.2.1 res.2.2) (xXT G vwCl (xri res.1) res.2.1 res.2.2) args s (1) (6) (xA G) := ⟨_, rfl⟩
  rw [← hQ]
  have hS : xS G s s.heap [] := va_S.rf
  obtain ⟨ls, he, hl⟩ := x_entry m [.inr (.inl (some h0)), .inl x1, .inl x2] 5 (Nat.le_of_ble_eq_true rfl)
  rw [show entryFrame m args 5 = F0 m 0 ls [] by rw [ha]; exact he]
  have hl : xL ls 5 [(0, .inr (.inl (some h0))), (1, .inl x1), (2, .inl x2)] := hl
  have h := hf
  unfold f_LM_reserve at h
  suffices hmain : ∀ (H : Heap) (locs : List Loc), xhd G vwCl w H → xS G s H locs → H.size = sz → (H = s.heap ∧ locs = []) → W p l e R s m args below meth c H locs 0 0 Q (F0 m 0 ls []) from hmain _ _ hH hS hz ⟨rfl, rfl⟩
  clear hH hS hz
  intro H locs hH hS hz hP0
  refine x_aload_n C0 hl 0 d_LM_reserve_0 rfl rfl ?_
  refine x_iload_n C0 hl 1 d_LM_reserve_1 rfl rfl ?_
  obtain ⟨b_2, e9, h⟩ := Option.bind_eq_some_iff.mp h
  obtain ⟨e8, fs9, hb9⟩ := xo_inv e9
  obtain ⟨q_1, e9, h⟩ := Option.bind_eq_some_iff.mp h
  refine x_callP (va_runV (As := [.int x1]) (rest := []) C0 (c_LM_leafOrNull l G w _ b_2 x1 q_1 e9) (x_cwV 1 C0 kw_2_18 kw_2_21 kw_1_1 kw_2_20 kw_0_2 (by decide +kernel) (x_rm hR1 hR2 (Nat.le_of_ble_eq_true rfl) (Nat.le_of_ble_eq_true rfl))) (x_preV hE hH hS (ci := 0) rfl hb9) rfl rfl hl.1 (by rw [e8]; rfl) (lv_room (by first | exact Nat.le_of_ble_eq_true rfl | simp only [List.map_cons, List.map_nil, List.sum_cons, List.sum_nil, va_rf_cat, x_catI, x_catL, x_catA] <;> decide)) d_LM_reserve_2 (x_le0 (Nat.le_trans (by omega) hR3) (Nat.le_trans (by omega) hR4))) ?_
  refine x_astore_n (lv' := [(3, .inr (.inl q_1)), (0, .inr (.inl (some h0))), (1, .inl x1), (2, .inl x2)]) C0 hl d_LM_reserve_5 rfl (by decide) rfl (fun ls hl => ?_)
  refine x_aload_n C0 hl 0 d_LM_reserve_6 rfl rfl ?_
  refine x_ifnonnull C0 20 d_LM_reserve_7 (by decide) h (fun _ _ h => ?_) (fun _ h => ?_)
  · refine x_aload_n C0 hl 0 d_LM_reserve_20 rfl rfl ?_
    refine x_getI C0 hE hH (ci := 1) rfl i_Leaf 7 (by decide) kw_1_228 d_LM_reserve_21 h (fun v_3 h => ?_)
    refine x_if_eq C0 37 d_LM_reserve_24 (by decide) h (fun h => ?_) (fun h => ?_)
    · refine x_iload_n C0 hl 3 d_LM_reserve_37 rfl rfl ?_
      refine lv_iconst (v := 0) C0.1 C0.2.1 d_LM_reserve_38 (by decide) ?_
      refine lv_sipush (v := 1000) C0.1 C0.2.1 d_LM_reserve_39 (by decide) ?_
      obtain ⟨q_4, e9, h⟩ := Option.bind_eq_some_iff.mp h
      refine x_callP (va_runS (As := [.int x2, .int (0 : Int32), .int (1000 : Int32)]) (rest := []) C0 (c_LM_isWithin l G w _ x2 (0 : Int32) (1000 : Int32) q_4 e9) (x_cwS 3 C0 kw_1_184 kw_1_186 kw_1_1 kw_1_185 (by decide +kernel) (x_rm hR1 hR2 (Nat.le_of_ble_eq_true rfl) (Nat.le_of_ble_eq_true rfl))) (x_preS hE hH hS) rfl rfl hl.1 rfl (lv_room (by first | exact Nat.le_of_ble_eq_true rfl | simp only [List.map_cons, List.map_nil, List.sum_cons, List.sum_nil, va_rf_cat, x_catI, x_catL, x_catA] <;> decide)) d_LM_reserve_42 (x_le0 (Nat.le_trans (by omega) hR3) (Nat.le_trans (by omega) hR4))) ?_
      refine x_if_ne C0 58 d_LM_reserve_45 (by decide) h (fun h => ?_) (fun h => ?_)
      · refine x_aload_n C0 hl 0 d_LM_reserve_58 rfl rfl ?_
        refine x_getI C0 hE hH (ci := 1) rfl i_Leaf 6 (by decide) kw_1_225 d_LM_reserve_59 h (fun v_5 h => ?_)
        refine x_iload_n C0 hl 3 d_LM_reserve_62 rfl rfl ?_
        refine xj1 h (fun J_7 eJ_7 h => ?_)
        have kJ_7 : ∀ (x_6 : Int32) (ls : Array Slot), xL ls 5 [(0, .inr (.inl (some h0))), (2, .inl x2), (3, .inr (.inl q_1))] → J_7 x_6 = some res → W p l e R s m args below meth c H locs 0 (0) Q (F0 m 71 ls [.int x_6]) := by
          intro x_6 ls hl h
          rw [eJ_7] at h
          refine x_istore (lv' := [(4, .inl x_6), (0, .inr (.inl (some h0))), (2, .inl x2), (3, .inr (.inl q_1))]) C0 hl d_LM_reserve_71 (by decide) rfl (fun ls hl => ?_)
          refine x_aload_n C0 hl 3 d_LM_reserve_73 rfl rfl ?_
          refine x_iload_n C0 hl 2 d_LM_reserve_74 rfl rfl ?_
          refine x_put C0 hE hH hS (ci := 1) rfl i_Leaf t_Leaf t_Leaf_ok n_Leaf 6 (by decide) kw_1_225 rfl rfl rfl d_LM_reserve_75 h (fun w_8 H locs hH hS hz9 h => ?_)
          have hz := hz9.trans hz
          refine x_aload_n C0 hl 1 d_LM_reserve_78 rfl rfl ?_
          refine x_getR C0 hE hH (ci := 0) rfl i_LM 4 (by decide) kw_1_79 d_LM_reserve_79 h (fun v_9 h => ?_)
          obtain ⟨b_11, e9, h⟩ := Option.bind_eq_some_iff.mp h
          obtain ⟨e8, fs9, hb9⟩ := xo_inv e9
          obtain ⟨q_10, e9, h⟩ := Option.bind_eq_some_iff.mp h
          refine x_call0 hS (va_runV (As := []) (rest := []) C0 (c_Plan_forgetPlan l G w_8 _ b_11 q_10 e9) (x_cwV 0 C0 kw_2_6 kw_2_9 kw_1_2 kw_2_7 kw_2_8 (by decide +kernel) (x_rm hR1 hR2 (Nat.le_of_ble_eq_true rfl) (Nat.le_of_ble_eq_true rfl))) (x_preV hE hH hS (ci := 4) rfl hb9) rfl rfl hl.1 (by rw [e8]; rfl) (lv_room (by first | exact Nat.le_of_ble_eq_true rfl | simp only [List.map_cons, List.map_nil, List.sum_cons, List.sum_nil, va_rf_cat, x_catI, x_catL, x_catA] <;> decide)) d_LM_reserve_82 (x_le0 (Nat.le_trans (by omega) hR3) (Nat.le_trans (by omega) hR4))) (fun H locs hH hS hz9 => ?_)
          have hz := hz9.trans hz
          refine x_iload C0 hl 0 d_LM_reserve_85 rfl ?_
          obtain ⟨hn9, h⟩ := x_ifs h
          cases h
          rw [hQ]
          exact x_zretT (v := x_6) C0 hr hlocks hH hS hz (by omega) (by omega) (x_nar (fun _ => ⟨_, rfl⟩) hn9) d_LM_reserve_87
        refine x_icmp_eq C0 70 d_LM_reserve_63 (by decide) h (fun h => ?_) (fun h => ?_)
        · refine lv_iconst (v := 0) C0.1 C0.2.1 d_LM_reserve_70 (by decide) ?_
          exact kJ_7 _ ls (x_sub hl [1, 3, 0] rfl) h
        · refine lv_iconst (v := 1) C0.1 C0.2.1 d_LM_reserve_66 (by decide) ?_
          refine x_goto C0 71 d_LM_reserve_67 (by decide) ?_
          exact kJ_7 _ ls (x_sub hl [1, 3, 0] rfl) h
      · cases h
        rw [hQ]
        exact x_throw C0 hlt hE hH hS hz hl hout 1 (by decide +kernel) kw_1_187 kw_1_8 (List.mem_of_getElem? (i := 8) rfl) at1_55_59_1 at2_55_59_1 at3_55_59_1 d_LM_reserve_48 d_LM_reserve_51 d_LM_reserve_52 d_LM_reserve_54 d_LM_reserve_57 (Nat.le_trans (by decide) hR1) (Nat.le_trans (by decide) hR2) (Nat.le_trans (by omega) hR3) (Nat.le_trans (by omega) hR4) hlocks (by omega) (by omega)
    · cases h
      rw [hQ]
      exact x_throw C0 hlt hE hH hS hz hl hout 0 (by decide +kernel) kw_1_111 kw_1_7 (List.mem_of_getElem? (i := 7) rfl) at1_38_42_0 at2_38_42_0 at3_38_42_0 d_LM_reserve_27 d_LM_reserve_30 d_LM_reserve_31 d_LM_reserve_33 d_LM_reserve_36 (Nat.le_trans (by decide) hR1) (Nat.le_trans (by decide) hR2) (Nat.le_trans (by omega) hR3) (Nat.le_trans (by omega) hR4) hlocks (by omega) (by omega)
  · cases h
    rw [hQ]
    exact x_throw C0 hlt hE hH hS hz hl hout 2 (by decide +kernel) kw_2_26 kw_1_10 (List.mem_of_getElem? (i := 6) rfl) at1_75_79_2 at2_75_79_2 at3_75_79_2 d_LM_reserve_10 d_LM_reserve_13 d_LM_reserve_14 d_LM_reserve_16 d_LM_reserve_19 (Nat.le_trans (by decide) hR1) (Nat.le_trans (by decide) hR2) (Nat.le_trans (by omega) hR3) (Nat.le_trans (by omega) hR4) hlocks (by omega) (by omega)
theorem d_LM_match_0 : decode b_LM_match 0 = .ok (.aload_n 0, 1) := by decide +kernel
theorem d_LM_match_1 : decode b_LM_match 1 = .ok (.getfield 25, 3) := by decide +kernel
theorem d_LM_match_4 : decode b_LM_match 4 = .ok (.bipush 8, 2) := by decide +kernel
theorem d_LM_match_6 : decode b_LM_match 6 = .ok (.if_icmp .lt 13, 3) := by decide +kernel
theorem d_LM_match_9 : decode b_LM_match 9 = .ok (.new 38, 3) := by decide +kernel
theorem d_LM_match_12 : decode b_LM_match 12 = .ok (.dup, 1) := by decide +kernel
theorem d_LM_match_13 : decode b_LM_match 13 = .ok (.ldc 98, 2) := by decide +kernel
theorem d_LM_match_15 : decode b_LM_match 15 = .ok (.invokespecial 42, 3) := by decide +kernel
theorem d_LM_match_18 : decode b_LM_match 18 = .ok (.athrow, 1) := by decide +kernel
theorem d_LM_match_19 : decode b_LM_match 19 = .ok (.aload_n 0, 1) := by decide +kernel
theorem d_LM_match_20 : decode b_LM_match 20 = .ok (.iload_n 2, 1) := by decide +kernel
theorem d_LM_match_21 : decode b_LM_match 21 = .ok (.invokevirtual 100, 3) := by decide +kernel
theorem d_LM_match_24 : decode b_LM_match 24 = .ok (.istore_n 3, 1) := by decide +kernel
theorem d_LM_match_25 : decode b_LM_match 25 = .ok (.iload_n 3, 1) := by decide +kernel
theorem d_LM_match_26 : decode b_LM_match 26 = .ok (.iconst (-1), 1) := by decide +kernel
theorem d_LM_match_27 : decode b_LM_match 27 = .ok (.if_icmp .ne 13, 3) := by decide +kernel
theorem d_LM_match_30 : decode b_LM_match 30 = .ok (.new 38, 3) := by decide +kernel
theorem d_LM_match_33 : decode b_LM_match 33 = .ok (.dup, 1) := by decide +kernel
theorem d_LM_match_34 : decode b_LM_match 34 = .ok (.ldc 104, 2) := by decide +kernel
theorem d_LM_match_36 : decode b_LM_match 36 = .ok (.invokespecial 42, 3) := by decide +kernel
theorem d_LM_match_39 : decode b_LM_match 39 = .ok (.athrow, 1) := by decide +kernel
theorem d_LM_match_40 : decode b_LM_match 40 = .ok (.iload_n 1, 1) := by decide +kernel
theorem d_LM_match_41 : decode b_LM_match 41 = .ok (.iconst 0, 1) := by decide +kernel
theorem d_LM_match_42 : decode b_LM_match 42 = .ok (.iconst 3, 1) := by decide +kernel
theorem d_LM_match_43 : decode b_LM_match 43 = .ok (.invokestatic 51, 3) := by decide +kernel
theorem d_LM_match_46 : decode b_LM_match 46 = .ok (.ifCond .ne 13, 3) := by decide +kernel
theorem d_LM_match_49 : decode b_LM_match 49 = .ok (.new 55, 3) := by decide +kernel
theorem d_LM_match_52 : decode b_LM_match 52 = .ok (.dup, 1) := by decide +kernel
theorem d_LM_match_53 : decode b_LM_match 53 = .ok (.ldc 106, 2) := by decide +kernel
theorem d_LM_match_55 : decode b_LM_match 55 = .ok (.invokespecial 59, 3) := by decide +kernel
theorem d_LM_match_58 : decode b_LM_match 58 = .ok (.athrow, 1) := by decide +kernel
theorem d_LM_match_59 : decode b_LM_match 59 = .ok (.iload_n 2, 1) := by decide +kernel
theorem d_LM_match_60 : decode b_LM_match 60 = .ok (.iconst 2, 1) := by decide +kernel
theorem d_LM_match_61 : decode b_LM_match 61 = .ok (.bipush 8, 2) := by decide +kernel
theorem d_LM_match_63 : decode b_LM_match 63 = .ok (.invokestatic 51, 3) := by decide +kernel
theorem d_LM_match_66 : decode b_LM_match 66 = .ok (.ifCond .eq 13, 3) := by decide +kernel
theorem d_LM_match_69 : decode b_LM_match 69 = .ok (.iload_n 1, 1) := by decide +kernel
theorem d_LM_match_70 : decode b_LM_match 70 = .ok (.iconst 3, 1) := by decide +kernel
theorem d_LM_match_71 : decode b_LM_match 71 = .ok (.if_icmp .ne 18, 3) := by decide +kernel
theorem d_LM_match_74 : decode b_LM_match 74 = .ok (.iload_n 2, 1) := by decide +kernel
theorem d_LM_match_75 : decode b_LM_match 75 = .ok (.iconst 4, 1) := by decide +kernel
theorem d_LM_match_76 : decode b_LM_match 76 = .ok (.if_icmp .eq 13, 3) := by decide +kernel
theorem d_LM_match_79 : decode b_LM_match 79 = .ok (.new 55, 3) := by decide +kernel
theorem d_LM_match_82 : decode b_LM_match 82 = .ok (.dup, 1) := by decide +kernel
theorem d_LM_match_83 : decode b_LM_match 83 = .ok (.ldc 108, 2) := by decide +kernel
theorem d_LM_match_85 : decode b_LM_match 85 = .ok (.invokespecial 59, 3) := by decide +kernel
theorem d_LM_match_88 : decode b_LM_match 88 = .ok (.athrow, 1) := by decide +kernel
theorem d_LM_match_89 : decode b_LM_match 89 = .ok (.aload_n 0, 1) := by decide +kernel
theorem d_LM_match_90 : decode b_LM_match 90 = .ok (.iload_n 3, 1) := by decide +kernel
theorem d_LM_match_91 : decode b_LM_match 91 = .ok (.invokevirtual 110, 3) := by decide +kernel
theorem d_LM_match_94 : decode b_LM_match 94 = .ok (.pop, 1) := by decide +kernel
theorem d_LM_match_95 : decode b_LM_match 95 = .ok (.aload_n 0, 1) := by decide +kernel
theorem d_LM_match_96 : decode b_LM_match 96 = .ok (.iload_n 2, 1) := by decide +kernel
theorem d_LM_match_97 : decode b_LM_match 97 = .ok (.invokevirtual 113, 3) := by decide +kernel
theorem d_LM_match_100 : decode b_LM_match 100 = .ok (.ifCond .eq 5, 3) := by decide +kernel
theorem d_LM_match_103 : decode b_LM_match 103 = .ok (.iconst (-1), 1) := by decide +kernel
theorem d_LM_match_104 : decode b_LM_match 104 = .ok (.ireturn, 1) := by decide +kernel
theorem d_LM_match_105 : decode b_LM_match 105 = .ok (.new 19, 3) := by decide +kernel
theorem d_LM_match_108 : decode b_LM_match 108 = .ok (.dup, 1) := by decide +kernel
theorem d_LM_match_109 : decode b_LM_match 109 = .ok (.iload_n 1, 1) := by decide +kernel
theorem d_LM_match_110 : decode b_LM_match 110 = .ok (.aload_n 0, 1) := by decide +kernel
theorem d_LM_match_111 : decode b_LM_match 111 = .ok (.getfield 35, 3) := by decide +kernel
theorem d_LM_match_114 : decode b_LM_match 114 = .ok (.iload_n 2, 1) := by decide +kernel
theorem d_LM_match_115 : decode b_LM_match 115 = .ok (.invokespecial 117, 3) := by decide +kernel
theorem d_LM_match_118 : decode b_LM_match 118 = .ok (.astore 4, 2) := by decide +kernel
theorem d_LM_match_120 : decode b_LM_match 120 = .ok (.aload 4, 2) := by decide +kernel
theorem d_LM_match_122 : decode b_LM_match 122 = .ok (.iconst 1, 1) := by decide +kernel
theorem d_LM_match_123 : decode b_LM_match 123 = .ok (.invokevirtual 120, 3) := by decide +kernel
theorem d_LM_match_126 : decode b_LM_match 126 = .ok (.aload_n 0, 1) := by decide +kernel
theorem d_LM_match_127 : decode b_LM_match 127 = .ok (.getfield 21, 3) := by decide +kernel
theorem d_LM_match_130 : decode b_LM_match 130 = .ok (.aload_n 0, 1) := by decide +kernel
theorem d_LM_match_131 : decode b_LM_match 131 = .ok (.getfield 25, 3) := by decide +kernel
theorem d_LM_match_134 : decode b_LM_match 134 = .ok (.aload 4, 2) := by decide +kernel
theorem d_LM_match_136 : decode b_LM_match 136 = .ok (.aastore, 1) := by decide +kernel
theorem d_LM_match_137 : decode b_LM_match 137 = .ok (.aload_n 0, 1) := by decide +kernel
theorem d_LM_match_138 : decode b_LM_match 138 = .ok (.getfield 31, 3) := by decide +kernel
theorem d_LM_match_141 : decode b_LM_match 141 = .ok (.invokevirtual 65, 3) := by decide +kernel
theorem d_LM_match_144 : decode b_LM_match 144 = .ok (.aload_n 0, 1) := by decide +kernel
theorem d_LM_match_145 : decode b_LM_match 145 = .ok (.dup, 1) := by decide +kernel
theorem d_LM_match_146 : decode b_LM_match 146 = .ok (.getfield 25, 3) := by decide +kernel
theorem d_LM_match_149 : decode b_LM_match 149 = .ok (.dup_x1, 1) := by decide +kernel
theorem d_LM_match_150 : decode b_LM_match 150 = .ok (.iconst 1, 1) := by decide +kernel
theorem d_LM_match_151 : decode b_LM_match 151 = .ok (.iadd, 1) := by decide +kernel
theorem d_LM_match_152 : decode b_LM_match 152 = .ok (.putfield 25, 3) := by decide +kernel
theorem d_LM_match_155 : decode b_LM_match 155 = .ok (.ireturn, 1) := by decide +kernel
def f_LM_match (w : Mp) (sz : Nat) (h0 : Nat) (x1 : Int32) (x2 : Int32) : Option ((Int32 ⊕ Nat) × Mp × Nat) := (gI w (some h0) 0 3).bind fun v_1 => if v_1 < (8 : Int32) then ((xo w (some h0) 0).bind fun b_3 => (f_LM_leastFlitchWith w b_3 x2).bind fun q_2 => if q_2 = (-1 : Int32) then (some (.inr 0, w, sz + 1)) else ((f_LM_isWithin w x1 (0 : Int32) (3 : Int32)).bind fun q_4 => if q_4 = 0 then (some (.inr 1, w, sz + 1)) else ((f_LM_isWithin w x2 (2 : Int32) (8 : Int32)).bind fun q_5 => if q_5 = 0 then (some (.inr 1, w, sz + 1)) else (xJ1 (fun (_u : Unit) => (xo w (some h0) 0).bind fun b_8 => (f_LM_gatherFree w b_8 q_2).bind fun q_7 => (xo q_7.2 (some h0) 0).bind fun b_10 => (f_LM_isBroken q_7.2 b_10 x2).bind fun q_9 => if q_9 = 0 then ((xnO q_7.2 sz 3 [.int 0, .null]).bind fun w_11 => (gR w_11 (some h0) 0 5).bind fun v_12 => (xo w_11 (some sz) 3).bind fun b_14 => (f_Face_init w_11 (sz + 1) b_14 x1 v_12 x2).bind fun q_13 => (xo q_13.2.1 (some sz) 3).bind fun b_16 => (f_Face_markUsed q_13.2.1 b_16 (1 : Int32)).bind fun q_15 => (gR q_15.2 (some h0) 0 2).bind fun v_17 => (gI q_15.2 (some h0) 0 3).bind fun v_18 => (sR q_15.2 v_17 2 3 v_18 (some sz)).bind fun w_19 => (gR w_19 (some h0) 0 4).bind fun v_20 => (xo w_19 v_20 4).bind fun b_22 => (f_Plan_forgetPlan w_19 b_22).bind fun q_21 => (gI q_21.2 (some h0) 0 3).bind fun v_23 => (pF q_21.2 (some h0) 0 3 (.int (v_23 + (1 : Int32)))).bind fun w_24 => some (.inl v_23, w_24, q_13.2.2)) else (some (.inl (-1 : Int32), q_7.2, sz))) fun J_6 => if x1 = (3 : Int32) then (if x2 = (4 : Int32) then (J_6 ()) else (some (.inr 1, w, sz + 1))) else (J_6 ()))))) else (some (.inr 0, w, sz + 1))
set_option maxHeartbeats 4000000 in
set_option maxRecDepth 100000 in
theorem c_LM_match (l : Launch) (G : Gx) (w : Mp) (sz : Nat) (h0 : Nat) (x1 : Int32) (x2 : Int32) (res : (Int32 ⊕ Nat) × Mp × Nat) (hf : f_LM_match w sz h0 x1 x2 = some res) (hlt : l.stackTraces = false) : vx_Met l y_LM_match (xws y_LM_match b_LM_match 5 (some .int)) { frames := 6, cells := 11, slots := 55, locals := 82 } (xPc G vwCl xaty w sz [va_rf (some h0), .int x1, .int x2]) (xQT G vwCl (xri res.1) res.2.1 res.2.2) (xXT G vwCl (xri res.1) res.2.1 res.2.2) (11) (55) (xA G) := by
  refine vx_ofW (cc := b_LM_match) (maxL := 5) (ret := (some .int)) (by decide) rfl ?_
  intro p e s m args below meth c s₁ B hml ht hv
  obtain ⟨ha, hE, hH, hz⟩ := hv
  have hout : ∀ x ∈ c.exceptionTable.toList, ∀ q, covers x q = false := fun x hx => (ht x hx).elim
  have C0 : CallFix p m c b_LM_match 5 s args wA R_LM := ⟨B.exec, B.bytes, hml, findClass_of_methodNamed B.named, fun w hw => atoms_spec (ws := xws y_LM_match b_LM_match 5 (some .int)) B.pre w (List.mem_cons_of_mem _ hw)⟩
  have hr := B.returns
  have hlocks := B.notSynchronized
  obtain ⟨R, hR⟩ : ∃ R, R = (headSpec (xws y_LM_match b_LM_match 5 (some .int)) { frames := 6, cells := 11, slots := 55, locals := 82 }).room := ⟨_, rfl⟩
  have hR1 : 6 ≤ R.frames := by rw [hR]; exact Nat.le_of_ble_eq_true rfl
  have hR2 : 82 ≤ R.locals := by rw [hR]; exact Nat.le_of_ble_eq_true rfl
  have hR3 : 11 ≤ R.cells := by rw [hR]; exact Nat.le_refl _
  have hR4 : 55 ≤ R.slots := by rw [hR]; exact Nat.le_refl _
  rw [← hR]
  obtain ⟨Q, hQ⟩ : ∃ Q, Q = vx_MQ below (xQT G vwCl (xri res.1) res.2.1 res.2.2) (xXT G vwCl (xri res.1) res.2.1 res.2.2) args s (11) (55) (xA G) := ⟨_, rfl⟩
  rw [← hQ]
  have hS : xS G s s.heap [] := va_S.rf
  obtain ⟨ls, he, hl⟩ := x_entry m [.inr (.inl (some h0)), .inl x1, .inl x2] 5 (Nat.le_of_ble_eq_true rfl)
  rw [show entryFrame m args 5 = F0 m 0 ls [] by rw [ha]; exact he]
  have hl : xL ls 5 [(0, .inr (.inl (some h0))), (1, .inl x1), (2, .inl x2)] := hl
  have h := hf
  unfold f_LM_match at h
  suffices hmain : ∀ (H : Heap) (locs : List Loc), xhd G vwCl w H → xS G s H locs → H.size = sz → (H = s.heap ∧ locs = []) → W p l e R s m args below meth c H locs 0 0 Q (F0 m 0 ls []) from hmain _ _ hH hS hz ⟨rfl, rfl⟩
  clear hH hS hz
  intro H locs hH hS hz hP0
  refine x_aload_n C0 hl 0 d_LM_match_0 rfl rfl ?_
  refine x_getI C0 hE hH (ci := 0) rfl i_LM 3 (by decide) kw_1_78 d_LM_match_1 h (fun v_1 h => ?_)
  refine lv_bipush (v := 8) C0.1 C0.2.1 d_LM_match_4 (by decide) ?_
  refine x_icmp_lt C0 19 d_LM_match_6 (by decide) h (fun h => ?_) (fun h => ?_)
  · refine x_aload_n C0 hl 0 d_LM_match_19 rfl rfl ?_
    refine x_iload_n C0 hl 2 d_LM_match_20 rfl rfl ?_
    obtain ⟨b_3, e9, h⟩ := Option.bind_eq_some_iff.mp h
    obtain ⟨e8, fs9, hb9⟩ := xo_inv e9
    obtain ⟨q_2, e9, h⟩ := Option.bind_eq_some_iff.mp h
    refine x_callP (va_runV (As := [.int x2]) (rest := []) C0 (c_LM_leastFlitchWith l G w _ b_3 x2 q_2 e9) (x_cwV 1 C0 kw_2_65 kw_2_68 kw_1_1 kw_2_67 kw_0_3 (by decide +kernel) (x_rm hR1 hR2 (Nat.le_of_ble_eq_true rfl) (Nat.le_of_ble_eq_true rfl))) (x_preV hE hH hS (ci := 0) rfl hb9) rfl rfl hl.1 (by rw [e8]; rfl) (lv_room (by first | exact Nat.le_of_ble_eq_true rfl | simp only [List.map_cons, List.map_nil, List.sum_cons, List.sum_nil, va_rf_cat, x_catI, x_catL, x_catA] <;> decide)) d_LM_match_21 (x_le0 (Nat.le_trans (by omega) hR3) (Nat.le_trans (by omega) hR4))) ?_
    refine x_istore_n (lv' := [(3, .inl q_2), (0, .inr (.inl (some h0))), (1, .inl x1), (2, .inl x2)]) C0 hl d_LM_match_24 rfl (by decide) rfl (fun ls hl => ?_)
    refine x_iload_n C0 hl 0 d_LM_match_25 rfl rfl ?_
    refine lv_iconst (v := -1) C0.1 C0.2.1 d_LM_match_26 (by decide) ?_
    refine x_icmp_ne C0 40 d_LM_match_27 (by decide) h (fun h => ?_) (fun h => ?_)
    · refine x_iload_n C0 hl 2 d_LM_match_40 rfl rfl ?_
      refine lv_iconst (v := 0) C0.1 C0.2.1 d_LM_match_41 (by decide) ?_
      refine lv_iconst (v := 3) C0.1 C0.2.1 d_LM_match_42 (by decide) ?_
      obtain ⟨q_4, e9, h⟩ := Option.bind_eq_some_iff.mp h
      refine x_callP (va_runS (As := [.int x1, .int (0 : Int32), .int (3 : Int32)]) (rest := []) C0 (c_LM_isWithin l G w _ x1 (0 : Int32) (3 : Int32) q_4 e9) (x_cwS 3 C0 kw_1_184 kw_1_186 kw_1_1 kw_1_185 (by decide +kernel) (x_rm hR1 hR2 (Nat.le_of_ble_eq_true rfl) (Nat.le_of_ble_eq_true rfl))) (x_preS hE hH hS) rfl rfl hl.1 rfl (lv_room (by first | exact Nat.le_of_ble_eq_true rfl | simp only [List.map_cons, List.map_nil, List.sum_cons, List.sum_nil, va_rf_cat, x_catI, x_catL, x_catA] <;> decide)) d_LM_match_43 (x_le0 (Nat.le_trans (by omega) hR3) (Nat.le_trans (by omega) hR4))) ?_
      refine x_if_ne C0 59 d_LM_match_46 (by decide) h (fun h => ?_) (fun h => ?_)
      · refine x_iload_n C0 hl 3 d_LM_match_59 rfl rfl ?_
        refine lv_iconst (v := 2) C0.1 C0.2.1 d_LM_match_60 (by decide) ?_
        refine lv_bipush (v := 8) C0.1 C0.2.1 d_LM_match_61 (by decide) ?_
        obtain ⟨q_5, e9, h⟩ := Option.bind_eq_some_iff.mp h
        refine x_callP (va_runS (As := [.int x2, .int (2 : Int32), .int (8 : Int32)]) (rest := []) C0 (c_LM_isWithin l G w _ x2 (2 : Int32) (8 : Int32) q_5 e9) (x_cwS 3 C0 kw_1_184 kw_1_186 kw_1_1 kw_1_185 (by decide +kernel) (x_rm hR1 hR2 (Nat.le_of_ble_eq_true rfl) (Nat.le_of_ble_eq_true rfl))) (x_preS hE hH hS) rfl rfl hl.1 rfl (lv_room (by first | exact Nat.le_of_ble_eq_true rfl | simp only [List.map_cons, List.map_nil, List.sum_cons, List.sum_nil, va_rf_cat, x_catI, x_catL, x_catA] <;> decide)) d_LM_match_63 (x_le0 (Nat.le_trans (by omega) hR3) (Nat.le_trans (by omega) hR4))) ?_
        refine x_if_eq C0 79 d_LM_match_66 (by decide) h (fun h => ?_) (fun h => ?_)
        · cases h
          rw [hQ]
          exact x_throw C0 hlt hE hH hS hz hl hout 1 (by decide +kernel) kw_1_187 kw_1_8 (List.mem_of_getElem? (i := 12) rfl) at1_55_59_1 at2_55_59_1 at3_55_59_1 d_LM_match_79 d_LM_match_82 d_LM_match_83 d_LM_match_85 d_LM_match_88 (Nat.le_trans (by decide) hR1) (Nat.le_trans (by decide) hR2) (Nat.le_trans (by omega) hR3) (Nat.le_trans (by omega) hR4) hlocks (by omega) (by omega)
        · refine x_iload_n C0 hl 2 d_LM_match_69 rfl rfl ?_
          refine lv_iconst (v := 3) C0.1 C0.2.1 d_LM_match_70 (by decide) ?_
          refine xj1 h (fun J_6 eJ_6 h => ?_)
          have kJ_6 : ∀ (_u : Unit) (ls : Array Slot), xL ls 5 [(0, .inr (.inl (some h0))), (1, .inl x1), (2, .inl x2), (3, .inl q_2)] → J_6 _u = some res → W p l e R s m args below meth c H locs 0 (0) Q (F0 m 89 ls []) := by
            intro _u ls hl h
            rw [eJ_6] at h
            refine x_aload_n C0 hl 0 d_LM_match_89 rfl rfl ?_
            refine x_iload_n C0 hl 3 d_LM_match_90 rfl rfl ?_
            obtain ⟨b_8, e9, h⟩ := Option.bind_eq_some_iff.mp h
            obtain ⟨e8, fs9, hb9⟩ := xo_inv e9
            obtain ⟨q_7, e9, h⟩ := Option.bind_eq_some_iff.mp h
            refine x_call0 hS (va_runV (As := [.int q_2]) (rest := []) C0 (c_LM_gatherFree l G w _ b_8 q_2 q_7 e9) (x_cwV 1 C0 kw_2_80 kw_2_83 kw_1_1 kw_2_82 kw_0_5 (by decide +kernel) (x_rm hR1 hR2 (Nat.le_of_ble_eq_true rfl) (Nat.le_of_ble_eq_true rfl))) (x_preV hE hH hS (ci := 0) rfl hb9) rfl rfl hl.1 (by rw [e8]; rfl) (lv_room (by first | exact Nat.le_of_ble_eq_true rfl | simp only [List.map_cons, List.map_nil, List.sum_cons, List.sum_nil, va_rf_cat, x_catI, x_catL, x_catA] <;> decide)) d_LM_match_91 (x_le0 (Nat.le_trans (by omega) hR3) (Nat.le_trans (by omega) hR4))) (fun H locs hH hS hz9 => ?_)
            have hz := hz9.trans hz
            refine lv_pop C0.1 C0.2.1 d_LM_match_94 rfl ?_
            refine x_aload_n C0 hl 0 d_LM_match_95 rfl rfl ?_
            refine x_iload_n C0 hl 2 d_LM_match_96 rfl rfl ?_
            obtain ⟨b_10, e9, h⟩ := Option.bind_eq_some_iff.mp h
            obtain ⟨e8, fs9, hb9⟩ := xo_inv e9
            obtain ⟨q_9, e9, h⟩ := Option.bind_eq_some_iff.mp h
            refine x_callP (va_runV (As := [.int x2]) (rest := []) C0 (c_LM_isBroken l G q_7.2 _ b_10 x2 q_9 e9) (x_cwV 1 C0 kw_2_84 kw_2_87 kw_1_1 kw_2_86 kw_0_6 (by decide +kernel) (x_rm hR1 hR2 (Nat.le_of_ble_eq_true rfl) (Nat.le_of_ble_eq_true rfl))) (x_preV hE hH hS (ci := 0) rfl hb9) rfl rfl hl.1 (by rw [e8]; rfl) (lv_room (by first | exact Nat.le_of_ble_eq_true rfl | simp only [List.map_cons, List.map_nil, List.sum_cons, List.sum_nil, va_rf_cat, x_catI, x_catL, x_catA] <;> decide)) d_LM_match_97 (x_le0 (Nat.le_trans (by omega) hR3) (Nat.le_trans (by omega) hR4))) ?_
            refine x_if_eq C0 105 d_LM_match_100 (by decide) h (fun h => ?_) (fun h => ?_)
            · refine x_new (fs := [.int 0, .null]) C0 hE hH hS hz (ci := 3) rfl i_Face t_Face t_Face_ok kw_1_34 kw_2_92 kw_1_11 (fun j hj => by rcases (show j = 0 ∨ j = 1 by omega) with rfl | rfl <;> rfl) (Nat.le_trans (by omega) hR3) (Nat.le_trans (by omega) hR4) d_LM_match_105 h (fun w_11 H hH hS hz h => ?_)
              refine W.widen (k := 1) (n := 2) (by omega) (by omega) ?_
              refine lv_dup C0.1 C0.2.1 d_LM_match_108 (va_rf_cat _) ?_
              refine x_iload_n C0 hl 1 d_LM_match_109 rfl rfl ?_
              refine x_aload_n C0 hl 0 d_LM_match_110 rfl rfl ?_
              refine x_getR C0 hE hH (ci := 0) rfl i_LM 5 (by decide) kw_1_80 d_LM_match_111 h (fun v_12 h => ?_)
              refine x_iload_n C0 hl 2 d_LM_match_114 rfl rfl ?_
              obtain ⟨b_14, e9, h⟩ := Option.bind_eq_some_iff.mp h
              obtain ⟨e8, fs9, hb9⟩ := xo_inv e9
              obtain ⟨q_13, e9, h⟩ := Option.bind_eq_some_iff.mp h
              have e9 := (show f_Face_init w_11 (Array.size H) b_14 x1 v_12 x2 = some q_13 by rw [hz]; exact e9)
              refine x_call hS (va_runI (As := [.int x1, va_rf v_12, .int x2]) (rest := [va_rf (some sz)]) C0 (c_Face_init l G w_11 _ b_14 x1 v_12 x2 q_13 e9) (x_cwI 3 C0 kw_2_93 kw_2_95 kw_1_11 kw_2_94 rfl (by decide +kernel) (x_rm hR1 hR2 (Nat.le_of_ble_eq_true rfl) (Nat.le_of_ble_eq_true rfl))) (x_preS hE hH hS) rfl rfl hl.1 (by rw [e8]; rfl) (lv_room (by first | exact Nat.le_of_ble_eq_true rfl | simp only [List.map_cons, List.map_nil, List.sum_cons, List.sum_nil, va_rf_cat, x_catI, x_catL, x_catA] <;> decide)) d_LM_match_115 ⟨Nat.le_trans (by omega) hR3, Nat.le_trans (by omega) hR4⟩) (fun H locs hH hS hz => ?_)
              refine W.widen (k := 11) (n := 55) (by omega) (by omega) ?_
              refine x_astore (lv' := [(4, .inr (.inl (some sz))), (0, .inr (.inl (some h0))), (1, .inl x1), (2, .inl x2), (3, .inl q_2)]) C0 hl d_LM_match_118 (by decide) rfl (fun ls hl => ?_)
              refine x_aload C0 hl 0 d_LM_match_120 rfl ?_
              refine lv_iconst (v := 1) C0.1 C0.2.1 d_LM_match_122 (by decide) ?_
              obtain ⟨b_16, e9, h⟩ := Option.bind_eq_some_iff.mp h
              obtain ⟨e8, fs9, hb9⟩ := xo_inv e9
              obtain ⟨q_15, e9, h⟩ := Option.bind_eq_some_iff.mp h
              refine x_call0 hS (va_runV (As := [.int (1 : Int32)]) (rest := []) C0 (c_Face_markUsed l G q_13.2.1 _ b_16 (1 : Int32) q_15 e9) (x_cwV 1 C0 kw_2_137 kw_2_140 kw_1_11 kw_2_138 kw_2_139 (by decide +kernel) (x_rm hR1 hR2 (Nat.le_of_ble_eq_true rfl) (Nat.le_of_ble_eq_true rfl))) (x_preV hE hH hS (ci := 3) rfl hb9) rfl rfl hl.1 (by rw [e8]; rfl) (lv_room (by first | exact Nat.le_of_ble_eq_true rfl | simp only [List.map_cons, List.map_nil, List.sum_cons, List.sum_nil, va_rf_cat, x_catI, x_catL, x_catA] <;> decide)) d_LM_match_123 (x_le0 (Nat.le_trans (by omega) hR3) (Nat.le_trans (by omega) hR4))) (fun H locs hH hS hz9 => ?_)
              have hz := hz9.trans hz
              refine x_aload_n C0 hl 1 d_LM_match_126 rfl rfl ?_
              refine x_getR C0 hE hH (ci := 0) rfl i_LM 2 (by decide) kw_1_77 d_LM_match_127 h (fun v_17 h => ?_)
              refine x_aload_n C0 hl 1 d_LM_match_130 rfl rfl ?_
              refine x_getI C0 hE hH (ci := 0) rfl i_LM 3 (by decide) kw_1_78 d_LM_match_131 h (fun v_18 h => ?_)
              refine x_aload C0 hl 0 d_LM_match_134 rfl ?_
              refine x_aast C0 hE hH hS (t := 2) (ci := 3) rfl rfl d_LM_match_136 h (fun w_19 H locs hH hS hz9 h => ?_)
              have hz := hz9.trans hz
              refine x_aload_n C0 hl 1 d_LM_match_137 rfl rfl ?_
              refine x_getR C0 hE hH (ci := 0) rfl i_LM 4 (by decide) kw_1_79 d_LM_match_138 h (fun v_20 h => ?_)
              obtain ⟨b_22, e9, h⟩ := Option.bind_eq_some_iff.mp h
              obtain ⟨e8, fs9, hb9⟩ := xo_inv e9
              obtain ⟨q_21, e9, h⟩ := Option.bind_eq_some_iff.mp h
              refine x_call0 hS (va_runV (As := []) (rest := []) C0 (c_Plan_forgetPlan l G w_19 _ b_22 q_21 e9) (x_cwV 0 C0 kw_2_6 kw_2_9 kw_1_2 kw_2_7 kw_2_8 (by decide +kernel) (x_rm hR1 hR2 (Nat.le_of_ble_eq_true rfl) (Nat.le_of_ble_eq_true rfl))) (x_preV hE hH hS (ci := 4) rfl hb9) rfl rfl hl.1 (by rw [e8]; rfl) (lv_room (by first | exact Nat.le_of_ble_eq_true rfl | simp only [List.map_cons, List.map_nil, List.sum_cons, List.sum_nil, va_rf_cat, x_catI, x_catL, x_catA] <;> decide)) d_LM_match_141 (x_le0 (Nat.le_trans (by omega) hR3) (Nat.le_trans (by omega) hR4))) (fun H locs hH hS hz9 => ?_)
              have hz := hz9.trans hz
              refine x_aload_n C0 hl 1 d_LM_match_144 rfl rfl ?_
              refine lv_dup C0.1 C0.2.1 d_LM_match_145 (va_rf_cat _) ?_
              refine x_getI C0 hE hH (ci := 0) rfl i_LM 3 (by decide) kw_1_78 d_LM_match_146 h (fun v_23 h => ?_)
              refine lv_dup_x1 C0.1 C0.2.1 d_LM_match_149 rfl (va_rf_cat _) ?_
              refine lv_iconst (v := 1) C0.1 C0.2.1 d_LM_match_150 (by decide) ?_
              refine lv_iadd C0.1 C0.2.1 d_LM_match_151 ?_
              refine x_put C0 hE hH hS (ci := 0) rfl i_LM t_LM t_LM_ok n_LM 3 (by decide) kw_1_78 rfl rfl rfl d_LM_match_152 h (fun w_24 H locs hH hS hz9 h => ?_)
              have hz := hz9.trans hz
              cases h
              rw [hQ]
              exact x_iretT (v := v_23) C0 hr hlocks hH hS hz (by omega) (by omega) d_LM_match_155
            · refine lv_iconst (v := -1) C0.1 C0.2.1 d_LM_match_103 (by decide) ?_
              cases h
              rw [hQ]
              exact x_iretT (v := (-1 : Int32)) C0 hr hlocks hH hS hz (by omega) (by omega) d_LM_match_104
          refine x_icmp_ne C0 89 d_LM_match_71 (by decide) h (fun h => ?_) (fun h => ?_)
          · exact kJ_6 _ ls (x_sub hl [1, 2, 3, 0] rfl) h
          · refine x_iload_n C0 hl 3 d_LM_match_74 rfl rfl ?_
            refine lv_iconst (v := 4) C0.1 C0.2.1 d_LM_match_75 (by decide) ?_
            refine x_icmp_eq C0 89 d_LM_match_76 (by decide) h (fun h => ?_) (fun h => ?_)
            · exact kJ_6 _ ls (x_sub hl [1, 2, 3, 0] rfl) h
            · cases h
              rw [hQ]
              exact x_throw C0 hlt hE hH hS hz hl hout 1 (by decide +kernel) kw_1_187 kw_1_8 (List.mem_of_getElem? (i := 12) rfl) at1_55_59_1 at2_55_59_1 at3_55_59_1 d_LM_match_79 d_LM_match_82 d_LM_match_83 d_LM_match_85 d_LM_match_88 (Nat.le_trans (by decide) hR1) (Nat.le_trans (by decide) hR2) (Nat.le_trans (by omega) hR3) (Nat.le_trans (by omega) hR4) hlocks (by omega) (by omega)
      · cases h
        rw [hQ]
        exact x_throw C0 hlt hE hH hS hz hl hout 1 (by decide +kernel) kw_1_187 kw_1_8 (List.mem_of_getElem? (i := 11) rfl) at1_55_59_1 at2_55_59_1 at3_55_59_1 d_LM_match_49 d_LM_match_52 d_LM_match_53 d_LM_match_55 d_LM_match_58 (Nat.le_trans (by decide) hR1) (Nat.le_trans (by decide) hR2) (Nat.le_trans (by omega) hR3) (Nat.le_trans (by omega) hR4) hlocks (by omega) (by omega)
    · cases h
      rw [hQ]
      exact x_throw C0 hlt hE hH hS hz hl hout 0 (by decide +kernel) kw_1_111 kw_1_7 (List.mem_of_getElem? (i := 10) rfl) at1_38_42_0 at2_38_42_0 at3_38_42_0 d_LM_match_30 d_LM_match_33 d_LM_match_34 d_LM_match_36 d_LM_match_39 (Nat.le_trans (by decide) hR1) (Nat.le_trans (by decide) hR2) (Nat.le_trans (by omega) hR3) (Nat.le_trans (by omega) hR4) hlocks (by omega) (by omega)
  · cases h
    rw [hQ]
    exact x_throw C0 hlt hE hH hS hz hl hout 0 (by decide +kernel) kw_1_111 kw_1_7 (List.mem_of_getElem? (i := 9) rfl) at1_38_42_0 at2_38_42_0 at3_38_42_0 d_LM_match_9 d_LM_match_12 d_LM_match_13 d_LM_match_15 d_LM_match_18 (Nat.le_trans (by decide) hR1) (Nat.le_trans (by decide) hR2) (Nat.le_trans (by omega) hR3) (Nat.le_trans (by omega) hR4) hlocks (by omega) (by omega)
theorem d_LM_apart_0 : decode b_LM_apart 0 = .ok (.aload_n 0, 1) := by decide +kernel
theorem d_LM_apart_1 : decode b_LM_apart 1 = .ok (.iload_n 1, 1) := by decide +kernel
theorem d_LM_apart_2 : decode b_LM_apart 2 = .ok (.invokevirtual 124, 3) := by decide +kernel
theorem d_LM_apart_5 : decode b_LM_apart 5 = .ok (.astore_n 2, 1) := by decide +kernel
theorem d_LM_apart_6 : decode b_LM_apart 6 = .ok (.aload_n 2, 1) := by decide +kernel
theorem d_LM_apart_7 : decode b_LM_apart 7 = .ok (.ifnonnull 13, 3) := by decide +kernel
theorem d_LM_apart_10 : decode b_LM_apart 10 = .ok (.new 75, 3) := by decide +kernel
theorem d_LM_apart_13 : decode b_LM_apart 13 = .ok (.dup, 1) := by decide +kernel
theorem d_LM_apart_14 : decode b_LM_apart 14 = .ok (.ldc 128, 2) := by decide +kernel
theorem d_LM_apart_16 : decode b_LM_apart 16 = .ok (.invokespecial 79, 3) := by decide +kernel
theorem d_LM_apart_19 : decode b_LM_apart 19 = .ok (.athrow, 1) := by decide +kernel
theorem d_LM_apart_20 : decode b_LM_apart 20 = .ok (.aload_n 2, 1) := by decide +kernel
theorem d_LM_apart_21 : decode b_LM_apart 21 = .ok (.iconst 0, 1) := by decide +kernel
theorem d_LM_apart_22 : decode b_LM_apart 22 = .ok (.invokevirtual 120, 3) := by decide +kernel
theorem d_LM_apart_25 : decode b_LM_apart 25 = .ok (.iload_n 1, 1) := by decide +kernel
theorem d_LM_apart_26 : decode b_LM_apart 26 = .ok (.istore_n 3, 1) := by decide +kernel
theorem d_LM_apart_27 : decode b_LM_apart 27 = .ok (.iload_n 3, 1) := by decide +kernel
theorem d_LM_apart_28 : decode b_LM_apart 28 = .ok (.aload_n 0, 1) := by decide +kernel
theorem d_LM_apart_29 : decode b_LM_apart 29 = .ok (.getfield 25, 3) := by decide +kernel
theorem d_LM_apart_32 : decode b_LM_apart 32 = .ok (.iconst 1, 1) := by decide +kernel
theorem d_LM_apart_33 : decode b_LM_apart 33 = .ok (.isub, 1) := by decide +kernel
theorem d_LM_apart_34 : decode b_LM_apart 34 = .ok (.if_icmp .ge 23, 3) := by decide +kernel
theorem d_LM_apart_37 : decode b_LM_apart 37 = .ok (.aload_n 0, 1) := by decide +kernel
theorem d_LM_apart_38 : decode b_LM_apart 38 = .ok (.getfield 21, 3) := by decide +kernel
theorem d_LM_apart_41 : decode b_LM_apart 41 = .ok (.iload_n 3, 1) := by decide +kernel
theorem d_LM_apart_42 : decode b_LM_apart 42 = .ok (.aload_n 0, 1) := by decide +kernel
theorem d_LM_apart_43 : decode b_LM_apart 43 = .ok (.getfield 21, 3) := by decide +kernel
theorem d_LM_apart_46 : decode b_LM_apart 46 = .ok (.iload_n 3, 1) := by decide +kernel
theorem d_LM_apart_47 : decode b_LM_apart 47 = .ok (.iconst 1, 1) := by decide +kernel
theorem d_LM_apart_48 : decode b_LM_apart 48 = .ok (.iadd, 1) := by decide +kernel
theorem d_LM_apart_49 : decode b_LM_apart 49 = .ok (.aaload, 1) := by decide +kernel
theorem d_LM_apart_50 : decode b_LM_apart 50 = .ok (.aastore, 1) := by decide +kernel
theorem d_LM_apart_51 : decode b_LM_apart 51 = .ok (.iinc 3 1, 3) := by decide +kernel
theorem d_LM_apart_54 : decode b_LM_apart 54 = .ok (.goto (-27), 3) := by decide +kernel
theorem d_LM_apart_57 : decode b_LM_apart 57 = .ok (.aload_n 0, 1) := by decide +kernel
theorem d_LM_apart_58 : decode b_LM_apart 58 = .ok (.dup, 1) := by decide +kernel
theorem d_LM_apart_59 : decode b_LM_apart 59 = .ok (.getfield 25, 3) := by decide +kernel
theorem d_LM_apart_62 : decode b_LM_apart 62 = .ok (.iconst 1, 1) := by decide +kernel
theorem d_LM_apart_63 : decode b_LM_apart 63 = .ok (.isub, 1) := by decide +kernel
theorem d_LM_apart_64 : decode b_LM_apart 64 = .ok (.putfield 25, 3) := by decide +kernel
theorem d_LM_apart_67 : decode b_LM_apart 67 = .ok (.aload_n 0, 1) := by decide +kernel
theorem d_LM_apart_68 : decode b_LM_apart 68 = .ok (.getfield 21, 3) := by decide +kernel
theorem d_LM_apart_71 : decode b_LM_apart 71 = .ok (.aload_n 0, 1) := by decide +kernel
theorem d_LM_apart_72 : decode b_LM_apart 72 = .ok (.getfield 25, 3) := by decide +kernel
theorem d_LM_apart_75 : decode b_LM_apart 75 = .ok (.aconst_null, 1) := by decide +kernel
theorem d_LM_apart_76 : decode b_LM_apart 76 = .ok (.aastore, 1) := by decide +kernel
theorem d_LM_apart_77 : decode b_LM_apart 77 = .ok (.aload_n 0, 1) := by decide +kernel
theorem d_LM_apart_78 : decode b_LM_apart 78 = .ok (.getfield 31, 3) := by decide +kernel
theorem d_LM_apart_81 : decode b_LM_apart 81 = .ok (.invokevirtual 65, 3) := by decide +kernel
theorem d_LM_apart_84 : decode b_LM_apart 84 = .ok (.aload_n 0, 1) := by decide +kernel
theorem d_LM_apart_85 : decode b_LM_apart 85 = .ok (.getfield 25, 3) := by decide +kernel
theorem d_LM_apart_88 : decode b_LM_apart 88 = .ok (.ireturn, 1) := by decide +kernel
def f_LM_apart_L27 (h0 : Nat) : Nat → Int32 → Mp → Option (Nat × Int32 × Mp)
  | 0, _, _ => none
  | n + 1, x3, w => (gI w (some h0) 0 3).bind fun v_5 => if (v_5 - (1 : Int32)) ≤ x3 then (some (0, x3, w)) else ((gR w (some h0) 0 2).bind fun v_6 => (gR w (some h0) 0 2).bind fun v_7 => (aR w v_7 2 (x3 + (1 : Int32))).bind fun v_8 => (sR w v_6 2 3 x3 v_8).bind fun w_9 => f_LM_apart_L27 h0 n (x3 + 1) w_9)
set_option maxHeartbeats 4000000 in
set_option maxRecDepth 100000 in
theorem w_LM_apart_L27 {p : Program} {l : Launch} {e : Env} {R : Room} {s : State} {m : MethodId} {args : Array Value} {below : List Frame} {meth : Method} {c : Code} {Q : State → Prop} {cells slots sz : Nat} {G : Gx} {h0 : Nat} (C0 : CallFix p m c b_LM_apart 4 s args wA R_LM) (hE : xE G vwCl xaty s) (hR1 : 6 ≤ R.frames) (hR2 : 82 ≤ R.locals) (hR3 : cells ≤ R.cells) (hR4 : slots ≤ R.slots) : ∀ (n : Nat) (x3 : Int32) (w : Mp) (H : Heap) (locs : List Loc) (q : Nat × Int32 × Mp) (ls : Array Slot), xhd G vwCl w H → xS G s H locs → H.size = sz → xL ls 4 [(0, .inr (.inl (some h0))), (3, .inl x3)] → f_LM_apart_L27 h0 n x3 w = some q → (∀ (H : Heap) (locs : List Loc) (ls : Array Slot), xhd G vwCl q.2.2 H → xS G s H locs → H.size = sz → xL ls 4 [(0, .inr (.inl (some h0))), (3, .inl q.2.1)] → W p l e R s m args below meth c H locs cells slots Q (F0 m 57 ls [])) → W p l e R s m args below meth c H locs cells slots Q (F0 m 27 ls []) := by
  intro n
  induction n with
  | zero => intro _ _ _ _ q ls hH hS hz hl h; cases h
  | succ n ih =>
    intro x3 w H locs q ls hH hS hz hl h K
    rw [f_LM_apart_L27] at h
    refine x_iload_n C0 hl 1 d_LM_apart_27 rfl rfl ?_
    refine x_aload_n C0 hl 0 d_LM_apart_28 rfl rfl ?_
    refine x_getI C0 hE hH (ci := 0) rfl i_LM 3 (by decide) kw_1_78 d_LM_apart_29 h (fun v_5 h => ?_)
    refine lv_iconst (v := 1) C0.1 C0.2.1 d_LM_apart_32 (by decide) ?_
    refine lv_isub C0.1 C0.2.1 d_LM_apart_33 ?_
    refine x_icmp_ge C0 57 d_LM_apart_34 (by decide) h (fun h => ?_) (fun h => ?_)
    · cases h
      exact K _ _ ls hH hS hz (x_sub hl [0, 1] rfl)
    · refine x_aload_n C0 hl 0 d_LM_apart_37 rfl rfl ?_
      refine x_getR C0 hE hH (ci := 0) rfl i_LM 2 (by decide) kw_1_77 d_LM_apart_38 h (fun v_6 h => ?_)
      refine x_iload_n C0 hl 1 d_LM_apart_41 rfl rfl ?_
      refine x_aload_n C0 hl 0 d_LM_apart_42 rfl rfl ?_
      refine x_getR C0 hE hH (ci := 0) rfl i_LM 2 (by decide) kw_1_77 d_LM_apart_43 h (fun v_7 h => ?_)
      refine x_iload_n C0 hl 1 d_LM_apart_46 rfl rfl ?_
      refine lv_iconst (v := 1) C0.1 C0.2.1 d_LM_apart_47 (by decide) ?_
      refine lv_iadd C0.1 C0.2.1 d_LM_apart_48 ?_
      refine x_aald C0 hE hH (t := 2) rfl d_LM_apart_49 h (fun v_8 h => ?_)
      refine x_aast C0 hE hH hS (t := 2) (ci := 3) rfl rfl d_LM_apart_50 h (fun w_9 H locs hH hS hz9 h => ?_)
      have hz := hz9.trans hz
      refine x_iinc (v := 1) (lv' := [(3, .inl (x3 + 1)), (0, .inr (.inl (some h0)))]) C0 hl 1 d_LM_apart_51 rfl (by decide) (by decide) rfl (fun ls hl => ?_)
      refine x_goto C0 27 d_LM_apart_54 (by decide) ?_
      exact ih _ _ _ _ q ls hH hS hz (x_sub hl [1, 0] rfl) h K
def f_LM_apart (w : Mp) (sz : Nat) (h0 : Nat) (x1 : Int32) : Option ((Int32 ⊕ Nat) × Mp × Nat) := (xo w (some h0) 0).bind fun b_2 => (f_LM_faceOrNull w b_2 x1).bind fun q_1 => if q_1 = none then (some (.inr 2, w, sz + 1)) else ((xo w q_1 3).bind fun b_4 => (f_Face_markUsed w b_4 (0 : Int32)).bind fun q_3 => (f_LM_apart_L27 h0 100000 x1 q_3.2).bind fun q_10 => (gI q_10.2.2 (some h0) 0 3).bind fun v_11 => (pF q_10.2.2 (some h0) 0 3 (.int (v_11 - (1 : Int32)))).bind fun w_12 => (gR w_12 (some h0) 0 2).bind fun v_13 => (gI w_12 (some h0) 0 3).bind fun v_14 => (sR w_12 v_13 2 3 v_14 none).bind fun w_15 => (gR w_15 (some h0) 0 4).bind fun v_16 => (xo w_15 v_16 4).bind fun b_18 => (f_Plan_forgetPlan w_15 b_18).bind fun q_17 => (gI q_17.2 (some h0) 0 3).bind fun v_19 => some (.inl v_19, q_17.2, sz))
set_option maxHeartbeats 4000000 in
set_option maxRecDepth 100000 in
theorem c_LM_apart (l : Launch) (G : Gx) (w : Mp) (sz : Nat) (h0 : Nat) (x1 : Int32) (res : (Int32 ⊕ Nat) × Mp × Nat) (hf : f_LM_apart w sz h0 x1 = some res) (hlt : l.stackTraces = false) : vx_Met l y_LM_apart (xws y_LM_apart b_LM_apart 4 (some .int)) { frames := 6, cells := 1, slots := 6, locals := 82 } (xPc G vwCl xaty w sz [va_rf (some h0), .int x1]) (xQT G vwCl (xri res.1) res.2.1 res.2.2) (xXT G vwCl (xri res.1) res.2.1 res.2.2) (1) (6) (xA G) := by
  refine vx_ofW (cc := b_LM_apart) (maxL := 4) (ret := (some .int)) (by decide) rfl ?_
  intro p e s m args below meth c s₁ B hml ht hv
  obtain ⟨ha, hE, hH, hz⟩ := hv
  have hout : ∀ x ∈ c.exceptionTable.toList, ∀ q, covers x q = false := fun x hx => (ht x hx).elim
  have C0 : CallFix p m c b_LM_apart 4 s args wA R_LM := ⟨B.exec, B.bytes, hml, findClass_of_methodNamed B.named, fun w hw => atoms_spec (ws := xws y_LM_apart b_LM_apart 4 (some .int)) B.pre w (List.mem_cons_of_mem _ hw)⟩
  have hr := B.returns
  have hlocks := B.notSynchronized
  obtain ⟨R, hR⟩ : ∃ R, R = (headSpec (xws y_LM_apart b_LM_apart 4 (some .int)) { frames := 6, cells := 1, slots := 6, locals := 82 }).room := ⟨_, rfl⟩
  have hR1 : 6 ≤ R.frames := by rw [hR]; exact Nat.le_of_ble_eq_true rfl
  have hR2 : 82 ≤ R.locals := by rw [hR]; exact Nat.le_of_ble_eq_true rfl
  have hR3 : 1 ≤ R.cells := by rw [hR]; exact Nat.le_refl _
  have hR4 : 6 ≤ R.slots := by rw [hR]; exact Nat.le_refl _
  rw [← hR]
  obtain ⟨Q, hQ⟩ : ∃ Q, Q = vx_MQ below (xQT G vwCl (xri res.1) res.2.1 res.2.2) (xXT G vwCl (xri res.1) res.2.1 res.2.2) args s (1) (6) (xA G) := ⟨_, rfl⟩
  rw [← hQ]
  have hS : xS G s s.heap [] := va_S.rf
  obtain ⟨ls, he, hl⟩ := x_entry m [.inr (.inl (some h0)), .inl x1] 4 (Nat.le_of_ble_eq_true rfl)
  rw [show entryFrame m args 4 = F0 m 0 ls [] by rw [ha]; exact he]
  have hl : xL ls 4 [(0, .inr (.inl (some h0))), (1, .inl x1)] := hl
  have h := hf
  unfold f_LM_apart at h
  suffices hmain : ∀ (H : Heap) (locs : List Loc), xhd G vwCl w H → xS G s H locs → H.size = sz → (H = s.heap ∧ locs = []) → W p l e R s m args below meth c H locs 0 0 Q (F0 m 0 ls []) from hmain _ _ hH hS hz ⟨rfl, rfl⟩
  clear hH hS hz
  intro H locs hH hS hz hP0
  refine x_aload_n C0 hl 0 d_LM_apart_0 rfl rfl ?_
  refine x_iload_n C0 hl 1 d_LM_apart_1 rfl rfl ?_
  obtain ⟨b_2, e9, h⟩ := Option.bind_eq_some_iff.mp h
  obtain ⟨e8, fs9, hb9⟩ := xo_inv e9
  obtain ⟨q_1, e9, h⟩ := Option.bind_eq_some_iff.mp h
  refine x_callP (va_runV (As := [.int x1]) (rest := []) C0 (c_LM_faceOrNull l G w _ b_2 x1 q_1 e9) (x_cwV 1 C0 kw_2_148 kw_2_151 kw_1_1 kw_2_150 kw_0_7 (by decide +kernel) (x_rm hR1 hR2 (Nat.le_of_ble_eq_true rfl) (Nat.le_of_ble_eq_true rfl))) (x_preV hE hH hS (ci := 0) rfl hb9) rfl rfl hl.1 (by rw [e8]; rfl) (lv_room (by first | exact Nat.le_of_ble_eq_true rfl | simp only [List.map_cons, List.map_nil, List.sum_cons, List.sum_nil, va_rf_cat, x_catI, x_catL, x_catA] <;> decide)) d_LM_apart_2 (x_le0 (Nat.le_trans (by omega) hR3) (Nat.le_trans (by omega) hR4))) ?_
  refine x_astore_n (lv' := [(2, .inr (.inl q_1)), (0, .inr (.inl (some h0))), (1, .inl x1)]) C0 hl d_LM_apart_5 rfl (by decide) rfl (fun ls hl => ?_)
  refine x_aload_n C0 hl 0 d_LM_apart_6 rfl rfl ?_
  refine x_ifnonnull C0 20 d_LM_apart_7 (by decide) h (fun _ _ h => ?_) (fun _ h => ?_)
  · refine x_aload_n C0 hl 0 d_LM_apart_20 rfl rfl ?_
    refine lv_iconst (v := 0) C0.1 C0.2.1 d_LM_apart_21 (by decide) ?_
    obtain ⟨b_4, e9, h⟩ := Option.bind_eq_some_iff.mp h
    obtain ⟨e8, fs9, hb9⟩ := xo_inv e9
    obtain ⟨q_3, e9, h⟩ := Option.bind_eq_some_iff.mp h
    refine x_call0 hS (va_runV (As := [.int (0 : Int32)]) (rest := []) C0 (c_Face_markUsed l G w _ b_4 (0 : Int32) q_3 e9) (x_cwV 1 C0 kw_2_137 kw_2_140 kw_1_11 kw_2_138 kw_2_139 (by decide +kernel) (x_rm hR1 hR2 (Nat.le_of_ble_eq_true rfl) (Nat.le_of_ble_eq_true rfl))) (x_preV hE hH hS (ci := 3) rfl hb9) rfl rfl hl.1 (by rw [e8]; rfl) (lv_room (by first | exact Nat.le_of_ble_eq_true rfl | simp only [List.map_cons, List.map_nil, List.sum_cons, List.sum_nil, va_rf_cat, x_catI, x_catL, x_catA] <;> decide)) d_LM_apart_22 (x_le0 (Nat.le_trans (by omega) hR3) (Nat.le_trans (by omega) hR4))) (fun H locs hH hS hz9 => ?_)
    have hz := hz9.trans hz
    refine x_iload_n C0 hl 2 d_LM_apart_25 rfl rfl ?_
    refine x_istore_n (lv' := [(3, .inl x1), (2, .inr (.inl q_1)), (0, .inr (.inl (some h0))), (1, .inl x1)]) C0 hl d_LM_apart_26 rfl (by decide) rfl (fun ls hl => ?_)
    obtain ⟨q_10, e9, h⟩ := Option.bind_eq_some_iff.mp h
    refine w_LM_apart_L27 C0 hE hR1 hR2 (Nat.le_trans (by omega) hR3) (Nat.le_trans (by omega) hR4) 100000 _ _ _ _ q_10 ls hH hS hz (x_sub hl [2, 0] rfl) e9 (fun H locs ls hH hS hz hl => ?_)
    refine x_aload_n C0 hl 0 d_LM_apart_57 rfl rfl ?_
    refine lv_dup C0.1 C0.2.1 d_LM_apart_58 (va_rf_cat _) ?_
    refine x_getI C0 hE hH (ci := 0) rfl i_LM 3 (by decide) kw_1_78 d_LM_apart_59 h (fun v_11 h => ?_)
    refine lv_iconst (v := 1) C0.1 C0.2.1 d_LM_apart_62 (by decide) ?_
    refine lv_isub C0.1 C0.2.1 d_LM_apart_63 ?_
    refine x_put C0 hE hH hS (ci := 0) rfl i_LM t_LM t_LM_ok n_LM 3 (by decide) kw_1_78 rfl rfl rfl d_LM_apart_64 h (fun w_12 H locs hH hS hz9 h => ?_)
    have hz := hz9.trans hz
    refine x_aload_n C0 hl 0 d_LM_apart_67 rfl rfl ?_
    refine x_getR C0 hE hH (ci := 0) rfl i_LM 2 (by decide) kw_1_77 d_LM_apart_68 h (fun v_13 h => ?_)
    refine x_aload_n C0 hl 0 d_LM_apart_71 rfl rfl ?_
    refine x_getI C0 hE hH (ci := 0) rfl i_LM 3 (by decide) kw_1_78 d_LM_apart_72 h (fun v_14 h => ?_)
    refine x_null C0 d_LM_apart_75 ?_
    refine x_aast C0 hE hH hS (t := 2) (ci := 3) rfl rfl d_LM_apart_76 h (fun w_15 H locs hH hS hz9 h => ?_)
    have hz := hz9.trans hz
    refine x_aload_n C0 hl 0 d_LM_apart_77 rfl rfl ?_
    refine x_getR C0 hE hH (ci := 0) rfl i_LM 4 (by decide) kw_1_79 d_LM_apart_78 h (fun v_16 h => ?_)
    obtain ⟨b_18, e9, h⟩ := Option.bind_eq_some_iff.mp h
    obtain ⟨e8, fs9, hb9⟩ := xo_inv e9
    obtain ⟨q_17, e9, h⟩ := Option.bind_eq_some_iff.mp h
    refine x_call0 hS (va_runV (As := []) (rest := []) C0 (c_Plan_forgetPlan l G w_15 _ b_18 q_17 e9) (x_cwV 0 C0 kw_2_6 kw_2_9 kw_1_2 kw_2_7 kw_2_8 (by decide +kernel) (x_rm hR1 hR2 (Nat.le_of_ble_eq_true rfl) (Nat.le_of_ble_eq_true rfl))) (x_preV hE hH hS (ci := 4) rfl hb9) rfl rfl hl.1 (by rw [e8]; rfl) (lv_room (by first | exact Nat.le_of_ble_eq_true rfl | simp only [List.map_cons, List.map_nil, List.sum_cons, List.sum_nil, va_rf_cat, x_catI, x_catL, x_catA] <;> decide)) d_LM_apart_81 (x_le0 (Nat.le_trans (by omega) hR3) (Nat.le_trans (by omega) hR4))) (fun H locs hH hS hz9 => ?_)
    have hz := hz9.trans hz
    refine x_aload_n C0 hl 0 d_LM_apart_84 rfl rfl ?_
    refine x_getI C0 hE hH (ci := 0) rfl i_LM 3 (by decide) kw_1_78 d_LM_apart_85 h (fun v_19 h => ?_)
    cases h
    rw [hQ]
    exact x_iretT (v := v_19) C0 hr hlocks hH hS hz (by omega) (by omega) d_LM_apart_88
  · cases h
    rw [hQ]
    exact x_throw C0 hlt hE hH hS hz hl hout 2 (by decide +kernel) kw_2_26 kw_1_10 (List.mem_of_getElem? (i := 13) rfl) at1_75_79_2 at2_75_79_2 at3_75_79_2 d_LM_apart_10 d_LM_apart_13 d_LM_apart_14 d_LM_apart_16 d_LM_apart_19 (Nat.le_trans (by decide) hR1) (Nat.le_trans (by decide) hR2) (Nat.le_trans (by omega) hR3) (Nat.le_trans (by omega) hR4) hlocks (by omega) (by omega)
theorem d_LM_place_0 : decode b_LM_place 0 = .ok (.aload_n 0, 1) := by decide +kernel
theorem d_LM_place_1 : decode b_LM_place 1 = .ok (.iload_n 1, 1) := by decide +kernel
theorem d_LM_place_2 : decode b_LM_place 2 = .ok (.invokevirtual 124, 3) := by decide +kernel
theorem d_LM_place_5 : decode b_LM_place 5 = .ok (.astore 4, 2) := by decide +kernel
theorem d_LM_place_7 : decode b_LM_place 7 = .ok (.aload 4, 2) := by decide +kernel
theorem d_LM_place_9 : decode b_LM_place 9 = .ok (.ifnull 12, 3) := by decide +kernel
theorem d_LM_place_12 : decode b_LM_place 12 = .ok (.aload 4, 2) := by decide +kernel
theorem d_LM_place_14 : decode b_LM_place 14 = .ok (.iload_n 2, 1) := by decide +kernel
theorem d_LM_place_15 : decode b_LM_place 15 = .ok (.invokevirtual 130, 3) := by decide +kernel
theorem d_LM_place_18 : decode b_LM_place 18 = .ok (.ifCond .ne 13, 3) := by decide +kernel
theorem d_LM_place_21 : decode b_LM_place 21 = .ok (.new 75, 3) := by decide +kernel
theorem d_LM_place_24 : decode b_LM_place 24 = .ok (.dup, 1) := by decide +kernel
theorem d_LM_place_25 : decode b_LM_place 25 = .ok (.ldc 133, 2) := by decide +kernel
theorem d_LM_place_27 : decode b_LM_place 27 = .ok (.invokespecial 79, 3) := by decide +kernel
theorem d_LM_place_30 : decode b_LM_place 30 = .ok (.athrow, 1) := by decide +kernel
theorem d_LM_place_31 : decode b_LM_place 31 = .ok (.aload 4, 2) := by decide +kernel
theorem d_LM_place_33 : decode b_LM_place 33 = .ok (.invokevirtual 135, 3) := by decide +kernel
theorem d_LM_place_36 : decode b_LM_place 36 = .ok (.aload 4, 2) := by decide +kernel
theorem d_LM_place_38 : decode b_LM_place 38 = .ok (.getfield 138, 3) := by decide +kernel
theorem d_LM_place_41 : decode b_LM_place 41 = .ok (.iload_n 2, 1) := by decide +kernel
theorem d_LM_place_42 : decode b_LM_place 42 = .ok (.aaload, 1) := by decide +kernel
theorem d_LM_place_43 : decode b_LM_place 43 = .ok (.astore 5, 2) := by decide +kernel
theorem d_LM_place_45 : decode b_LM_place 45 = .ok (.iload_n 3, 1) := by decide +kernel
theorem d_LM_place_46 : decode b_LM_place 46 = .ok (.tableswitch 83 0 4 #[34, 43, 57, 71, 77], 34) := by decide +kernel
theorem d_LM_place_80 : decode b_LM_place 80 = .ok (.aload 5, 2) := by decide +kernel
theorem d_LM_place_82 : decode b_LM_place 82 = .ok (.getfield 142, 3) := by decide +kernel
theorem d_LM_place_85 : decode b_LM_place 85 = .ok (.getfield 148, 3) := by decide +kernel
theorem d_LM_place_88 : decode b_LM_place 88 = .ok (.ireturn, 1) := by decide +kernel
theorem d_LM_place_89 : decode b_LM_place 89 = .ok (.aload 5, 2) := by decide +kernel
theorem d_LM_place_91 : decode b_LM_place 91 = .ok (.getfield 151, 3) := by decide +kernel
theorem d_LM_place_94 : decode b_LM_place 94 = .ok (.ifCond .eq 7, 3) := by decide +kernel
theorem d_LM_place_97 : decode b_LM_place 97 = .ok (.iconst 1, 1) := by decide +kernel
theorem d_LM_place_98 : decode b_LM_place 98 = .ok (.goto 4, 3) := by decide +kernel
theorem d_LM_place_101 : decode b_LM_place 101 = .ok (.iconst 0, 1) := by decide +kernel
theorem d_LM_place_102 : decode b_LM_place 102 = .ok (.ireturn, 1) := by decide +kernel
theorem d_LM_place_103 : decode b_LM_place 103 = .ok (.aload 5, 2) := by decide +kernel
theorem d_LM_place_105 : decode b_LM_place 105 = .ok (.getfield 154, 3) := by decide +kernel
theorem d_LM_place_108 : decode b_LM_place 108 = .ok (.ifCond .eq 7, 3) := by decide +kernel
theorem d_LM_place_111 : decode b_LM_place 111 = .ok (.iconst 1, 1) := by decide +kernel
theorem d_LM_place_112 : decode b_LM_place 112 = .ok (.goto 4, 3) := by decide +kernel
theorem d_LM_place_115 : decode b_LM_place 115 = .ok (.iconst 0, 1) := by decide +kernel
theorem d_LM_place_116 : decode b_LM_place 116 = .ok (.ireturn, 1) := by decide +kernel
theorem d_LM_place_117 : decode b_LM_place 117 = .ok (.aload 5, 2) := by decide +kernel
theorem d_LM_place_119 : decode b_LM_place 119 = .ok (.getfield 157, 3) := by decide +kernel
theorem d_LM_place_122 : decode b_LM_place 122 = .ok (.ireturn, 1) := by decide +kernel
theorem d_LM_place_123 : decode b_LM_place 123 = .ok (.aload 5, 2) := by decide +kernel
theorem d_LM_place_125 : decode b_LM_place 125 = .ok (.getfield 160, 3) := by decide +kernel
theorem d_LM_place_128 : decode b_LM_place 128 = .ok (.ireturn, 1) := by decide +kernel
theorem d_LM_place_129 : decode b_LM_place 129 = .ok (.new 55, 3) := by decide +kernel
theorem d_LM_place_132 : decode b_LM_place 132 = .ok (.dup, 1) := by decide +kernel
theorem d_LM_place_133 : decode b_LM_place 133 = .ok (.ldc 163, 2) := by decide +kernel
theorem d_LM_place_135 : decode b_LM_place 135 = .ok (.invokespecial 59, 3) := by decide +kernel
theorem d_LM_place_138 : decode b_LM_place 138 = .ok (.athrow, 1) := by decide +kernel
def f_LM_place (w : Mp) (sz : Nat) (h0 : Nat) (x1 : Int32) (x2 : Int32) (x3 : Int32) : Option ((Int32 ⊕ Nat) × Mp × Nat) := (xo w (some h0) 0).bind fun b_2 => (f_LM_faceOrNull w b_2 x1).bind fun q_1 => if q_1 = none then (some (.inr 2, w, sz + 1)) else ((xo w q_1 3).bind fun b_4 => (f_Face_hasPiece w b_4 x2).bind fun q_3 => if q_3 = 0 then (some (.inr 2, w, sz + 1)) else ((xo w q_1 3).bind fun b_6 => (f_Face_layOut w b_6).bind fun q_5 => (gR q_5.2 q_1 3 1).bind fun v_7 => (aR q_5.2 v_7 3 x2).bind fun v_8 => if x3 = 0 then ((gR q_5.2 v_8 2 0).bind fun v_9 => (gI q_5.2 v_9 1 0).bind fun v_10 => some (.inl v_10, q_5.2, sz)) else (if x3 = 1 then ((gI q_5.2 v_8 2 1).bind fun v_11 => if v_11 = 0 then (some (.inl (0 : Int32), q_5.2, sz)) else (some (.inl (1 : Int32), q_5.2, sz))) else (if x3 = 2 then ((gI q_5.2 v_8 2 2).bind fun v_12 => if v_12 = 0 then (some (.inl (0 : Int32), q_5.2, sz)) else (some (.inl (1 : Int32), q_5.2, sz))) else (if x3 = 3 then ((gI q_5.2 v_8 2 3).bind fun v_13 => some (.inl v_13, q_5.2, sz)) else (if x3 = 4 then ((gI q_5.2 v_8 2 4).bind fun v_14 => some (.inl v_14, q_5.2, sz)) else (some (.inr 1, q_5.2, sz + 1))))))))
set_option maxHeartbeats 4000000 in
set_option maxRecDepth 100000 in
theorem c_LM_place (l : Launch) (G : Gx) (w : Mp) (sz : Nat) (h0 : Nat) (x1 : Int32) (x2 : Int32) (x3 : Int32) (res : (Int32 ⊕ Nat) × Mp × Nat) (hf : f_LM_place w sz h0 x1 x2 x3 = some res) (hlt : l.stackTraces = false) : vx_Met l y_LM_place (xws y_LM_place b_LM_place 6 (some .int)) { frames := 6, cells := 1, slots := 6, locals := 143 } (xPc G vwCl xaty w sz [va_rf (some h0), .int x1, .int x2, .int x3]) (xQT G vwCl (xri res.1) res.2.1 res.2.2) (xXT G vwCl (xri res.1) res.2.1 res.2.2) (1) (6) (xA G) := by
  refine vx_ofW (cc := b_LM_place) (maxL := 6) (ret := (some .int)) (by decide) rfl ?_
  intro p e s m args below meth c s₁ B hml ht hv
  obtain ⟨ha, hE, hH, hz⟩ := hv
  have hout : ∀ x ∈ c.exceptionTable.toList, ∀ q, covers x q = false := fun x hx => (ht x hx).elim
  have C0 : CallFix p m c b_LM_place 6 s args wA R_LM := ⟨B.exec, B.bytes, hml, findClass_of_methodNamed B.named, fun w hw => atoms_spec (ws := xws y_LM_place b_LM_place 6 (some .int)) B.pre w (List.mem_cons_of_mem _ hw)⟩
  have hr := B.returns
  have hlocks := B.notSynchronized
  obtain ⟨R, hR⟩ : ∃ R, R = (headSpec (xws y_LM_place b_LM_place 6 (some .int)) { frames := 6, cells := 1, slots := 6, locals := 143 }).room := ⟨_, rfl⟩
  have hR1 : 6 ≤ R.frames := by rw [hR]; exact Nat.le_of_ble_eq_true rfl
  have hR2 : 143 ≤ R.locals := by rw [hR]; exact Nat.le_of_ble_eq_true rfl
  have hR3 : 1 ≤ R.cells := by rw [hR]; exact Nat.le_refl _
  have hR4 : 6 ≤ R.slots := by rw [hR]; exact Nat.le_refl _
  rw [← hR]
  obtain ⟨Q, hQ⟩ : ∃ Q, Q = vx_MQ below (xQT G vwCl (xri res.1) res.2.1 res.2.2) (xXT G vwCl (xri res.1) res.2.1 res.2.2) args s (1) (6) (xA G) := ⟨_, rfl⟩
  rw [← hQ]
  have hS : xS G s s.heap [] := va_S.rf
  obtain ⟨ls, he, hl⟩ := x_entry m [.inr (.inl (some h0)), .inl x1, .inl x2, .inl x3] 6 (Nat.le_of_ble_eq_true rfl)
  rw [show entryFrame m args 6 = F0 m 0 ls [] by rw [ha]; exact he]
  have hl : xL ls 6 [(0, .inr (.inl (some h0))), (1, .inl x1), (2, .inl x2), (3, .inl x3)] := hl
  have h := hf
  unfold f_LM_place at h
  suffices hmain : ∀ (H : Heap) (locs : List Loc), xhd G vwCl w H → xS G s H locs → H.size = sz → (H = s.heap ∧ locs = []) → W p l e R s m args below meth c H locs 0 0 Q (F0 m 0 ls []) from hmain _ _ hH hS hz ⟨rfl, rfl⟩
  clear hH hS hz
  intro H locs hH hS hz hP0
  refine x_aload_n C0 hl 0 d_LM_place_0 rfl rfl ?_
  refine x_iload_n C0 hl 1 d_LM_place_1 rfl rfl ?_
  obtain ⟨b_2, e9, h⟩ := Option.bind_eq_some_iff.mp h
  obtain ⟨e8, fs9, hb9⟩ := xo_inv e9
  obtain ⟨q_1, e9, h⟩ := Option.bind_eq_some_iff.mp h
  refine x_callP (va_runV (As := [.int x1]) (rest := []) C0 (c_LM_faceOrNull l G w _ b_2 x1 q_1 e9) (x_cwV 1 C0 kw_2_148 kw_2_151 kw_1_1 kw_2_150 kw_0_7 (by decide +kernel) (x_rm hR1 hR2 (Nat.le_of_ble_eq_true rfl) (Nat.le_of_ble_eq_true rfl))) (x_preV hE hH hS (ci := 0) rfl hb9) rfl rfl hl.1 (by rw [e8]; rfl) (lv_room (by first | exact Nat.le_of_ble_eq_true rfl | simp only [List.map_cons, List.map_nil, List.sum_cons, List.sum_nil, va_rf_cat, x_catI, x_catL, x_catA] <;> decide)) d_LM_place_2 (x_le0 (Nat.le_trans (by omega) hR3) (Nat.le_trans (by omega) hR4))) ?_
  refine x_astore (lv' := [(4, .inr (.inl q_1)), (0, .inr (.inl (some h0))), (1, .inl x1), (2, .inl x2), (3, .inl x3)]) C0 hl d_LM_place_5 (by decide) rfl (fun ls hl => ?_)
  refine x_aload C0 hl 0 d_LM_place_7 rfl ?_
  refine x_ifnull C0 21 d_LM_place_9 (by decide) h (fun _ h => ?_) (fun _ _ h => ?_)
  · cases h
    rw [hQ]
    exact x_throw C0 hlt hE hH hS hz hl hout 2 (by decide +kernel) kw_2_26 kw_1_10 (List.mem_of_getElem? (i := 14) rfl) at1_75_79_2 at2_75_79_2 at3_75_79_2 d_LM_place_21 d_LM_place_24 d_LM_place_25 d_LM_place_27 d_LM_place_30 (Nat.le_trans (by decide) hR1) (Nat.le_trans (by decide) hR2) (Nat.le_trans (by omega) hR3) (Nat.le_trans (by omega) hR4) hlocks (by omega) (by omega)
  · refine x_aload C0 hl 0 d_LM_place_12 rfl ?_
    refine x_iload_n C0 hl 3 d_LM_place_14 rfl rfl ?_
    obtain ⟨b_4, e9, h⟩ := Option.bind_eq_some_iff.mp h
    obtain ⟨e8, fs9, hb9⟩ := xo_inv e9
    obtain ⟨q_3, e9, h⟩ := Option.bind_eq_some_iff.mp h
    refine x_callP (va_runV (As := [.int x2]) (rest := []) C0 (c_Face_hasPiece l G w _ b_4 x2 q_3 e9) (x_cwV 1 C0 kw_2_160 kw_2_163 kw_1_11 kw_2_161 kw_2_162 (by decide +kernel) (x_rm hR1 hR2 (Nat.le_of_ble_eq_true rfl) (Nat.le_of_ble_eq_true rfl))) (x_preV hE hH hS (ci := 3) rfl hb9) rfl rfl hl.1 (by rw [e8]; rfl) (lv_room (by first | exact Nat.le_of_ble_eq_true rfl | simp only [List.map_cons, List.map_nil, List.sum_cons, List.sum_nil, va_rf_cat, x_catI, x_catL, x_catA] <;> decide)) d_LM_place_15 (x_le0 (Nat.le_trans (by omega) hR3) (Nat.le_trans (by omega) hR4))) ?_
    refine x_if_ne C0 31 d_LM_place_18 (by decide) h (fun h => ?_) (fun h => ?_)
    · refine x_aload C0 hl 0 d_LM_place_31 rfl ?_
      obtain ⟨b_6, e9, h⟩ := Option.bind_eq_some_iff.mp h
      obtain ⟨e8, fs9, hb9⟩ := xo_inv e9
      obtain ⟨q_5, e9, h⟩ := Option.bind_eq_some_iff.mp h
      refine x_call0 hS (va_runV (As := []) (rest := []) C0 (c_Face_layOut l G w _ b_6 q_5 e9) (x_cwV 0 C0 kw_2_166 kw_2_169 kw_1_11 kw_2_167 kw_2_168 (by decide +kernel) (x_rm hR1 hR2 (Nat.le_of_ble_eq_true rfl) (Nat.le_of_ble_eq_true rfl))) (x_preV hE hH hS (ci := 3) rfl hb9) rfl rfl hl.1 (by rw [e8]; rfl) (lv_room (by first | exact Nat.le_of_ble_eq_true rfl | simp only [List.map_cons, List.map_nil, List.sum_cons, List.sum_nil, va_rf_cat, x_catI, x_catL, x_catA] <;> decide)) d_LM_place_33 (x_le0 (Nat.le_trans (by omega) hR3) (Nat.le_trans (by omega) hR4))) (fun H locs hH hS hz9 => ?_)
      have hz := hz9.trans hz
      refine x_aload C0 hl 0 d_LM_place_36 rfl ?_
      refine x_getR C0 hE hH (ci := 3) rfl i_Face 1 (by decide) kw_2_131 d_LM_place_38 h (fun v_7 h => ?_)
      refine x_iload_n C0 hl 3 d_LM_place_41 rfl rfl ?_
      refine x_aald C0 hE hH (t := 3) rfl d_LM_place_42 h (fun v_8 h => ?_)
      refine x_astore (lv' := [(5, .inr (.inl v_8)), (4, .inr (.inl q_1)), (0, .inr (.inl (some h0))), (1, .inl x1), (2, .inl x2), (3, .inl x3)]) C0 hl d_LM_place_43 (by decide) rfl (fun ls hl => ?_)
      refine x_iload_n C0 hl 5 d_LM_place_45 rfl rfl ?_
      by_cases z : x3 = 0
      · rw [if_pos z] at h
        refine lv_tableIn (tgt := 80) C0.1 C0.2.1 d_LM_place_46 (by rw [z]; decide) (by rw [z]; decide) (by rw [z]; rfl) (by decide) ?_
        refine x_aload C0 hl 0 d_LM_place_80 rfl ?_
        refine x_getR C0 hE hH (ci := 2) rfl i_Piece 0 (by decide) kw_2_106 d_LM_place_82 h (fun v_9 h => ?_)
        refine x_getI C0 hE hH (ci := 1) rfl i_Leaf 0 (by decide) kw_1_210 d_LM_place_85 h (fun v_10 h => ?_)
        cases h
        rw [hQ]
        exact x_iretT (v := v_10) C0 hr hlocks hH hS hz (by omega) (by omega) d_LM_place_88
      rw [if_neg z] at h
      have z0 := lv_neT z (a := 0) (by decide)
      by_cases z : x3 = 1
      · rw [if_pos z] at h
        refine lv_tableIn (tgt := 89) C0.1 C0.2.1 d_LM_place_46 (by rw [z]; decide) (by rw [z]; decide) (by rw [z]; rfl) (by decide) ?_
        refine x_aload C0 hl 0 d_LM_place_89 rfl ?_
        refine x_getI C0 hE hH (ci := 2) rfl i_Piece 1 (by decide) kw_2_108 d_LM_place_91 h (fun v_11 h => ?_)
        refine x_if_eq C0 101 d_LM_place_94 (by decide) h (fun h => ?_) (fun h => ?_)
        · refine lv_iconst (v := 0) C0.1 C0.2.1 d_LM_place_101 (by decide) ?_
          cases h
          rw [hQ]
          exact x_iretT (v := (0 : Int32)) C0 hr hlocks hH hS hz (by omega) (by omega) d_LM_place_102
        · refine lv_iconst (v := 1) C0.1 C0.2.1 d_LM_place_97 (by decide) ?_
          refine x_goto C0 102 d_LM_place_98 (by decide) ?_
          cases h
          rw [hQ]
          exact x_iretT (v := (1 : Int32)) C0 hr hlocks hH hS hz (by omega) (by omega) d_LM_place_102
      rw [if_neg z] at h
      have z1 := lv_neT z (a := 1) (by decide)
      by_cases z : x3 = 2
      · rw [if_pos z] at h
        refine lv_tableIn (tgt := 103) C0.1 C0.2.1 d_LM_place_46 (by rw [z]; decide) (by rw [z]; decide) (by rw [z]; rfl) (by decide) ?_
        refine x_aload C0 hl 0 d_LM_place_103 rfl ?_
        refine x_getI C0 hE hH (ci := 2) rfl i_Piece 2 (by decide) kw_2_110 d_LM_place_105 h (fun v_12 h => ?_)
        refine x_if_eq C0 115 d_LM_place_108 (by decide) h (fun h => ?_) (fun h => ?_)
        · refine lv_iconst (v := 0) C0.1 C0.2.1 d_LM_place_115 (by decide) ?_
          cases h
          rw [hQ]
          exact x_iretT (v := (0 : Int32)) C0 hr hlocks hH hS hz (by omega) (by omega) d_LM_place_116
        · refine lv_iconst (v := 1) C0.1 C0.2.1 d_LM_place_111 (by decide) ?_
          refine x_goto C0 116 d_LM_place_112 (by decide) ?_
          cases h
          rw [hQ]
          exact x_iretT (v := (1 : Int32)) C0 hr hlocks hH hS hz (by omega) (by omega) d_LM_place_116
      rw [if_neg z] at h
      have z2 := lv_neT z (a := 2) (by decide)
      by_cases z : x3 = 3
      · rw [if_pos z] at h
        refine lv_tableIn (tgt := 117) C0.1 C0.2.1 d_LM_place_46 (by rw [z]; decide) (by rw [z]; decide) (by rw [z]; rfl) (by decide) ?_
        refine x_aload C0 hl 0 d_LM_place_117 rfl ?_
        refine x_getI C0 hE hH (ci := 2) rfl i_Piece 3 (by decide) kw_2_113 d_LM_place_119 h (fun v_13 h => ?_)
        cases h
        rw [hQ]
        exact x_iretT (v := v_13) C0 hr hlocks hH hS hz (by omega) (by omega) d_LM_place_122
      rw [if_neg z] at h
      have z3 := lv_neT z (a := 3) (by decide)
      by_cases z : x3 = 4
      · rw [if_pos z] at h
        refine lv_tableIn (tgt := 123) C0.1 C0.2.1 d_LM_place_46 (by rw [z]; decide) (by rw [z]; decide) (by rw [z]; rfl) (by decide) ?_
        refine x_aload C0 hl 0 d_LM_place_123 rfl ?_
        refine x_getI C0 hE hH (ci := 2) rfl i_Piece 4 (by decide) kw_2_116 d_LM_place_125 h (fun v_14 h => ?_)
        cases h
        rw [hQ]
        exact x_iretT (v := v_14) C0 hr hlocks hH hS hz (by omega) (by omega) d_LM_place_128
      rw [if_neg z] at h
      have z4 := lv_neT z (a := 4) (by decide)
      refine lv_tableOut (tgt := 129) C0.1 C0.2.1 d_LM_place_46 (by omega) (by decide) ?_
      cases h
      rw [hQ]
      exact x_throw C0 hlt hE hH hS hz hl hout 1 (by decide +kernel) kw_1_187 kw_1_8 (List.mem_of_getElem? (i := 15) rfl) at1_55_59_1 at2_55_59_1 at3_55_59_1 d_LM_place_129 d_LM_place_132 d_LM_place_133 d_LM_place_135 d_LM_place_138 (Nat.le_trans (by decide) hR1) (Nat.le_trans (by decide) hR2) (Nat.le_trans (by omega) hR3) (Nat.le_trans (by omega) hR4) hlocks (by omega) (by omega)
    · cases h
      rw [hQ]
      exact x_throw C0 hlt hE hH hS hz hl hout 2 (by decide +kernel) kw_2_26 kw_1_10 (List.mem_of_getElem? (i := 14) rfl) at1_75_79_2 at2_75_79_2 at3_75_79_2 d_LM_place_21 d_LM_place_24 d_LM_place_25 d_LM_place_27 d_LM_place_30 (Nat.le_trans (by decide) hR1) (Nat.le_trans (by decide) hR2) (Nat.le_trans (by omega) hR3) (Nat.le_trans (by omega) hR4) hlocks (by omega) (by omega)
theorem d_LM_at_0 : decode b_LM_at 0 = .ok (.aload_n 0, 1) := by decide +kernel
theorem d_LM_at_1 : decode b_LM_at 1 = .ok (.iload_n 1, 1) := by decide +kernel
theorem d_LM_at_2 : decode b_LM_at 2 = .ok (.invokevirtual 124, 3) := by decide +kernel
theorem d_LM_at_5 : decode b_LM_at 5 = .ok (.astore 4, 2) := by decide +kernel
theorem d_LM_at_7 : decode b_LM_at 7 = .ok (.aload 4, 2) := by decide +kernel
theorem d_LM_at_9 : decode b_LM_at 9 = .ok (.ifnonnull 13, 3) := by decide +kernel
theorem d_LM_at_12 : decode b_LM_at 12 = .ok (.new 75, 3) := by decide +kernel
theorem d_LM_at_15 : decode b_LM_at 15 = .ok (.dup, 1) := by decide +kernel
theorem d_LM_at_16 : decode b_LM_at 16 = .ok (.ldc 128, 2) := by decide +kernel
theorem d_LM_at_18 : decode b_LM_at 18 = .ok (.invokespecial 79, 3) := by decide +kernel
theorem d_LM_at_21 : decode b_LM_at 21 = .ok (.athrow, 1) := by decide +kernel
theorem d_LM_at_22 : decode b_LM_at 22 = .ok (.aload 4, 2) := by decide +kernel
theorem d_LM_at_24 : decode b_LM_at 24 = .ok (.invokevirtual 135, 3) := by decide +kernel
theorem d_LM_at_27 : decode b_LM_at 27 = .ok (.aload 4, 2) := by decide +kernel
theorem d_LM_at_29 : decode b_LM_at 29 = .ok (.iload_n 2, 1) := by decide +kernel
theorem d_LM_at_30 : decode b_LM_at 30 = .ok (.iload_n 3, 1) := by decide +kernel
theorem d_LM_at_31 : decode b_LM_at 31 = .ok (.invokevirtual 165, 3) := by decide +kernel
theorem d_LM_at_34 : decode b_LM_at 34 = .ok (.ireturn, 1) := by decide +kernel
def f_LM_at (w : Mp) (sz : Nat) (h0 : Nat) (x1 : Int32) (x2 : Int32) (x3 : Int32) : Option ((Int32 ⊕ Nat) × Mp × Nat) := (xo w (some h0) 0).bind fun b_2 => (f_LM_faceOrNull w b_2 x1).bind fun q_1 => if q_1 = none then (some (.inr 2, w, sz + 1)) else ((xo w q_1 3).bind fun b_4 => (f_Face_layOut w b_4).bind fun q_3 => (xo q_3.2 q_1 3).bind fun b_6 => (f_Face_greySeen q_3.2 b_6 x2 x3).bind fun q_5 => some (.inl q_5, q_3.2, sz))
set_option maxHeartbeats 4000000 in
set_option maxRecDepth 100000 in
theorem c_LM_at (l : Launch) (G : Gx) (w : Mp) (sz : Nat) (h0 : Nat) (x1 : Int32) (x2 : Int32) (x3 : Int32) (res : (Int32 ⊕ Nat) × Mp × Nat) (hf : f_LM_at w sz h0 x1 x2 x3 = some res) (hlt : l.stackTraces = false) : vx_Met l y_LM_at (xws y_LM_at b_LM_at 5 (some .int)) { frames := 6, cells := 1, slots := 6, locals := 143 } (xPc G vwCl xaty w sz [va_rf (some h0), .int x1, .int x2, .int x3]) (xQT G vwCl (xri res.1) res.2.1 res.2.2) (xXT G vwCl (xri res.1) res.2.1 res.2.2) (1) (6) (xA G) := by
  refine vx_ofW (cc := b_LM_at) (maxL := 5) (ret := (some .int)) (by decide) rfl ?_
  intro p e s m args below meth c s₁ B hml ht hv
  obtain ⟨ha, hE, hH, hz⟩ := hv
  have hout : ∀ x ∈ c.exceptionTable.toList, ∀ q, covers x q = false := fun x hx => (ht x hx).elim
  have C0 : CallFix p m c b_LM_at 5 s args wA R_LM := ⟨B.exec, B.bytes, hml, findClass_of_methodNamed B.named, fun w hw => atoms_spec (ws := xws y_LM_at b_LM_at 5 (some .int)) B.pre w (List.mem_cons_of_mem _ hw)⟩
  have hr := B.returns
  have hlocks := B.notSynchronized
  obtain ⟨R, hR⟩ : ∃ R, R = (headSpec (xws y_LM_at b_LM_at 5 (some .int)) { frames := 6, cells := 1, slots := 6, locals := 143 }).room := ⟨_, rfl⟩
  have hR1 : 6 ≤ R.frames := by rw [hR]; exact Nat.le_of_ble_eq_true rfl
  have hR2 : 143 ≤ R.locals := by rw [hR]; exact Nat.le_of_ble_eq_true rfl
  have hR3 : 1 ≤ R.cells := by rw [hR]; exact Nat.le_refl _
  have hR4 : 6 ≤ R.slots := by rw [hR]; exact Nat.le_refl _
  rw [← hR]
  obtain ⟨Q, hQ⟩ : ∃ Q, Q = vx_MQ below (xQT G vwCl (xri res.1) res.2.1 res.2.2) (xXT G vwCl (xri res.1) res.2.1 res.2.2) args s (1) (6) (xA G) := ⟨_, rfl⟩
  rw [← hQ]
  have hS : xS G s s.heap [] := va_S.rf
  obtain ⟨ls, he, hl⟩ := x_entry m [.inr (.inl (some h0)), .inl x1, .inl x2, .inl x3] 5 (Nat.le_of_ble_eq_true rfl)
  rw [show entryFrame m args 5 = F0 m 0 ls [] by rw [ha]; exact he]
  have hl : xL ls 5 [(0, .inr (.inl (some h0))), (1, .inl x1), (2, .inl x2), (3, .inl x3)] := hl
  have h := hf
  unfold f_LM_at at h
  suffices hmain : ∀ (H : Heap) (locs : List Loc), xhd G vwCl w H → xS G s H locs → H.size = sz → (H = s.heap ∧ locs = []) → W p l e R s m args below meth c H locs 0 0 Q (F0 m 0 ls []) from hmain _ _ hH hS hz ⟨rfl, rfl⟩
  clear hH hS hz
  intro H locs hH hS hz hP0
  refine x_aload_n C0 hl 0 d_LM_at_0 rfl rfl ?_
  refine x_iload_n C0 hl 1 d_LM_at_1 rfl rfl ?_
  obtain ⟨b_2, e9, h⟩ := Option.bind_eq_some_iff.mp h
  obtain ⟨e8, fs9, hb9⟩ := xo_inv e9
  obtain ⟨q_1, e9, h⟩ := Option.bind_eq_some_iff.mp h
  refine x_callP (va_runV (As := [.int x1]) (rest := []) C0 (c_LM_faceOrNull l G w _ b_2 x1 q_1 e9) (x_cwV 1 C0 kw_2_148 kw_2_151 kw_1_1 kw_2_150 kw_0_7 (by decide +kernel) (x_rm hR1 hR2 (Nat.le_of_ble_eq_true rfl) (Nat.le_of_ble_eq_true rfl))) (x_preV hE hH hS (ci := 0) rfl hb9) rfl rfl hl.1 (by rw [e8]; rfl) (lv_room (by first | exact Nat.le_of_ble_eq_true rfl | simp only [List.map_cons, List.map_nil, List.sum_cons, List.sum_nil, va_rf_cat, x_catI, x_catL, x_catA] <;> decide)) d_LM_at_2 (x_le0 (Nat.le_trans (by omega) hR3) (Nat.le_trans (by omega) hR4))) ?_
  refine x_astore (lv' := [(4, .inr (.inl q_1)), (0, .inr (.inl (some h0))), (1, .inl x1), (2, .inl x2), (3, .inl x3)]) C0 hl d_LM_at_5 (by decide) rfl (fun ls hl => ?_)
  refine x_aload C0 hl 0 d_LM_at_7 rfl ?_
  refine x_ifnonnull C0 22 d_LM_at_9 (by decide) h (fun _ _ h => ?_) (fun _ h => ?_)
  · refine x_aload C0 hl 0 d_LM_at_22 rfl ?_
    obtain ⟨b_4, e9, h⟩ := Option.bind_eq_some_iff.mp h
    obtain ⟨e8, fs9, hb9⟩ := xo_inv e9
    obtain ⟨q_3, e9, h⟩ := Option.bind_eq_some_iff.mp h
    refine x_call0 hS (va_runV (As := []) (rest := []) C0 (c_Face_layOut l G w _ b_4 q_3 e9) (x_cwV 0 C0 kw_2_166 kw_2_169 kw_1_11 kw_2_167 kw_2_168 (by decide +kernel) (x_rm hR1 hR2 (Nat.le_of_ble_eq_true rfl) (Nat.le_of_ble_eq_true rfl))) (x_preV hE hH hS (ci := 3) rfl hb9) rfl rfl hl.1 (by rw [e8]; rfl) (lv_room (by first | exact Nat.le_of_ble_eq_true rfl | simp only [List.map_cons, List.map_nil, List.sum_cons, List.sum_nil, va_rf_cat, x_catI, x_catL, x_catA] <;> decide)) d_LM_at_24 (x_le0 (Nat.le_trans (by omega) hR3) (Nat.le_trans (by omega) hR4))) (fun H locs hH hS hz9 => ?_)
    have hz := hz9.trans hz
    refine x_aload C0 hl 0 d_LM_at_27 rfl ?_
    refine x_iload_n C0 hl 3 d_LM_at_29 rfl rfl ?_
    refine x_iload_n C0 hl 4 d_LM_at_30 rfl rfl ?_
    obtain ⟨b_6, e9, h⟩ := Option.bind_eq_some_iff.mp h
    obtain ⟨e8, fs9, hb9⟩ := xo_inv e9
    obtain ⟨q_5, e9, h⟩ := Option.bind_eq_some_iff.mp h
    refine x_callP (va_runV (As := [.int x2, .int x3]) (rest := []) C0 (c_Face_greySeen l G q_3.2 _ b_6 x2 x3 q_5 e9) (x_cwV 2 C0 kw_2_208 kw_2_211 kw_1_11 kw_2_209 kw_2_210 (by decide +kernel) (x_rm hR1 hR2 (Nat.le_of_ble_eq_true rfl) (Nat.le_of_ble_eq_true rfl))) (x_preV hE hH hS (ci := 3) rfl hb9) rfl rfl hl.1 (by rw [e8]; rfl) (lv_room (by first | exact Nat.le_of_ble_eq_true rfl | simp only [List.map_cons, List.map_nil, List.sum_cons, List.sum_nil, va_rf_cat, x_catI, x_catL, x_catA] <;> decide)) d_LM_at_31 (x_le0 (Nat.le_trans (by omega) hR3) (Nat.le_trans (by omega) hR4))) ?_
    cases h
    rw [hQ]
    exact x_iretT (v := q_5) C0 hr hlocks hH hS hz (by omega) (by omega) d_LM_at_34
  · cases h
    rw [hQ]
    exact x_throw C0 hlt hE hH hS hz hl hout 2 (by decide +kernel) kw_2_26 kw_1_10 (List.mem_of_getElem? (i := 13) rfl) at1_75_79_2 at2_75_79_2 at3_75_79_2 d_LM_at_12 d_LM_at_15 d_LM_at_16 d_LM_at_18 d_LM_at_21 (Nat.le_trans (by decide) hR1) (Nat.le_trans (by decide) hR2) (Nat.le_trans (by omega) hR3) (Nat.le_trans (by omega) hR4) hlocks (by omega) (by omega)
theorem d_LM_about_0 : decode b_LM_about 0 = .ok (.aload_n 0, 1) := by decide +kernel
theorem d_LM_about_1 : decode b_LM_about 1 = .ok (.iload_n 1, 1) := by decide +kernel
theorem d_LM_about_2 : decode b_LM_about 2 = .ok (.invokevirtual 124, 3) := by decide +kernel
theorem d_LM_about_5 : decode b_LM_about 5 = .ok (.astore_n 3, 1) := by decide +kernel
theorem d_LM_about_6 : decode b_LM_about 6 = .ok (.aload_n 3, 1) := by decide +kernel
theorem d_LM_about_7 : decode b_LM_about 7 = .ok (.ifnonnull 13, 3) := by decide +kernel
theorem d_LM_about_10 : decode b_LM_about 10 = .ok (.new 75, 3) := by decide +kernel
theorem d_LM_about_13 : decode b_LM_about 13 = .ok (.dup, 1) := by decide +kernel
theorem d_LM_about_14 : decode b_LM_about 14 = .ok (.ldc 128, 2) := by decide +kernel
theorem d_LM_about_16 : decode b_LM_about 16 = .ok (.invokespecial 79, 3) := by decide +kernel
theorem d_LM_about_19 : decode b_LM_about 19 = .ok (.athrow, 1) := by decide +kernel
theorem d_LM_about_20 : decode b_LM_about 20 = .ok (.aload_n 3, 1) := by decide +kernel
theorem d_LM_about_21 : decode b_LM_about 21 = .ok (.invokevirtual 135, 3) := by decide +kernel
theorem d_LM_about_24 : decode b_LM_about 24 = .ok (.iload_n 2, 1) := by decide +kernel
theorem d_LM_about_25 : decode b_LM_about 25 = .ok (.tableswitch 57 0 3 #[31, 36, 46, 52], 31) := by decide +kernel
theorem d_LM_about_56 : decode b_LM_about 56 = .ok (.aload_n 3, 1) := by decide +kernel
theorem d_LM_about_57 : decode b_LM_about 57 = .ok (.invokevirtual 169, 3) := by decide +kernel
theorem d_LM_about_60 : decode b_LM_about 60 = .ok (.ireturn, 1) := by decide +kernel
theorem d_LM_about_61 : decode b_LM_about 61 = .ok (.aload_n 3, 1) := by decide +kernel
theorem d_LM_about_62 : decode b_LM_about 62 = .ok (.invokevirtual 173, 3) := by decide +kernel
theorem d_LM_about_65 : decode b_LM_about 65 = .ok (.aload_n 3, 1) := by decide +kernel
theorem d_LM_about_66 : decode b_LM_about 66 = .ok (.invokevirtual 176, 3) := by decide +kernel
theorem d_LM_about_69 : decode b_LM_about 69 = .ok (.isub, 1) := by decide +kernel
theorem d_LM_about_70 : decode b_LM_about 70 = .ok (.ireturn, 1) := by decide +kernel
theorem d_LM_about_71 : decode b_LM_about 71 = .ok (.aload_n 3, 1) := by decide +kernel
theorem d_LM_about_72 : decode b_LM_about 72 = .ok (.getfield 138, 3) := by decide +kernel
theorem d_LM_about_75 : decode b_LM_about 75 = .ok (.arraylength, 1) := by decide +kernel
theorem d_LM_about_76 : decode b_LM_about 76 = .ok (.ireturn, 1) := by decide +kernel
theorem d_LM_about_77 : decode b_LM_about 77 = .ok (.aload_n 3, 1) := by decide +kernel
theorem d_LM_about_78 : decode b_LM_about 78 = .ok (.getfield 179, 3) := by decide +kernel
theorem d_LM_about_81 : decode b_LM_about 81 = .ok (.ireturn, 1) := by decide +kernel
theorem d_LM_about_82 : decode b_LM_about 82 = .ok (.new 55, 3) := by decide +kernel
theorem d_LM_about_85 : decode b_LM_about 85 = .ok (.dup, 1) := by decide +kernel
theorem d_LM_about_86 : decode b_LM_about 86 = .ok (.ldc 182, 2) := by decide +kernel
theorem d_LM_about_88 : decode b_LM_about 88 = .ok (.invokespecial 59, 3) := by decide +kernel
theorem d_LM_about_91 : decode b_LM_about 91 = .ok (.athrow, 1) := by decide +kernel
def f_LM_about (w : Mp) (sz : Nat) (h0 : Nat) (x1 : Int32) (x2 : Int32) : Option ((Int32 ⊕ Nat) × Mp × Nat) := (xo w (some h0) 0).bind fun b_2 => (f_LM_faceOrNull w b_2 x1).bind fun q_1 => if q_1 = none then (some (.inr 2, w, sz + 1)) else ((xo w q_1 3).bind fun b_4 => (f_Face_layOut w b_4).bind fun q_3 => if x2 = 0 then ((xo q_3.2 q_1 3).bind fun b_6 => (f_Face_sizeAcross q_3.2 b_6).bind fun q_5 => some (.inl q_5, q_3.2, sz)) else (if x2 = 1 then ((xo q_3.2 q_1 3).bind fun b_8 => (f_Face_greatestBottom q_3.2 b_8).bind fun q_7 => (xo q_3.2 q_1 3).bind fun b_10 => (f_Face_leastTop q_3.2 b_10).bind fun q_9 => some (.inl (q_7 - q_9), q_3.2, sz)) else (if x2 = 2 then ((gR q_3.2 q_1 3 1).bind fun v_11 => (aL q_3.2 v_11 3).bind fun v_12 => some (.inl v_12, q_3.2, sz)) else (if x2 = 3 then ((gI q_3.2 q_1 3 0).bind fun v_13 => some (.inl v_13, q_3.2, sz)) else (some (.inr 1, q_3.2, sz + 1))))))
set_option maxHeartbeats 4000000 in
set_option maxRecDepth 100000 in
theorem c_LM_about (l : Launch) (G : Gx) (w : Mp) (sz : Nat) (h0 : Nat) (x1 : Int32) (x2 : Int32) (res : (Int32 ⊕ Nat) × Mp × Nat) (hf : f_LM_about w sz h0 x1 x2 = some res) (hlt : l.stackTraces = false) : vx_Met l y_LM_about (xws y_LM_about b_LM_about 4 (some .int)) { frames := 6, cells := 1, slots := 6, locals := 143 } (xPc G vwCl xaty w sz [va_rf (some h0), .int x1, .int x2]) (xQT G vwCl (xri res.1) res.2.1 res.2.2) (xXT G vwCl (xri res.1) res.2.1 res.2.2) (1) (6) (xA G) := by
  refine vx_ofW (cc := b_LM_about) (maxL := 4) (ret := (some .int)) (by decide) rfl ?_
  intro p e s m args below meth c s₁ B hml ht hv
  obtain ⟨ha, hE, hH, hz⟩ := hv
  have hout : ∀ x ∈ c.exceptionTable.toList, ∀ q, covers x q = false := fun x hx => (ht x hx).elim
  have C0 : CallFix p m c b_LM_about 4 s args wA R_LM := ⟨B.exec, B.bytes, hml, findClass_of_methodNamed B.named, fun w hw => atoms_spec (ws := xws y_LM_about b_LM_about 4 (some .int)) B.pre w (List.mem_cons_of_mem _ hw)⟩
  have hr := B.returns
  have hlocks := B.notSynchronized
  obtain ⟨R, hR⟩ : ∃ R, R = (headSpec (xws y_LM_about b_LM_about 4 (some .int)) { frames := 6, cells := 1, slots := 6, locals := 143 }).room := ⟨_, rfl⟩
  have hR1 : 6 ≤ R.frames := by rw [hR]; exact Nat.le_of_ble_eq_true rfl
  have hR2 : 143 ≤ R.locals := by rw [hR]; exact Nat.le_of_ble_eq_true rfl
  have hR3 : 1 ≤ R.cells := by rw [hR]; exact Nat.le_refl _
  have hR4 : 6 ≤ R.slots := by rw [hR]; exact Nat.le_refl _
  rw [← hR]
  obtain ⟨Q, hQ⟩ : ∃ Q, Q = vx_MQ below (xQT G vwCl (xri res.1) res.2.1 res.2.2) (xXT G vwCl (xri res.1) res.2.1 res.2.2) args s (1) (6) (xA G) := ⟨_, rfl⟩
  rw [← hQ]
  have hS : xS G s s.heap [] := va_S.rf
  obtain ⟨ls, he, hl⟩ := x_entry m [.inr (.inl (some h0)), .inl x1, .inl x2] 4 (Nat.le_of_ble_eq_true rfl)
  rw [show entryFrame m args 4 = F0 m 0 ls [] by rw [ha]; exact he]
  have hl : xL ls 4 [(0, .inr (.inl (some h0))), (1, .inl x1), (2, .inl x2)] := hl
  have h := hf
  unfold f_LM_about at h
  suffices hmain : ∀ (H : Heap) (locs : List Loc), xhd G vwCl w H → xS G s H locs → H.size = sz → (H = s.heap ∧ locs = []) → W p l e R s m args below meth c H locs 0 0 Q (F0 m 0 ls []) from hmain _ _ hH hS hz ⟨rfl, rfl⟩
  clear hH hS hz
  intro H locs hH hS hz hP0
  refine x_aload_n C0 hl 0 d_LM_about_0 rfl rfl ?_
  refine x_iload_n C0 hl 1 d_LM_about_1 rfl rfl ?_
  obtain ⟨b_2, e9, h⟩ := Option.bind_eq_some_iff.mp h
  obtain ⟨e8, fs9, hb9⟩ := xo_inv e9
  obtain ⟨q_1, e9, h⟩ := Option.bind_eq_some_iff.mp h
  refine x_callP (va_runV (As := [.int x1]) (rest := []) C0 (c_LM_faceOrNull l G w _ b_2 x1 q_1 e9) (x_cwV 1 C0 kw_2_148 kw_2_151 kw_1_1 kw_2_150 kw_0_7 (by decide +kernel) (x_rm hR1 hR2 (Nat.le_of_ble_eq_true rfl) (Nat.le_of_ble_eq_true rfl))) (x_preV hE hH hS (ci := 0) rfl hb9) rfl rfl hl.1 (by rw [e8]; rfl) (lv_room (by first | exact Nat.le_of_ble_eq_true rfl | simp only [List.map_cons, List.map_nil, List.sum_cons, List.sum_nil, va_rf_cat, x_catI, x_catL, x_catA] <;> decide)) d_LM_about_2 (x_le0 (Nat.le_trans (by omega) hR3) (Nat.le_trans (by omega) hR4))) ?_
  refine x_astore_n (lv' := [(3, .inr (.inl q_1)), (0, .inr (.inl (some h0))), (1, .inl x1), (2, .inl x2)]) C0 hl d_LM_about_5 rfl (by decide) rfl (fun ls hl => ?_)
  refine x_aload_n C0 hl 0 d_LM_about_6 rfl rfl ?_
  refine x_ifnonnull C0 20 d_LM_about_7 (by decide) h (fun _ _ h => ?_) (fun _ h => ?_)
  · refine x_aload_n C0 hl 0 d_LM_about_20 rfl rfl ?_
    obtain ⟨b_4, e9, h⟩ := Option.bind_eq_some_iff.mp h
    obtain ⟨e8, fs9, hb9⟩ := xo_inv e9
    obtain ⟨q_3, e9, h⟩ := Option.bind_eq_some_iff.mp h
    refine x_call0 hS (va_runV (As := []) (rest := []) C0 (c_Face_layOut l G w _ b_4 q_3 e9) (x_cwV 0 C0 kw_2_166 kw_2_169 kw_1_11 kw_2_167 kw_2_168 (by decide +kernel) (x_rm hR1 hR2 (Nat.le_of_ble_eq_true rfl) (Nat.le_of_ble_eq_true rfl))) (x_preV hE hH hS (ci := 3) rfl hb9) rfl rfl hl.1 (by rw [e8]; rfl) (lv_room (by first | exact Nat.le_of_ble_eq_true rfl | simp only [List.map_cons, List.map_nil, List.sum_cons, List.sum_nil, va_rf_cat, x_catI, x_catL, x_catA] <;> decide)) d_LM_about_21 (x_le0 (Nat.le_trans (by omega) hR3) (Nat.le_trans (by omega) hR4))) (fun H locs hH hS hz9 => ?_)
    have hz := hz9.trans hz
    refine x_iload_n C0 hl 3 d_LM_about_24 rfl rfl ?_
    by_cases z : x2 = 0
    · rw [if_pos z] at h
      refine lv_tableIn (tgt := 56) C0.1 C0.2.1 d_LM_about_25 (by rw [z]; decide) (by rw [z]; decide) (by rw [z]; rfl) (by decide) ?_
      refine x_aload_n C0 hl 0 d_LM_about_56 rfl rfl ?_
      obtain ⟨b_6, e9, h⟩ := Option.bind_eq_some_iff.mp h
      obtain ⟨e8, fs9, hb9⟩ := xo_inv e9
      obtain ⟨q_5, e9, h⟩ := Option.bind_eq_some_iff.mp h
      refine x_callP (va_runV (As := []) (rest := []) C0 (c_Face_sizeAcross l G q_3.2 _ b_6 q_5 e9) (x_cwV 0 C0 kw_2_226 kw_2_229 kw_1_11 kw_2_227 kw_2_228 (by decide +kernel) (x_rm hR1 hR2 (Nat.le_of_ble_eq_true rfl) (Nat.le_of_ble_eq_true rfl))) (x_preV hE hH hS (ci := 3) rfl hb9) rfl rfl hl.1 (by rw [e8]; rfl) (lv_room (by first | exact Nat.le_of_ble_eq_true rfl | simp only [List.map_cons, List.map_nil, List.sum_cons, List.sum_nil, va_rf_cat, x_catI, x_catL, x_catA] <;> decide)) d_LM_about_57 (x_le0 (Nat.le_trans (by omega) hR3) (Nat.le_trans (by omega) hR4))) ?_
      cases h
      rw [hQ]
      exact x_iretT (v := q_5) C0 hr hlocks hH hS hz (by omega) (by omega) d_LM_about_60
    rw [if_neg z] at h
    have z0 := lv_neT z (a := 0) (by decide)
    by_cases z : x2 = 1
    · rw [if_pos z] at h
      refine lv_tableIn (tgt := 61) C0.1 C0.2.1 d_LM_about_25 (by rw [z]; decide) (by rw [z]; decide) (by rw [z]; rfl) (by decide) ?_
      refine x_aload_n C0 hl 0 d_LM_about_61 rfl rfl ?_
      obtain ⟨b_8, e9, h⟩ := Option.bind_eq_some_iff.mp h
      obtain ⟨e8, fs9, hb9⟩ := xo_inv e9
      obtain ⟨q_7, e9, h⟩ := Option.bind_eq_some_iff.mp h
      refine x_callP (va_runV (As := []) (rest := []) C0 (c_Face_greatestBottom l G q_3.2 _ b_8 q_7 e9) (x_cwV 0 C0 kw_2_233 kw_2_236 kw_1_11 kw_2_234 kw_2_235 (by decide +kernel) (x_rm hR1 hR2 (Nat.le_of_ble_eq_true rfl) (Nat.le_of_ble_eq_true rfl))) (x_preV hE hH hS (ci := 3) rfl hb9) rfl rfl hl.1 (by rw [e8]; rfl) (lv_room (by first | exact Nat.le_of_ble_eq_true rfl | simp only [List.map_cons, List.map_nil, List.sum_cons, List.sum_nil, va_rf_cat, x_catI, x_catL, x_catA] <;> decide)) d_LM_about_62 (x_le0 (Nat.le_trans (by omega) hR3) (Nat.le_trans (by omega) hR4))) ?_
      refine x_aload_n C0 hl 0 d_LM_about_65 rfl rfl ?_
      obtain ⟨b_10, e9, h⟩ := Option.bind_eq_some_iff.mp h
      obtain ⟨e8, fs9, hb9⟩ := xo_inv e9
      obtain ⟨q_9, e9, h⟩ := Option.bind_eq_some_iff.mp h
      refine x_callP (va_runV (As := []) (rest := [.int q_7]) C0 (c_Face_leastTop l G q_3.2 _ b_10 q_9 e9) (x_cwV 0 C0 kw_2_237 kw_2_215 kw_1_11 kw_2_213 kw_2_214 (by decide +kernel) (x_rm hR1 hR2 (Nat.le_of_ble_eq_true rfl) (Nat.le_of_ble_eq_true rfl))) (x_preV hE hH hS (ci := 3) rfl hb9) rfl rfl hl.1 (by rw [e8]; rfl) (lv_room (by first | exact Nat.le_of_ble_eq_true rfl | simp only [List.map_cons, List.map_nil, List.sum_cons, List.sum_nil, va_rf_cat, x_catI, x_catL, x_catA] <;> decide)) d_LM_about_66 (x_le0 (Nat.le_trans (by omega) hR3) (Nat.le_trans (by omega) hR4))) ?_
      refine lv_isub C0.1 C0.2.1 d_LM_about_69 ?_
      cases h
      rw [hQ]
      exact x_iretT (v := q_7 - q_9) C0 hr hlocks hH hS hz (by omega) (by omega) d_LM_about_70
    rw [if_neg z] at h
    have z1 := lv_neT z (a := 1) (by decide)
    by_cases z : x2 = 2
    · rw [if_pos z] at h
      refine lv_tableIn (tgt := 71) C0.1 C0.2.1 d_LM_about_25 (by rw [z]; decide) (by rw [z]; decide) (by rw [z]; rfl) (by decide) ?_
      refine x_aload_n C0 hl 0 d_LM_about_71 rfl rfl ?_
      refine x_getR C0 hE hH (ci := 3) rfl i_Face 1 (by decide) kw_2_131 d_LM_about_72 h (fun v_11 h => ?_)
      refine x_alen C0 hE hH (t := 3) rfl d_LM_about_75 h (fun v_12 h => ?_)
      cases h
      rw [hQ]
      exact x_iretT (v := v_12) C0 hr hlocks hH hS hz (by omega) (by omega) d_LM_about_76
    rw [if_neg z] at h
    have z2 := lv_neT z (a := 2) (by decide)
    by_cases z : x2 = 3
    · rw [if_pos z] at h
      refine lv_tableIn (tgt := 77) C0.1 C0.2.1 d_LM_about_25 (by rw [z]; decide) (by rw [z]; decide) (by rw [z]; rfl) (by decide) ?_
      refine x_aload_n C0 hl 0 d_LM_about_77 rfl rfl ?_
      refine x_getI C0 hE hH (ci := 3) rfl i_Face 0 (by decide) kw_2_129 d_LM_about_78 h (fun v_13 h => ?_)
      cases h
      rw [hQ]
      exact x_iretT (v := v_13) C0 hr hlocks hH hS hz (by omega) (by omega) d_LM_about_81
    rw [if_neg z] at h
    have z3 := lv_neT z (a := 3) (by decide)
    refine lv_tableOut (tgt := 82) C0.1 C0.2.1 d_LM_about_25 (by omega) (by decide) ?_
    cases h
    rw [hQ]
    exact x_throw C0 hlt hE hH hS hz hl hout 1 (by decide +kernel) kw_1_187 kw_1_8 (List.mem_of_getElem? (i := 16) rfl) at1_55_59_1 at2_55_59_1 at3_55_59_1 d_LM_about_82 d_LM_about_85 d_LM_about_86 d_LM_about_88 d_LM_about_91 (Nat.le_trans (by decide) hR1) (Nat.le_trans (by decide) hR2) (Nat.le_trans (by omega) hR3) (Nat.le_trans (by omega) hR4) hlocks (by omega) (by omega)
  · cases h
    rw [hQ]
    exact x_throw C0 hlt hE hH hS hz hl hout 2 (by decide +kernel) kw_2_26 kw_1_10 (List.mem_of_getElem? (i := 13) rfl) at1_75_79_2 at2_75_79_2 at3_75_79_2 d_LM_about_10 d_LM_about_13 d_LM_about_14 d_LM_about_16 d_LM_about_19 (Nat.le_trans (by decide) hR1) (Nat.le_trans (by decide) hR2) (Nat.le_trans (by omega) hR3) (Nat.le_trans (by omega) hR4) hlocks (by omega) (by omega)
theorem d_LM_seam_0 : decode b_LM_seam 0 = .ok (.aload_n 0, 1) := by decide +kernel
theorem d_LM_seam_1 : decode b_LM_seam 1 = .ok (.iload_n 1, 1) := by decide +kernel
theorem d_LM_seam_2 : decode b_LM_seam 2 = .ok (.invokevirtual 124, 3) := by decide +kernel
theorem d_LM_seam_5 : decode b_LM_seam 5 = .ok (.astore_n 3, 1) := by decide +kernel
theorem d_LM_seam_6 : decode b_LM_seam 6 = .ok (.aload_n 3, 1) := by decide +kernel
theorem d_LM_seam_7 : decode b_LM_seam 7 = .ok (.ifnull 11, 3) := by decide +kernel
theorem d_LM_seam_10 : decode b_LM_seam 10 = .ok (.aload_n 3, 1) := by decide +kernel
theorem d_LM_seam_11 : decode b_LM_seam 11 = .ok (.iload_n 2, 1) := by decide +kernel
theorem d_LM_seam_12 : decode b_LM_seam 12 = .ok (.invokevirtual 184, 3) := by decide +kernel
theorem d_LM_seam_15 : decode b_LM_seam 15 = .ok (.ifCond .ne 13, 3) := by decide +kernel
theorem d_LM_seam_18 : decode b_LM_seam 18 = .ok (.new 75, 3) := by decide +kernel
theorem d_LM_seam_21 : decode b_LM_seam 21 = .ok (.dup, 1) := by decide +kernel
theorem d_LM_seam_22 : decode b_LM_seam 22 = .ok (.ldc 187, 2) := by decide +kernel
theorem d_LM_seam_24 : decode b_LM_seam 24 = .ok (.invokespecial 79, 3) := by decide +kernel
theorem d_LM_seam_27 : decode b_LM_seam 27 = .ok (.athrow, 1) := by decide +kernel
theorem d_LM_seam_28 : decode b_LM_seam 28 = .ok (.aload_n 3, 1) := by decide +kernel
theorem d_LM_seam_29 : decode b_LM_seam 29 = .ok (.iload_n 2, 1) := by decide +kernel
theorem d_LM_seam_30 : decode b_LM_seam 30 = .ok (.invokevirtual 189, 3) := by decide +kernel
theorem d_LM_seam_33 : decode b_LM_seam 33 = .ok (.ireturn, 1) := by decide +kernel
def f_LM_seam (w : Mp) (sz : Nat) (h0 : Nat) (x1 : Int32) (x2 : Int32) : Option ((Int32 ⊕ Nat) × Mp × Nat) := (xo w (some h0) 0).bind fun b_2 => (f_LM_faceOrNull w b_2 x1).bind fun q_1 => if q_1 = none then (some (.inr 2, w, sz + 1)) else ((xo w q_1 3).bind fun b_4 => (f_Face_hasSeam w b_4 x2).bind fun q_3 => if q_3 = 0 then (some (.inr 2, w, sz + 1)) else ((xo w q_1 3).bind fun b_6 => (f_Face_bestShift w b_6 x2).bind fun q_5 => some (.inl q_5, w, sz)))
set_option maxHeartbeats 4000000 in
set_option maxRecDepth 100000 in
theorem c_LM_seam (l : Launch) (G : Gx) (w : Mp) (sz : Nat) (h0 : Nat) (x1 : Int32) (x2 : Int32) (res : (Int32 ⊕ Nat) × Mp × Nat) (hf : f_LM_seam w sz h0 x1 x2 = some res) (hlt : l.stackTraces = false) : vx_Met l y_LM_seam (xws y_LM_seam b_LM_seam 4 (some .int)) { frames := 6, cells := 1, slots := 6, locals := 122 } (xPc G vwCl xaty w sz [va_rf (some h0), .int x1, .int x2]) (xQT G vwCl (xri res.1) res.2.1 res.2.2) (xXT G vwCl (xri res.1) res.2.1 res.2.2) (1) (6) (xA G) := by
  refine vx_ofW (cc := b_LM_seam) (maxL := 4) (ret := (some .int)) (by decide) rfl ?_
  intro p e s m args below meth c s₁ B hml ht hv
  obtain ⟨ha, hE, hH, hz⟩ := hv
  have hout : ∀ x ∈ c.exceptionTable.toList, ∀ q, covers x q = false := fun x hx => (ht x hx).elim
  have C0 : CallFix p m c b_LM_seam 4 s args wA R_LM := ⟨B.exec, B.bytes, hml, findClass_of_methodNamed B.named, fun w hw => atoms_spec (ws := xws y_LM_seam b_LM_seam 4 (some .int)) B.pre w (List.mem_cons_of_mem _ hw)⟩
  have hr := B.returns
  have hlocks := B.notSynchronized
  obtain ⟨R, hR⟩ : ∃ R, R = (headSpec (xws y_LM_seam b_LM_seam 4 (some .int)) { frames := 6, cells := 1, slots := 6, locals := 122 }).room := ⟨_, rfl⟩
  have hR1 : 6 ≤ R.frames := by rw [hR]; exact Nat.le_of_ble_eq_true rfl
  have hR2 : 122 ≤ R.locals := by rw [hR]; exact Nat.le_of_ble_eq_true rfl
  have hR3 : 1 ≤ R.cells := by rw [hR]; exact Nat.le_refl _
  have hR4 : 6 ≤ R.slots := by rw [hR]; exact Nat.le_refl _
  rw [← hR]
  obtain ⟨Q, hQ⟩ : ∃ Q, Q = vx_MQ below (xQT G vwCl (xri res.1) res.2.1 res.2.2) (xXT G vwCl (xri res.1) res.2.1 res.2.2) args s (1) (6) (xA G) := ⟨_, rfl⟩
  rw [← hQ]
  have hS : xS G s s.heap [] := va_S.rf
  obtain ⟨ls, he, hl⟩ := x_entry m [.inr (.inl (some h0)), .inl x1, .inl x2] 4 (Nat.le_of_ble_eq_true rfl)
  rw [show entryFrame m args 4 = F0 m 0 ls [] by rw [ha]; exact he]
  have hl : xL ls 4 [(0, .inr (.inl (some h0))), (1, .inl x1), (2, .inl x2)] := hl
  have h := hf
  unfold f_LM_seam at h
  suffices hmain : ∀ (H : Heap) (locs : List Loc), xhd G vwCl w H → xS G s H locs → H.size = sz → (H = s.heap ∧ locs = []) → W p l e R s m args below meth c H locs 0 0 Q (F0 m 0 ls []) from hmain _ _ hH hS hz ⟨rfl, rfl⟩
  clear hH hS hz
  intro H locs hH hS hz hP0
  refine x_aload_n C0 hl 0 d_LM_seam_0 rfl rfl ?_
  refine x_iload_n C0 hl 1 d_LM_seam_1 rfl rfl ?_
  obtain ⟨b_2, e9, h⟩ := Option.bind_eq_some_iff.mp h
  obtain ⟨e8, fs9, hb9⟩ := xo_inv e9
  obtain ⟨q_1, e9, h⟩ := Option.bind_eq_some_iff.mp h
  refine x_callP (va_runV (As := [.int x1]) (rest := []) C0 (c_LM_faceOrNull l G w _ b_2 x1 q_1 e9) (x_cwV 1 C0 kw_2_148 kw_2_151 kw_1_1 kw_2_150 kw_0_7 (by decide +kernel) (x_rm hR1 hR2 (Nat.le_of_ble_eq_true rfl) (Nat.le_of_ble_eq_true rfl))) (x_preV hE hH hS (ci := 0) rfl hb9) rfl rfl hl.1 (by rw [e8]; rfl) (lv_room (by first | exact Nat.le_of_ble_eq_true rfl | simp only [List.map_cons, List.map_nil, List.sum_cons, List.sum_nil, va_rf_cat, x_catI, x_catL, x_catA] <;> decide)) d_LM_seam_2 (x_le0 (Nat.le_trans (by omega) hR3) (Nat.le_trans (by omega) hR4))) ?_
  refine x_astore_n (lv' := [(3, .inr (.inl q_1)), (0, .inr (.inl (some h0))), (1, .inl x1), (2, .inl x2)]) C0 hl d_LM_seam_5 rfl (by decide) rfl (fun ls hl => ?_)
  refine x_aload_n C0 hl 0 d_LM_seam_6 rfl rfl ?_
  refine x_ifnull C0 18 d_LM_seam_7 (by decide) h (fun _ h => ?_) (fun _ _ h => ?_)
  · cases h
    rw [hQ]
    exact x_throw C0 hlt hE hH hS hz hl hout 2 (by decide +kernel) kw_2_26 kw_1_10 (List.mem_of_getElem? (i := 17) rfl) at1_75_79_2 at2_75_79_2 at3_75_79_2 d_LM_seam_18 d_LM_seam_21 d_LM_seam_22 d_LM_seam_24 d_LM_seam_27 (Nat.le_trans (by decide) hR1) (Nat.le_trans (by decide) hR2) (Nat.le_trans (by omega) hR3) (Nat.le_trans (by omega) hR4) hlocks (by omega) (by omega)
  · refine x_aload_n C0 hl 0 d_LM_seam_10 rfl rfl ?_
    refine x_iload_n C0 hl 3 d_LM_seam_11 rfl rfl ?_
    obtain ⟨b_4, e9, h⟩ := Option.bind_eq_some_iff.mp h
    obtain ⟨e8, fs9, hb9⟩ := xo_inv e9
    obtain ⟨q_3, e9, h⟩ := Option.bind_eq_some_iff.mp h
    refine x_callP (va_runV (As := [.int x2]) (rest := []) C0 (c_Face_hasSeam l G w _ b_4 x2 q_3 e9) (x_cwV 1 C0 kw_3_6 kw_3_9 kw_1_11 kw_3_7 kw_3_8 (by decide +kernel) (x_rm hR1 hR2 (Nat.le_of_ble_eq_true rfl) (Nat.le_of_ble_eq_true rfl))) (x_preV hE hH hS (ci := 3) rfl hb9) rfl rfl hl.1 (by rw [e8]; rfl) (lv_room (by first | exact Nat.le_of_ble_eq_true rfl | simp only [List.map_cons, List.map_nil, List.sum_cons, List.sum_nil, va_rf_cat, x_catI, x_catL, x_catA] <;> decide)) d_LM_seam_12 (x_le0 (Nat.le_trans (by omega) hR3) (Nat.le_trans (by omega) hR4))) ?_
    refine x_if_ne C0 28 d_LM_seam_15 (by decide) h (fun h => ?_) (fun h => ?_)
    · refine x_aload_n C0 hl 0 d_LM_seam_28 rfl rfl ?_
      refine x_iload_n C0 hl 3 d_LM_seam_29 rfl rfl ?_
      obtain ⟨b_6, e9, h⟩ := Option.bind_eq_some_iff.mp h
      obtain ⟨e8, fs9, hb9⟩ := xo_inv e9
      obtain ⟨q_5, e9, h⟩ := Option.bind_eq_some_iff.mp h
      refine x_callP (va_runV (As := [.int x2]) (rest := []) C0 (c_Face_bestShift l G w _ b_6 x2 q_5 e9) (x_cwV 1 C0 kw_3_11 kw_2_181 kw_1_11 kw_2_179 kw_2_180 (by decide +kernel) (x_rm hR1 hR2 (Nat.le_of_ble_eq_true rfl) (Nat.le_of_ble_eq_true rfl))) (x_preV hE hH hS (ci := 3) rfl hb9) rfl rfl hl.1 (by rw [e8]; rfl) (lv_room (by first | exact Nat.le_of_ble_eq_true rfl | simp only [List.map_cons, List.map_nil, List.sum_cons, List.sum_nil, va_rf_cat, x_catI, x_catL, x_catA] <;> decide)) d_LM_seam_30 (x_le0 (Nat.le_trans (by omega) hR3) (Nat.le_trans (by omega) hR4))) ?_
      cases h
      rw [hQ]
      exact x_iretT (v := q_5) C0 hr hlocks hH hS hz (by omega) (by omega) d_LM_seam_33
    · cases h
      rw [hQ]
      exact x_throw C0 hlt hE hH hS hz hl hout 2 (by decide +kernel) kw_2_26 kw_1_10 (List.mem_of_getElem? (i := 17) rfl) at1_75_79_2 at2_75_79_2 at3_75_79_2 d_LM_seam_18 d_LM_seam_21 d_LM_seam_22 d_LM_seam_24 d_LM_seam_27 (Nat.le_trans (by decide) hR1) (Nat.le_trans (by decide) hR2) (Nat.le_trans (by omega) hR3) (Nat.le_trans (by omega) hR4) hlocks (by omega) (by omega)
theorem d_LM_sum_0 : decode b_LM_sum 0 = .ok (.aload_n 0, 1) := by decide +kernel
theorem d_LM_sum_1 : decode b_LM_sum 1 = .ok (.iload_n 1, 1) := by decide +kernel
theorem d_LM_sum_2 : decode b_LM_sum 2 = .ok (.invokevirtual 124, 3) := by decide +kernel
theorem d_LM_sum_5 : decode b_LM_sum 5 = .ok (.astore 4, 2) := by decide +kernel
theorem d_LM_sum_7 : decode b_LM_sum 7 = .ok (.aload 4, 2) := by decide +kernel
theorem d_LM_sum_9 : decode b_LM_sum 9 = .ok (.ifnull 12, 3) := by decide +kernel
theorem d_LM_sum_12 : decode b_LM_sum 12 = .ok (.aload 4, 2) := by decide +kernel
theorem d_LM_sum_14 : decode b_LM_sum 14 = .ok (.iload_n 2, 1) := by decide +kernel
theorem d_LM_sum_15 : decode b_LM_sum 15 = .ok (.invokevirtual 184, 3) := by decide +kernel
theorem d_LM_sum_18 : decode b_LM_sum 18 = .ok (.ifCond .ne 13, 3) := by decide +kernel
theorem d_LM_sum_21 : decode b_LM_sum 21 = .ok (.new 75, 3) := by decide +kernel
theorem d_LM_sum_24 : decode b_LM_sum 24 = .ok (.dup, 1) := by decide +kernel
theorem d_LM_sum_25 : decode b_LM_sum 25 = .ok (.ldc 187, 2) := by decide +kernel
theorem d_LM_sum_27 : decode b_LM_sum 27 = .ok (.invokespecial 79, 3) := by decide +kernel
theorem d_LM_sum_30 : decode b_LM_sum 30 = .ok (.athrow, 1) := by decide +kernel
theorem d_LM_sum_31 : decode b_LM_sum 31 = .ok (.iload_n 3, 1) := by decide +kernel
theorem d_LM_sum_32 : decode b_LM_sum 32 = .ok (.bipush (-3), 2) := by decide +kernel
theorem d_LM_sum_34 : decode b_LM_sum 34 = .ok (.iconst 3, 1) := by decide +kernel
theorem d_LM_sum_35 : decode b_LM_sum 35 = .ok (.invokestatic 51, 3) := by decide +kernel
theorem d_LM_sum_38 : decode b_LM_sum 38 = .ok (.ifCond .ne 13, 3) := by decide +kernel
theorem d_LM_sum_41 : decode b_LM_sum 41 = .ok (.new 55, 3) := by decide +kernel
theorem d_LM_sum_44 : decode b_LM_sum 44 = .ok (.dup, 1) := by decide +kernel
theorem d_LM_sum_45 : decode b_LM_sum 45 = .ok (.ldc 192, 2) := by decide +kernel
theorem d_LM_sum_47 : decode b_LM_sum 47 = .ok (.invokespecial 59, 3) := by decide +kernel
theorem d_LM_sum_50 : decode b_LM_sum 50 = .ok (.athrow, 1) := by decide +kernel
theorem d_LM_sum_51 : decode b_LM_sum 51 = .ok (.aload 4, 2) := by decide +kernel
theorem d_LM_sum_53 : decode b_LM_sum 53 = .ok (.iload_n 2, 1) := by decide +kernel
theorem d_LM_sum_54 : decode b_LM_sum 54 = .ok (.iload_n 3, 1) := by decide +kernel
theorem d_LM_sum_55 : decode b_LM_sum 55 = .ok (.invokevirtual 194, 3) := by decide +kernel
theorem d_LM_sum_58 : decode b_LM_sum 58 = .ok (.i2l, 1) := by decide +kernel
theorem d_LM_sum_59 : decode b_LM_sum 59 = .ok (.lreturn, 1) := by decide +kernel
def f_LM_sum (w : Mp) (sz : Nat) (h0 : Nat) (x1 : Int32) (x2 : Int32) (x3 : Int32) : Option ((Int64 ⊕ Nat) × Mp × Nat) := (xo w (some h0) 0).bind fun b_2 => (f_LM_faceOrNull w b_2 x1).bind fun q_1 => if q_1 = none then (some (.inr 2, w, sz + 1)) else ((xo w q_1 3).bind fun b_4 => (f_Face_hasSeam w b_4 x2).bind fun q_3 => if q_3 = 0 then (some (.inr 2, w, sz + 1)) else ((f_LM_isWithin w x3 (-3 : Int32) (3 : Int32)).bind fun q_5 => if q_5 = 0 then (some (.inr 1, w, sz + 1)) else ((xo w q_1 3).bind fun b_7 => (f_Face_differenceAt w b_7 x2 x3).bind fun q_6 => some (.inl q_6.toInt64, w, sz))))
set_option maxHeartbeats 4000000 in
set_option maxRecDepth 100000 in
theorem c_LM_sum (l : Launch) (G : Gx) (w : Mp) (sz : Nat) (h0 : Nat) (x1 : Int32) (x2 : Int32) (x3 : Int32) (res : (Int64 ⊕ Nat) × Mp × Nat) (hf : f_LM_sum w sz h0 x1 x2 x3 = some res) (hlt : l.stackTraces = false) : vx_Met l y_LM_sum (xws y_LM_sum b_LM_sum 5 (some .long)) { frames := 6, cells := 1, slots := 6, locals := 97 } (xPc G vwCl xaty w sz [va_rf (some h0), .int x1, .int x2, .int x3]) (xQT G vwCl (xrl res.1) res.2.1 res.2.2) (xXT G vwCl (xrl res.1) res.2.1 res.2.2) (1) (6) (xA G) := by
  refine vx_ofW (cc := b_LM_sum) (maxL := 5) (ret := (some .long)) (by decide) rfl ?_
  intro p e s m args below meth c s₁ B hml ht hv
  obtain ⟨ha, hE, hH, hz⟩ := hv
  have hout : ∀ x ∈ c.exceptionTable.toList, ∀ q, covers x q = false := fun x hx => (ht x hx).elim
  have C0 : CallFix p m c b_LM_sum 5 s args wA R_LM := ⟨B.exec, B.bytes, hml, findClass_of_methodNamed B.named, fun w hw => atoms_spec (ws := xws y_LM_sum b_LM_sum 5 (some .long)) B.pre w (List.mem_cons_of_mem _ hw)⟩
  have hr := B.returns
  have hlocks := B.notSynchronized
  obtain ⟨R, hR⟩ : ∃ R, R = (headSpec (xws y_LM_sum b_LM_sum 5 (some .long)) { frames := 6, cells := 1, slots := 6, locals := 97 }).room := ⟨_, rfl⟩
  have hR1 : 6 ≤ R.frames := by rw [hR]; exact Nat.le_of_ble_eq_true rfl
  have hR2 : 97 ≤ R.locals := by rw [hR]; exact Nat.le_of_ble_eq_true rfl
  have hR3 : 1 ≤ R.cells := by rw [hR]; exact Nat.le_refl _
  have hR4 : 6 ≤ R.slots := by rw [hR]; exact Nat.le_refl _
  rw [← hR]
  obtain ⟨Q, hQ⟩ : ∃ Q, Q = vx_MQ below (xQT G vwCl (xrl res.1) res.2.1 res.2.2) (xXT G vwCl (xrl res.1) res.2.1 res.2.2) args s (1) (6) (xA G) := ⟨_, rfl⟩
  rw [← hQ]
  have hS : xS G s s.heap [] := va_S.rf
  obtain ⟨ls, he, hl⟩ := x_entry m [.inr (.inl (some h0)), .inl x1, .inl x2, .inl x3] 5 (Nat.le_of_ble_eq_true rfl)
  rw [show entryFrame m args 5 = F0 m 0 ls [] by rw [ha]; exact he]
  have hl : xL ls 5 [(0, .inr (.inl (some h0))), (1, .inl x1), (2, .inl x2), (3, .inl x3)] := hl
  have h := hf
  unfold f_LM_sum at h
  suffices hmain : ∀ (H : Heap) (locs : List Loc), xhd G vwCl w H → xS G s H locs → H.size = sz → (H = s.heap ∧ locs = []) → W p l e R s m args below meth c H locs 0 0 Q (F0 m 0 ls []) from hmain _ _ hH hS hz ⟨rfl, rfl⟩
  clear hH hS hz
  intro H locs hH hS hz hP0
  refine x_aload_n C0 hl 0 d_LM_sum_0 rfl rfl ?_
  refine x_iload_n C0 hl 1 d_LM_sum_1 rfl rfl ?_
  obtain ⟨b_2, e9, h⟩ := Option.bind_eq_some_iff.mp h
  obtain ⟨e8, fs9, hb9⟩ := xo_inv e9
  obtain ⟨q_1, e9, h⟩ := Option.bind_eq_some_iff.mp h
  refine x_callP (va_runV (As := [.int x1]) (rest := []) C0 (c_LM_faceOrNull l G w _ b_2 x1 q_1 e9) (x_cwV 1 C0 kw_2_148 kw_2_151 kw_1_1 kw_2_150 kw_0_7 (by decide +kernel) (x_rm hR1 hR2 (Nat.le_of_ble_eq_true rfl) (Nat.le_of_ble_eq_true rfl))) (x_preV hE hH hS (ci := 0) rfl hb9) rfl rfl hl.1 (by rw [e8]; rfl) (lv_room (by first | exact Nat.le_of_ble_eq_true rfl | simp only [List.map_cons, List.map_nil, List.sum_cons, List.sum_nil, va_rf_cat, x_catI, x_catL, x_catA] <;> decide)) d_LM_sum_2 (x_le0 (Nat.le_trans (by omega) hR3) (Nat.le_trans (by omega) hR4))) ?_
  refine x_astore (lv' := [(4, .inr (.inl q_1)), (0, .inr (.inl (some h0))), (1, .inl x1), (2, .inl x2), (3, .inl x3)]) C0 hl d_LM_sum_5 (by decide) rfl (fun ls hl => ?_)
  refine x_aload C0 hl 0 d_LM_sum_7 rfl ?_
  refine x_ifnull C0 21 d_LM_sum_9 (by decide) h (fun _ h => ?_) (fun _ _ h => ?_)
  · cases h
    rw [hQ]
    exact x_throw C0 hlt hE hH hS hz hl hout 2 (by decide +kernel) kw_2_26 kw_1_10 (List.mem_of_getElem? (i := 17) rfl) at1_75_79_2 at2_75_79_2 at3_75_79_2 d_LM_sum_21 d_LM_sum_24 d_LM_sum_25 d_LM_sum_27 d_LM_sum_30 (Nat.le_trans (by decide) hR1) (Nat.le_trans (by decide) hR2) (Nat.le_trans (by omega) hR3) (Nat.le_trans (by omega) hR4) hlocks (by omega) (by omega)
  · refine x_aload C0 hl 0 d_LM_sum_12 rfl ?_
    refine x_iload_n C0 hl 3 d_LM_sum_14 rfl rfl ?_
    obtain ⟨b_4, e9, h⟩ := Option.bind_eq_some_iff.mp h
    obtain ⟨e8, fs9, hb9⟩ := xo_inv e9
    obtain ⟨q_3, e9, h⟩ := Option.bind_eq_some_iff.mp h
    refine x_callP (va_runV (As := [.int x2]) (rest := []) C0 (c_Face_hasSeam l G w _ b_4 x2 q_3 e9) (x_cwV 1 C0 kw_3_6 kw_3_9 kw_1_11 kw_3_7 kw_3_8 (by decide +kernel) (x_rm hR1 hR2 (Nat.le_of_ble_eq_true rfl) (Nat.le_of_ble_eq_true rfl))) (x_preV hE hH hS (ci := 3) rfl hb9) rfl rfl hl.1 (by rw [e8]; rfl) (lv_room (by first | exact Nat.le_of_ble_eq_true rfl | simp only [List.map_cons, List.map_nil, List.sum_cons, List.sum_nil, va_rf_cat, x_catI, x_catL, x_catA] <;> decide)) d_LM_sum_15 (x_le0 (Nat.le_trans (by omega) hR3) (Nat.le_trans (by omega) hR4))) ?_
    refine x_if_ne C0 31 d_LM_sum_18 (by decide) h (fun h => ?_) (fun h => ?_)
    · refine x_iload_n C0 hl 4 d_LM_sum_31 rfl rfl ?_
      refine lv_bipush (v := -3) C0.1 C0.2.1 d_LM_sum_32 (by decide) ?_
      refine lv_iconst (v := 3) C0.1 C0.2.1 d_LM_sum_34 (by decide) ?_
      obtain ⟨q_5, e9, h⟩ := Option.bind_eq_some_iff.mp h
      refine x_callP (va_runS (As := [.int x3, .int (-3 : Int32), .int (3 : Int32)]) (rest := []) C0 (c_LM_isWithin l G w _ x3 (-3 : Int32) (3 : Int32) q_5 e9) (x_cwS 3 C0 kw_1_184 kw_1_186 kw_1_1 kw_1_185 (by decide +kernel) (x_rm hR1 hR2 (Nat.le_of_ble_eq_true rfl) (Nat.le_of_ble_eq_true rfl))) (x_preS hE hH hS) rfl rfl hl.1 rfl (lv_room (by first | exact Nat.le_of_ble_eq_true rfl | simp only [List.map_cons, List.map_nil, List.sum_cons, List.sum_nil, va_rf_cat, x_catI, x_catL, x_catA] <;> decide)) d_LM_sum_35 (x_le0 (Nat.le_trans (by omega) hR3) (Nat.le_trans (by omega) hR4))) ?_
      refine x_if_ne C0 51 d_LM_sum_38 (by decide) h (fun h => ?_) (fun h => ?_)
      · refine x_aload C0 hl 0 d_LM_sum_51 rfl ?_
        refine x_iload_n C0 hl 3 d_LM_sum_53 rfl rfl ?_
        refine x_iload_n C0 hl 4 d_LM_sum_54 rfl rfl ?_
        obtain ⟨b_7, e9, h⟩ := Option.bind_eq_some_iff.mp h
        obtain ⟨e8, fs9, hb9⟩ := xo_inv e9
        obtain ⟨q_6, e9, h⟩ := Option.bind_eq_some_iff.mp h
        refine x_callP (va_runV (As := [.int x2, .int x3]) (rest := []) C0 (c_Face_differenceAt l G w _ b_7 x2 x3 q_6 e9) (x_cwV 2 C0 kw_3_20 kw_2_187 kw_1_11 kw_2_185 kw_2_186 (by decide +kernel) (x_rm hR1 hR2 (Nat.le_of_ble_eq_true rfl) (Nat.le_of_ble_eq_true rfl))) (x_preV hE hH hS (ci := 3) rfl hb9) rfl rfl hl.1 (by rw [e8]; rfl) (lv_room (by first | exact Nat.le_of_ble_eq_true rfl | simp only [List.map_cons, List.map_nil, List.sum_cons, List.sum_nil, va_rf_cat, x_catI, x_catL, x_catA] <;> decide)) d_LM_sum_55 (x_le0 (Nat.le_trans (by omega) hR3) (Nat.le_trans (by omega) hR4))) ?_
        refine lv_i2l C0.1 C0.2.1 d_LM_sum_58 rfl ?_
        cases h
        rw [hQ]
        exact x_lretT (v := q_6.toInt64) C0 hr hlocks hH hS hz (by omega) (by omega) d_LM_sum_59
      · cases h
        rw [hQ]
        exact x_throw C0 hlt hE hH hS hz hl hout 1 (by decide +kernel) kw_1_187 kw_1_8 (List.mem_of_getElem? (i := 18) rfl) at1_55_59_1 at2_55_59_1 at3_55_59_1 d_LM_sum_41 d_LM_sum_44 d_LM_sum_45 d_LM_sum_47 d_LM_sum_50 (Nat.le_trans (by decide) hR1) (Nat.le_trans (by decide) hR2) (Nat.le_trans (by omega) hR3) (Nat.le_trans (by omega) hR4) hlocks (by omega) (by omega)
    · cases h
      rw [hQ]
      exact x_throw C0 hlt hE hH hS hz hl hout 2 (by decide +kernel) kw_2_26 kw_1_10 (List.mem_of_getElem? (i := 17) rfl) at1_75_79_2 at2_75_79_2 at3_75_79_2 d_LM_sum_21 d_LM_sum_24 d_LM_sum_25 d_LM_sum_27 d_LM_sum_30 (Nat.le_trans (by decide) hR1) (Nat.le_trans (by decide) hR2) (Nat.le_trans (by omega) hR3) (Nat.le_trans (by omega) hR4) hlocks (by omega) (by omega)
theorem d_LM_mirrored_0 : decode b_LM_mirrored 0 = .ok (.aload_n 0, 1) := by decide +kernel
theorem d_LM_mirrored_1 : decode b_LM_mirrored 1 = .ok (.iload_n 1, 1) := by decide +kernel
theorem d_LM_mirrored_2 : decode b_LM_mirrored 2 = .ok (.invokevirtual 124, 3) := by decide +kernel
theorem d_LM_mirrored_5 : decode b_LM_mirrored 5 = .ok (.astore_n 3, 1) := by decide +kernel
theorem d_LM_mirrored_6 : decode b_LM_mirrored 6 = .ok (.aload_n 3, 1) := by decide +kernel
theorem d_LM_mirrored_7 : decode b_LM_mirrored 7 = .ok (.ifnull 11, 3) := by decide +kernel
theorem d_LM_mirrored_10 : decode b_LM_mirrored 10 = .ok (.aload_n 3, 1) := by decide +kernel
theorem d_LM_mirrored_11 : decode b_LM_mirrored 11 = .ok (.iload_n 2, 1) := by decide +kernel
theorem d_LM_mirrored_12 : decode b_LM_mirrored 12 = .ok (.invokevirtual 184, 3) := by decide +kernel
theorem d_LM_mirrored_15 : decode b_LM_mirrored 15 = .ok (.ifCond .ne 13, 3) := by decide +kernel
theorem d_LM_mirrored_18 : decode b_LM_mirrored 18 = .ok (.new 75, 3) := by decide +kernel
theorem d_LM_mirrored_21 : decode b_LM_mirrored 21 = .ok (.dup, 1) := by decide +kernel
theorem d_LM_mirrored_22 : decode b_LM_mirrored 22 = .ok (.ldc 187, 2) := by decide +kernel
theorem d_LM_mirrored_24 : decode b_LM_mirrored 24 = .ok (.invokespecial 79, 3) := by decide +kernel
theorem d_LM_mirrored_27 : decode b_LM_mirrored 27 = .ok (.athrow, 1) := by decide +kernel
theorem d_LM_mirrored_28 : decode b_LM_mirrored 28 = .ok (.aload_n 3, 1) := by decide +kernel
theorem d_LM_mirrored_29 : decode b_LM_mirrored 29 = .ok (.iload_n 2, 1) := by decide +kernel
theorem d_LM_mirrored_30 : decode b_LM_mirrored 30 = .ok (.iconst 0, 1) := by decide +kernel
theorem d_LM_mirrored_31 : decode b_LM_mirrored 31 = .ok (.invokevirtual 194, 3) := by decide +kernel
theorem d_LM_mirrored_34 : decode b_LM_mirrored 34 = .ok (.ifCond .ne 7, 3) := by decide +kernel
theorem d_LM_mirrored_37 : decode b_LM_mirrored 37 = .ok (.iconst 1, 1) := by decide +kernel
theorem d_LM_mirrored_38 : decode b_LM_mirrored 38 = .ok (.goto 4, 3) := by decide +kernel
theorem d_LM_mirrored_41 : decode b_LM_mirrored 41 = .ok (.iconst 0, 1) := by decide +kernel
theorem d_LM_mirrored_42 : decode b_LM_mirrored 42 = .ok (.ireturn, 1) := by decide +kernel
def f_LM_mirrored (w : Mp) (sz : Nat) (h0 : Nat) (x1 : Int32) (x2 : Int32) : Option ((Int32 ⊕ Nat) × Mp × Nat) := (xo w (some h0) 0).bind fun b_2 => (f_LM_faceOrNull w b_2 x1).bind fun q_1 => if q_1 = none then (some (.inr 2, w, sz + 1)) else ((xo w q_1 3).bind fun b_4 => (f_Face_hasSeam w b_4 x2).bind fun q_3 => if q_3 = 0 then (some (.inr 2, w, sz + 1)) else ((xo w q_1 3).bind fun b_6 => (f_Face_differenceAt w b_6 x2 (0 : Int32)).bind fun q_5 => if q_5 = 0 then (some (.inl (1 : Int32), w, sz)) else (some (.inl (0 : Int32), w, sz))))
set_option maxHeartbeats 4000000 in
set_option maxRecDepth 100000 in
theorem c_LM_mirrored (l : Launch) (G : Gx) (w : Mp) (sz : Nat) (h0 : Nat) (x1 : Int32) (x2 : Int32) (res : (Int32 ⊕ Nat) × Mp × Nat) (hf : f_LM_mirrored w sz h0 x1 x2 = some res) (hlt : l.stackTraces = false) : vx_Met l y_LM_mirrored (xws y_LM_mirrored b_LM_mirrored 4 (some .boolean)) { frames := 6, cells := 1, slots := 6, locals := 97 } (xPc G vwCl xaty w sz [va_rf (some h0), .int x1, .int x2]) (xQT G vwCl (xri res.1) res.2.1 res.2.2) (xXT G vwCl (xri res.1) res.2.1 res.2.2) (1) (6) (xA G) := by
  refine vx_ofW (cc := b_LM_mirrored) (maxL := 4) (ret := (some .boolean)) (by decide) rfl ?_
  intro p e s m args below meth c s₁ B hml ht hv
  obtain ⟨ha, hE, hH, hz⟩ := hv
  have hout : ∀ x ∈ c.exceptionTable.toList, ∀ q, covers x q = false := fun x hx => (ht x hx).elim
  have C0 : CallFix p m c b_LM_mirrored 4 s args wA R_LM := ⟨B.exec, B.bytes, hml, findClass_of_methodNamed B.named, fun w hw => atoms_spec (ws := xws y_LM_mirrored b_LM_mirrored 4 (some .boolean)) B.pre w (List.mem_cons_of_mem _ hw)⟩
  have hr := B.returns
  have hlocks := B.notSynchronized
  obtain ⟨R, hR⟩ : ∃ R, R = (headSpec (xws y_LM_mirrored b_LM_mirrored 4 (some .boolean)) { frames := 6, cells := 1, slots := 6, locals := 97 }).room := ⟨_, rfl⟩
  have hR1 : 6 ≤ R.frames := by rw [hR]; exact Nat.le_of_ble_eq_true rfl
  have hR2 : 97 ≤ R.locals := by rw [hR]; exact Nat.le_of_ble_eq_true rfl
  have hR3 : 1 ≤ R.cells := by rw [hR]; exact Nat.le_refl _
  have hR4 : 6 ≤ R.slots := by rw [hR]; exact Nat.le_refl _
  rw [← hR]
  obtain ⟨Q, hQ⟩ : ∃ Q, Q = vx_MQ below (xQT G vwCl (xri res.1) res.2.1 res.2.2) (xXT G vwCl (xri res.1) res.2.1 res.2.2) args s (1) (6) (xA G) := ⟨_, rfl⟩
  rw [← hQ]
  have hS : xS G s s.heap [] := va_S.rf
  obtain ⟨ls, he, hl⟩ := x_entry m [.inr (.inl (some h0)), .inl x1, .inl x2] 4 (Nat.le_of_ble_eq_true rfl)
  rw [show entryFrame m args 4 = F0 m 0 ls [] by rw [ha]; exact he]
  have hl : xL ls 4 [(0, .inr (.inl (some h0))), (1, .inl x1), (2, .inl x2)] := hl
  have h := hf
  unfold f_LM_mirrored at h
  suffices hmain : ∀ (H : Heap) (locs : List Loc), xhd G vwCl w H → xS G s H locs → H.size = sz → (H = s.heap ∧ locs = []) → W p l e R s m args below meth c H locs 0 0 Q (F0 m 0 ls []) from hmain _ _ hH hS hz ⟨rfl, rfl⟩
  clear hH hS hz
  intro H locs hH hS hz hP0
  refine x_aload_n C0 hl 0 d_LM_mirrored_0 rfl rfl ?_
  refine x_iload_n C0 hl 1 d_LM_mirrored_1 rfl rfl ?_
  obtain ⟨b_2, e9, h⟩ := Option.bind_eq_some_iff.mp h
  obtain ⟨e8, fs9, hb9⟩ := xo_inv e9
  obtain ⟨q_1, e9, h⟩ := Option.bind_eq_some_iff.mp h
  refine x_callP (va_runV (As := [.int x1]) (rest := []) C0 (c_LM_faceOrNull l G w _ b_2 x1 q_1 e9) (x_cwV 1 C0 kw_2_148 kw_2_151 kw_1_1 kw_2_150 kw_0_7 (by decide +kernel) (x_rm hR1 hR2 (Nat.le_of_ble_eq_true rfl) (Nat.le_of_ble_eq_true rfl))) (x_preV hE hH hS (ci := 0) rfl hb9) rfl rfl hl.1 (by rw [e8]; rfl) (lv_room (by first | exact Nat.le_of_ble_eq_true rfl | simp only [List.map_cons, List.map_nil, List.sum_cons, List.sum_nil, va_rf_cat, x_catI, x_catL, x_catA] <;> decide)) d_LM_mirrored_2 (x_le0 (Nat.le_trans (by omega) hR3) (Nat.le_trans (by omega) hR4))) ?_
  refine x_astore_n (lv' := [(3, .inr (.inl q_1)), (0, .inr (.inl (some h0))), (1, .inl x1), (2, .inl x2)]) C0 hl d_LM_mirrored_5 rfl (by decide) rfl (fun ls hl => ?_)
  refine x_aload_n C0 hl 0 d_LM_mirrored_6 rfl rfl ?_
  refine x_ifnull C0 18 d_LM_mirrored_7 (by decide) h (fun _ h => ?_) (fun _ _ h => ?_)
  · cases h
    rw [hQ]
    exact x_throw C0 hlt hE hH hS hz hl hout 2 (by decide +kernel) kw_2_26 kw_1_10 (List.mem_of_getElem? (i := 17) rfl) at1_75_79_2 at2_75_79_2 at3_75_79_2 d_LM_mirrored_18 d_LM_mirrored_21 d_LM_mirrored_22 d_LM_mirrored_24 d_LM_mirrored_27 (Nat.le_trans (by decide) hR1) (Nat.le_trans (by decide) hR2) (Nat.le_trans (by omega) hR3) (Nat.le_trans (by omega) hR4) hlocks (by omega) (by omega)
  · refine x_aload_n C0 hl 0 d_LM_mirrored_10 rfl rfl ?_
    refine x_iload_n C0 hl 3 d_LM_mirrored_11 rfl rfl ?_
    obtain ⟨b_4, e9, h⟩ := Option.bind_eq_some_iff.mp h
    obtain ⟨e8, fs9, hb9⟩ := xo_inv e9
    obtain ⟨q_3, e9, h⟩ := Option.bind_eq_some_iff.mp h
    refine x_callP (va_runV (As := [.int x2]) (rest := []) C0 (c_Face_hasSeam l G w _ b_4 x2 q_3 e9) (x_cwV 1 C0 kw_3_6 kw_3_9 kw_1_11 kw_3_7 kw_3_8 (by decide +kernel) (x_rm hR1 hR2 (Nat.le_of_ble_eq_true rfl) (Nat.le_of_ble_eq_true rfl))) (x_preV hE hH hS (ci := 3) rfl hb9) rfl rfl hl.1 (by rw [e8]; rfl) (lv_room (by first | exact Nat.le_of_ble_eq_true rfl | simp only [List.map_cons, List.map_nil, List.sum_cons, List.sum_nil, va_rf_cat, x_catI, x_catL, x_catA] <;> decide)) d_LM_mirrored_12 (x_le0 (Nat.le_trans (by omega) hR3) (Nat.le_trans (by omega) hR4))) ?_
    refine x_if_ne C0 28 d_LM_mirrored_15 (by decide) h (fun h => ?_) (fun h => ?_)
    · refine x_aload_n C0 hl 0 d_LM_mirrored_28 rfl rfl ?_
      refine x_iload_n C0 hl 3 d_LM_mirrored_29 rfl rfl ?_
      refine lv_iconst (v := 0) C0.1 C0.2.1 d_LM_mirrored_30 (by decide) ?_
      obtain ⟨b_6, e9, h⟩ := Option.bind_eq_some_iff.mp h
      obtain ⟨e8, fs9, hb9⟩ := xo_inv e9
      obtain ⟨q_5, e9, h⟩ := Option.bind_eq_some_iff.mp h
      refine x_callP (va_runV (As := [.int x2, .int (0 : Int32)]) (rest := []) C0 (c_Face_differenceAt l G w _ b_6 x2 (0 : Int32) q_5 e9) (x_cwV 2 C0 kw_3_20 kw_2_187 kw_1_11 kw_2_185 kw_2_186 (by decide +kernel) (x_rm hR1 hR2 (Nat.le_of_ble_eq_true rfl) (Nat.le_of_ble_eq_true rfl))) (x_preV hE hH hS (ci := 3) rfl hb9) rfl rfl hl.1 (by rw [e8]; rfl) (lv_room (by first | exact Nat.le_of_ble_eq_true rfl | simp only [List.map_cons, List.map_nil, List.sum_cons, List.sum_nil, va_rf_cat, x_catI, x_catL, x_catA] <;> decide)) d_LM_mirrored_31 (x_le0 (Nat.le_trans (by omega) hR3) (Nat.le_trans (by omega) hR4))) ?_
      refine x_if_ne C0 41 d_LM_mirrored_34 (by decide) h (fun h => ?_) (fun h => ?_)
      · refine lv_iconst (v := 0) C0.1 C0.2.1 d_LM_mirrored_41 (by decide) ?_
        cases h
        rw [hQ]
        exact x_zretT (v := (0 : Int32)) C0 hr hlocks hH hS hz (by omega) (by omega) rfl d_LM_mirrored_42
      · refine lv_iconst (v := 1) C0.1 C0.2.1 d_LM_mirrored_37 (by decide) ?_
        refine x_goto C0 42 d_LM_mirrored_38 (by decide) ?_
        cases h
        rw [hQ]
        exact x_zretT (v := (1 : Int32)) C0 hr hlocks hH hS hz (by omega) (by omega) rfl d_LM_mirrored_42
    · cases h
      rw [hQ]
      exact x_throw C0 hlt hE hH hS hz hl hout 2 (by decide +kernel) kw_2_26 kw_1_10 (List.mem_of_getElem? (i := 17) rfl) at1_75_79_2 at2_75_79_2 at3_75_79_2 d_LM_mirrored_18 d_LM_mirrored_21 d_LM_mirrored_22 d_LM_mirrored_24 d_LM_mirrored_27 (Nat.le_trans (by decide) hR1) (Nat.le_trans (by decide) hR2) (Nat.le_trans (by omega) hR3) (Nat.le_trans (by omega) hR4) hlocks (by omega) (by omega)
theorem d_LM_balance_0 : decode b_LM_balance 0 = .ok (.aload_n 0, 1) := by decide +kernel
theorem d_LM_balance_1 : decode b_LM_balance 1 = .ok (.iload_n 1, 1) := by decide +kernel
theorem d_LM_balance_2 : decode b_LM_balance 2 = .ok (.invokevirtual 124, 3) := by decide +kernel
theorem d_LM_balance_5 : decode b_LM_balance 5 = .ok (.astore_n 2, 1) := by decide +kernel
theorem d_LM_balance_6 : decode b_LM_balance 6 = .ok (.aload_n 2, 1) := by decide +kernel
theorem d_LM_balance_7 : decode b_LM_balance 7 = .ok (.ifnonnull 13, 3) := by decide +kernel
theorem d_LM_balance_10 : decode b_LM_balance 10 = .ok (.new 75, 3) := by decide +kernel
theorem d_LM_balance_13 : decode b_LM_balance 13 = .ok (.dup, 1) := by decide +kernel
theorem d_LM_balance_14 : decode b_LM_balance 14 = .ok (.ldc 128, 2) := by decide +kernel
theorem d_LM_balance_16 : decode b_LM_balance 16 = .ok (.invokespecial 79, 3) := by decide +kernel
theorem d_LM_balance_19 : decode b_LM_balance 19 = .ok (.athrow, 1) := by decide +kernel
theorem d_LM_balance_20 : decode b_LM_balance 20 = .ok (.aload_n 2, 1) := by decide +kernel
theorem d_LM_balance_21 : decode b_LM_balance 21 = .ok (.invokevirtual 135, 3) := by decide +kernel
theorem d_LM_balance_24 : decode b_LM_balance 24 = .ok (.aload_n 2, 1) := by decide +kernel
theorem d_LM_balance_25 : decode b_LM_balance 25 = .ok (.invokevirtual 197, 3) := by decide +kernel
theorem d_LM_balance_28 : decode b_LM_balance 28 = .ok (.ireturn, 1) := by decide +kernel
def f_LM_balance (w : Mp) (sz : Nat) (h0 : Nat) (x1 : Int32) : Option ((Int32 ⊕ Nat) × Mp × Nat) := (xo w (some h0) 0).bind fun b_2 => (f_LM_faceOrNull w b_2 x1).bind fun q_1 => if q_1 = none then (some (.inr 2, w, sz + 1)) else ((xo w q_1 3).bind fun b_4 => (f_Face_layOut w b_4).bind fun q_3 => (xo q_3.2 q_1 3).bind fun b_6 => (f_Face_isBalanced q_3.2 b_6).bind fun q_5 => if vp_nar .boolean q_5 = q_5 then some (.inl q_5, q_3.2, sz) else none)
set_option maxHeartbeats 4000000 in
set_option maxRecDepth 100000 in
theorem c_LM_balance (l : Launch) (G : Gx) (w : Mp) (sz : Nat) (h0 : Nat) (x1 : Int32) (res : (Int32 ⊕ Nat) × Mp × Nat) (hf : f_LM_balance w sz h0 x1 = some res) (hlt : l.stackTraces = false) : vx_Met l y_LM_balance (xws y_LM_balance b_LM_balance 3 (some .boolean)) { frames := 6, cells := 1, slots := 6, locals := 143 } (xPc G vwCl xaty w sz [va_rf (some h0), .int x1]) (xQT G vwCl (xri res.1) res.2.1 res.2.2) (xXT G vwCl (xri res.1) res.2.1 res.2.2) (1) (6) (xA G) := by
  refine vx_ofW (cc := b_LM_balance) (maxL := 3) (ret := (some .boolean)) (by decide) rfl ?_
  intro p e s m args below meth c s₁ B hml ht hv
  obtain ⟨ha, hE, hH, hz⟩ := hv
  have hout : ∀ x ∈ c.exceptionTable.toList, ∀ q, covers x q = false := fun x hx => (ht x hx).elim
  have C0 : CallFix p m c b_LM_balance 3 s args wA R_LM := ⟨B.exec, B.bytes, hml, findClass_of_methodNamed B.named, fun w hw => atoms_spec (ws := xws y_LM_balance b_LM_balance 3 (some .boolean)) B.pre w (List.mem_cons_of_mem _ hw)⟩
  have hr := B.returns
  have hlocks := B.notSynchronized
  obtain ⟨R, hR⟩ : ∃ R, R = (headSpec (xws y_LM_balance b_LM_balance 3 (some .boolean)) { frames := 6, cells := 1, slots := 6, locals := 143 }).room := ⟨_, rfl⟩
  have hR1 : 6 ≤ R.frames := by rw [hR]; exact Nat.le_of_ble_eq_true rfl
  have hR2 : 143 ≤ R.locals := by rw [hR]; exact Nat.le_of_ble_eq_true rfl
  have hR3 : 1 ≤ R.cells := by rw [hR]; exact Nat.le_refl _
  have hR4 : 6 ≤ R.slots := by rw [hR]; exact Nat.le_refl _
  rw [← hR]
  obtain ⟨Q, hQ⟩ : ∃ Q, Q = vx_MQ below (xQT G vwCl (xri res.1) res.2.1 res.2.2) (xXT G vwCl (xri res.1) res.2.1 res.2.2) args s (1) (6) (xA G) := ⟨_, rfl⟩
  rw [← hQ]
  have hS : xS G s s.heap [] := va_S.rf
  obtain ⟨ls, he, hl⟩ := x_entry m [.inr (.inl (some h0)), .inl x1] 3 (Nat.le_of_ble_eq_true rfl)
  rw [show entryFrame m args 3 = F0 m 0 ls [] by rw [ha]; exact he]
  have hl : xL ls 3 [(0, .inr (.inl (some h0))), (1, .inl x1)] := hl
  have h := hf
  unfold f_LM_balance at h
  suffices hmain : ∀ (H : Heap) (locs : List Loc), xhd G vwCl w H → xS G s H locs → H.size = sz → (H = s.heap ∧ locs = []) → W p l e R s m args below meth c H locs 0 0 Q (F0 m 0 ls []) from hmain _ _ hH hS hz ⟨rfl, rfl⟩
  clear hH hS hz
  intro H locs hH hS hz hP0
  refine x_aload_n C0 hl 0 d_LM_balance_0 rfl rfl ?_
  refine x_iload_n C0 hl 1 d_LM_balance_1 rfl rfl ?_
  obtain ⟨b_2, e9, h⟩ := Option.bind_eq_some_iff.mp h
  obtain ⟨e8, fs9, hb9⟩ := xo_inv e9
  obtain ⟨q_1, e9, h⟩ := Option.bind_eq_some_iff.mp h
  refine x_callP (va_runV (As := [.int x1]) (rest := []) C0 (c_LM_faceOrNull l G w _ b_2 x1 q_1 e9) (x_cwV 1 C0 kw_2_148 kw_2_151 kw_1_1 kw_2_150 kw_0_7 (by decide +kernel) (x_rm hR1 hR2 (Nat.le_of_ble_eq_true rfl) (Nat.le_of_ble_eq_true rfl))) (x_preV hE hH hS (ci := 0) rfl hb9) rfl rfl hl.1 (by rw [e8]; rfl) (lv_room (by first | exact Nat.le_of_ble_eq_true rfl | simp only [List.map_cons, List.map_nil, List.sum_cons, List.sum_nil, va_rf_cat, x_catI, x_catL, x_catA] <;> decide)) d_LM_balance_2 (x_le0 (Nat.le_trans (by omega) hR3) (Nat.le_trans (by omega) hR4))) ?_
  refine x_astore_n (lv' := [(2, .inr (.inl q_1)), (0, .inr (.inl (some h0))), (1, .inl x1)]) C0 hl d_LM_balance_5 rfl (by decide) rfl (fun ls hl => ?_)
  refine x_aload_n C0 hl 0 d_LM_balance_6 rfl rfl ?_
  refine x_ifnonnull C0 20 d_LM_balance_7 (by decide) h (fun _ _ h => ?_) (fun _ h => ?_)
  · refine x_aload_n C0 hl 0 d_LM_balance_20 rfl rfl ?_
    obtain ⟨b_4, e9, h⟩ := Option.bind_eq_some_iff.mp h
    obtain ⟨e8, fs9, hb9⟩ := xo_inv e9
    obtain ⟨q_3, e9, h⟩ := Option.bind_eq_some_iff.mp h
    refine x_call0 hS (va_runV (As := []) (rest := []) C0 (c_Face_layOut l G w _ b_4 q_3 e9) (x_cwV 0 C0 kw_2_166 kw_2_169 kw_1_11 kw_2_167 kw_2_168 (by decide +kernel) (x_rm hR1 hR2 (Nat.le_of_ble_eq_true rfl) (Nat.le_of_ble_eq_true rfl))) (x_preV hE hH hS (ci := 3) rfl hb9) rfl rfl hl.1 (by rw [e8]; rfl) (lv_room (by first | exact Nat.le_of_ble_eq_true rfl | simp only [List.map_cons, List.map_nil, List.sum_cons, List.sum_nil, va_rf_cat, x_catI, x_catL, x_catA] <;> decide)) d_LM_balance_21 (x_le0 (Nat.le_trans (by omega) hR3) (Nat.le_trans (by omega) hR4))) (fun H locs hH hS hz9 => ?_)
    have hz := hz9.trans hz
    refine x_aload_n C0 hl 0 d_LM_balance_24 rfl rfl ?_
    obtain ⟨b_6, e9, h⟩ := Option.bind_eq_some_iff.mp h
    obtain ⟨e8, fs9, hb9⟩ := xo_inv e9
    obtain ⟨q_5, e9, h⟩ := Option.bind_eq_some_iff.mp h
    refine x_callP (va_runV (As := []) (rest := []) C0 (c_Face_isBalanced l G q_3.2 _ b_6 q_5 e9) (x_cwV 0 C0 kw_3_35 kw_3_38 kw_1_11 kw_3_36 kw_3_37 (by decide +kernel) (x_rm hR1 hR2 (Nat.le_of_ble_eq_true rfl) (Nat.le_of_ble_eq_true rfl))) (x_preV hE hH hS (ci := 3) rfl hb9) rfl rfl hl.1 (by rw [e8]; rfl) (lv_room (by first | exact Nat.le_of_ble_eq_true rfl | simp only [List.map_cons, List.map_nil, List.sum_cons, List.sum_nil, va_rf_cat, x_catI, x_catL, x_catA] <;> decide)) d_LM_balance_25 (x_le0 (Nat.le_trans (by omega) hR3) (Nat.le_trans (by omega) hR4))) ?_
    obtain ⟨hn9, h⟩ := x_ifs h
    cases h
    rw [hQ]
    exact x_zretT (v := q_5) C0 hr hlocks hH hS hz (by omega) (by omega) (x_nar (fun _ => ⟨_, rfl⟩) hn9) d_LM_balance_28
  · cases h
    rw [hQ]
    exact x_throw C0 hlt hE hH hS hz hl hout 2 (by decide +kernel) kw_2_26 kw_1_10 (List.mem_of_getElem? (i := 13) rfl) at1_75_79_2 at2_75_79_2 at3_75_79_2 d_LM_balance_10 d_LM_balance_13 d_LM_balance_14 d_LM_balance_16 d_LM_balance_19 (Nat.le_trans (by decide) hR1) (Nat.le_trans (by decide) hR2) (Nat.le_trans (by omega) hR3) (Nat.le_trans (by omega) hR4) hlocks (by omega) (by omega)
theorem d_LM_number_0 : decode b_LM_number 0 = .ok (.aload_n 0, 1) := by decide +kernel
theorem d_LM_number_1 : decode b_LM_number 1 = .ok (.iload_n 1, 1) := by decide +kernel
theorem d_LM_number_2 : decode b_LM_number 2 = .ok (.invokevirtual 124, 3) := by decide +kernel
theorem d_LM_number_5 : decode b_LM_number 5 = .ok (.astore 4, 2) := by decide +kernel
theorem d_LM_number_7 : decode b_LM_number 7 = .ok (.aload 4, 2) := by decide +kernel
theorem d_LM_number_9 : decode b_LM_number 9 = .ok (.ifnull 12, 3) := by decide +kernel
theorem d_LM_number_12 : decode b_LM_number 12 = .ok (.aload 4, 2) := by decide +kernel
theorem d_LM_number_14 : decode b_LM_number 14 = .ok (.iload_n 2, 1) := by decide +kernel
theorem d_LM_number_15 : decode b_LM_number 15 = .ok (.invokevirtual 130, 3) := by decide +kernel
theorem d_LM_number_18 : decode b_LM_number 18 = .ok (.ifCond .ne 13, 3) := by decide +kernel
theorem d_LM_number_21 : decode b_LM_number 21 = .ok (.new 75, 3) := by decide +kernel
theorem d_LM_number_24 : decode b_LM_number 24 = .ok (.dup, 1) := by decide +kernel
theorem d_LM_number_25 : decode b_LM_number 25 = .ok (.ldc 133, 2) := by decide +kernel
theorem d_LM_number_27 : decode b_LM_number 27 = .ok (.invokespecial 79, 3) := by decide +kernel
theorem d_LM_number_30 : decode b_LM_number 30 = .ok (.athrow, 1) := by decide +kernel
theorem d_LM_number_31 : decode b_LM_number 31 = .ok (.iload_n 3, 1) := by decide +kernel
theorem d_LM_number_32 : decode b_LM_number 32 = .ok (.ifCond .ge 13, 3) := by decide +kernel
theorem d_LM_number_35 : decode b_LM_number 35 = .ok (.new 55, 3) := by decide +kernel
theorem d_LM_number_38 : decode b_LM_number 38 = .ok (.dup, 1) := by decide +kernel
theorem d_LM_number_39 : decode b_LM_number 39 = .ok (.ldc 201, 2) := by decide +kernel
theorem d_LM_number_41 : decode b_LM_number 41 = .ok (.invokespecial 59, 3) := by decide +kernel
theorem d_LM_number_44 : decode b_LM_number 44 = .ok (.athrow, 1) := by decide +kernel
theorem d_LM_number_45 : decode b_LM_number 45 = .ok (.iload_n 1, 1) := by decide +kernel
theorem d_LM_number_46 : decode b_LM_number 46 = .ok (.aload 4, 2) := by decide +kernel
theorem d_LM_number_48 : decode b_LM_number 48 = .ok (.getfield 179, 3) := by decide +kernel
theorem d_LM_number_51 : decode b_LM_number 51 = .ok (.aload 4, 2) := by decide +kernel
theorem d_LM_number_53 : decode b_LM_number 53 = .ok (.getfield 138, 3) := by decide +kernel
theorem d_LM_number_56 : decode b_LM_number 56 = .ok (.iload_n 2, 1) := by decide +kernel
theorem d_LM_number_57 : decode b_LM_number 57 = .ok (.aaload, 1) := by decide +kernel
theorem d_LM_number_58 : decode b_LM_number 58 = .ok (.invokestatic 203, 3) := by decide +kernel
theorem d_LM_number_61 : decode b_LM_number 61 = .ok (.astore 5, 2) := by decide +kernel
theorem d_LM_number_63 : decode b_LM_number 63 = .ok (.iload_n 3, 1) := by decide +kernel
theorem d_LM_number_64 : decode b_LM_number 64 = .ok (.aload 5, 2) := by decide +kernel
theorem d_LM_number_66 : decode b_LM_number 66 = .ok (.invokevirtual 207, 3) := by decide +kernel
theorem d_LM_number_69 : decode b_LM_number 69 = .ok (.if_icmp .ge 12, 3) := by decide +kernel
theorem d_LM_number_72 : decode b_LM_number 72 = .ok (.aload 5, 2) := by decide +kernel
theorem d_LM_number_74 : decode b_LM_number 74 = .ok (.iload_n 3, 1) := by decide +kernel
theorem d_LM_number_75 : decode b_LM_number 75 = .ok (.invokevirtual 212, 3) := by decide +kernel
theorem d_LM_number_78 : decode b_LM_number 78 = .ok (.goto 4, 3) := by decide +kernel
theorem d_LM_number_81 : decode b_LM_number 81 = .ok (.iconst (-1), 1) := by decide +kernel
theorem d_LM_number_82 : decode b_LM_number 82 = .ok (.ireturn, 1) := by decide +kernel
def f_LM_number (w : Mp) (sz : Nat) (h0 : Nat) (x1 : Int32) (x2 : Int32) (x3 : Int32) : Option ((Int32 ⊕ Nat) × Mp × Nat) := (xo w (some h0) 0).bind fun b_2 => (f_LM_faceOrNull w b_2 x1).bind fun q_1 => if q_1 = none then (some (.inr 2, w, sz + 1)) else ((xo w q_1 3).bind fun b_4 => (f_Face_hasPiece w b_4 x2).bind fun q_3 => if q_3 = 0 then (some (.inr 2, w, sz + 1)) else (if 0 ≤ x3 then ((gI w q_1 3 0).bind fun v_5 => (gR w q_1 3 1).bind fun v_6 => (aR w v_6 3 x2).bind fun v_7 => (f_LM_writtenOn w sz x1 v_5 v_7).bind fun q_8 => (xo q_8.2.1 q_8.1 6).bind fun b_10 => (f_SB_length q_8.2.1 b_10).bind fun q_9 => if q_9 ≤ x3 then (some (.inl (-1 : Int32), q_8.2.1, q_8.2.2)) else ((xo q_8.2.1 q_8.1 6).bind fun b_12 => (f_SB_charAt q_8.2.1 b_12 x3).bind fun q_11 => some (.inl q_11, q_8.2.1, q_8.2.2))) else (some (.inr 1, w, sz + 1))))
set_option maxHeartbeats 4000000 in
set_option maxRecDepth 100000 in
theorem c_LM_number (l : Launch) (G : Gx) (w : Mp) (sz : Nat) (h0 : Nat) (x1 : Int32) (x2 : Int32) (x3 : Int32) (res : (Int32 ⊕ Nat) × Mp × Nat) (hf : f_LM_number w sz h0 x1 x2 x3 = some res) (hlt : l.stackTraces = false) : vx_Met l y_LM_number (xws y_LM_number b_LM_number 6 (some .int)) { frames := 6, cells := 2, slots := 20, locals := 108 } (xPc G vwCl xaty w sz [va_rf (some h0), .int x1, .int x2, .int x3]) (xQT G vwCl (xri res.1) res.2.1 res.2.2) (xXT G vwCl (xri res.1) res.2.1 res.2.2) (2) (20) (xA G) := by
  refine vx_ofW (cc := b_LM_number) (maxL := 6) (ret := (some .int)) (by decide) rfl ?_
  intro p e s m args below meth c s₁ B hml ht hv
  obtain ⟨ha, hE, hH, hz⟩ := hv
  have hout : ∀ x ∈ c.exceptionTable.toList, ∀ q, covers x q = false := fun x hx => (ht x hx).elim
  have C0 : CallFix p m c b_LM_number 6 s args wA R_LM := ⟨B.exec, B.bytes, hml, findClass_of_methodNamed B.named, fun w hw => atoms_spec (ws := xws y_LM_number b_LM_number 6 (some .int)) B.pre w (List.mem_cons_of_mem _ hw)⟩
  have hr := B.returns
  have hlocks := B.notSynchronized
  obtain ⟨R, hR⟩ : ∃ R, R = (headSpec (xws y_LM_number b_LM_number 6 (some .int)) { frames := 6, cells := 2, slots := 20, locals := 108 }).room := ⟨_, rfl⟩
  have hR1 : 6 ≤ R.frames := by rw [hR]; exact Nat.le_of_ble_eq_true rfl
  have hR2 : 108 ≤ R.locals := by rw [hR]; exact Nat.le_of_ble_eq_true rfl
  have hR3 : 2 ≤ R.cells := by rw [hR]; exact Nat.le_refl _
  have hR4 : 20 ≤ R.slots := by rw [hR]; exact Nat.le_refl _
  rw [← hR]
  obtain ⟨Q, hQ⟩ : ∃ Q, Q = vx_MQ below (xQT G vwCl (xri res.1) res.2.1 res.2.2) (xXT G vwCl (xri res.1) res.2.1 res.2.2) args s (2) (20) (xA G) := ⟨_, rfl⟩
  rw [← hQ]
  have hS : xS G s s.heap [] := va_S.rf
  obtain ⟨ls, he, hl⟩ := x_entry m [.inr (.inl (some h0)), .inl x1, .inl x2, .inl x3] 6 (Nat.le_of_ble_eq_true rfl)
  rw [show entryFrame m args 6 = F0 m 0 ls [] by rw [ha]; exact he]
  have hl : xL ls 6 [(0, .inr (.inl (some h0))), (1, .inl x1), (2, .inl x2), (3, .inl x3)] := hl
  have h := hf
  unfold f_LM_number at h
  suffices hmain : ∀ (H : Heap) (locs : List Loc), xhd G vwCl w H → xS G s H locs → H.size = sz → (H = s.heap ∧ locs = []) → W p l e R s m args below meth c H locs 0 0 Q (F0 m 0 ls []) from hmain _ _ hH hS hz ⟨rfl, rfl⟩
  clear hH hS hz
  intro H locs hH hS hz hP0
  refine x_aload_n C0 hl 0 d_LM_number_0 rfl rfl ?_
  refine x_iload_n C0 hl 1 d_LM_number_1 rfl rfl ?_
  obtain ⟨b_2, e9, h⟩ := Option.bind_eq_some_iff.mp h
  obtain ⟨e8, fs9, hb9⟩ := xo_inv e9
  obtain ⟨q_1, e9, h⟩ := Option.bind_eq_some_iff.mp h
  refine x_callP (va_runV (As := [.int x1]) (rest := []) C0 (c_LM_faceOrNull l G w _ b_2 x1 q_1 e9) (x_cwV 1 C0 kw_2_148 kw_2_151 kw_1_1 kw_2_150 kw_0_7 (by decide +kernel) (x_rm hR1 hR2 (Nat.le_of_ble_eq_true rfl) (Nat.le_of_ble_eq_true rfl))) (x_preV hE hH hS (ci := 0) rfl hb9) rfl rfl hl.1 (by rw [e8]; rfl) (lv_room (by first | exact Nat.le_of_ble_eq_true rfl | simp only [List.map_cons, List.map_nil, List.sum_cons, List.sum_nil, va_rf_cat, x_catI, x_catL, x_catA] <;> decide)) d_LM_number_2 (x_le0 (Nat.le_trans (by omega) hR3) (Nat.le_trans (by omega) hR4))) ?_
  refine x_astore (lv' := [(4, .inr (.inl q_1)), (0, .inr (.inl (some h0))), (1, .inl x1), (2, .inl x2), (3, .inl x3)]) C0 hl d_LM_number_5 (by decide) rfl (fun ls hl => ?_)
  refine x_aload C0 hl 0 d_LM_number_7 rfl ?_
  refine x_ifnull C0 21 d_LM_number_9 (by decide) h (fun _ h => ?_) (fun _ _ h => ?_)
  · cases h
    rw [hQ]
    exact x_throw C0 hlt hE hH hS hz hl hout 2 (by decide +kernel) kw_2_26 kw_1_10 (List.mem_of_getElem? (i := 14) rfl) at1_75_79_2 at2_75_79_2 at3_75_79_2 d_LM_number_21 d_LM_number_24 d_LM_number_25 d_LM_number_27 d_LM_number_30 (Nat.le_trans (by decide) hR1) (Nat.le_trans (by decide) hR2) (Nat.le_trans (by omega) hR3) (Nat.le_trans (by omega) hR4) hlocks (by omega) (by omega)
  · refine x_aload C0 hl 0 d_LM_number_12 rfl ?_
    refine x_iload_n C0 hl 3 d_LM_number_14 rfl rfl ?_
    obtain ⟨b_4, e9, h⟩ := Option.bind_eq_some_iff.mp h
    obtain ⟨e8, fs9, hb9⟩ := xo_inv e9
    obtain ⟨q_3, e9, h⟩ := Option.bind_eq_some_iff.mp h
    refine x_callP (va_runV (As := [.int x2]) (rest := []) C0 (c_Face_hasPiece l G w _ b_4 x2 q_3 e9) (x_cwV 1 C0 kw_2_160 kw_2_163 kw_1_11 kw_2_161 kw_2_162 (by decide +kernel) (x_rm hR1 hR2 (Nat.le_of_ble_eq_true rfl) (Nat.le_of_ble_eq_true rfl))) (x_preV hE hH hS (ci := 3) rfl hb9) rfl rfl hl.1 (by rw [e8]; rfl) (lv_room (by first | exact Nat.le_of_ble_eq_true rfl | simp only [List.map_cons, List.map_nil, List.sum_cons, List.sum_nil, va_rf_cat, x_catI, x_catL, x_catA] <;> decide)) d_LM_number_15 (x_le0 (Nat.le_trans (by omega) hR3) (Nat.le_trans (by omega) hR4))) ?_
    refine x_if_ne C0 31 d_LM_number_18 (by decide) h (fun h => ?_) (fun h => ?_)
    · refine x_iload_n C0 hl 4 d_LM_number_31 rfl rfl ?_
      refine x_if_ge C0 45 d_LM_number_32 (by decide) h (fun h => ?_) (fun h => ?_)
      · refine x_iload_n C0 hl 2 d_LM_number_45 rfl rfl ?_
        refine x_aload C0 hl 0 d_LM_number_46 rfl ?_
        refine x_getI C0 hE hH (ci := 3) rfl i_Face 0 (by decide) kw_2_129 d_LM_number_48 h (fun v_5 h => ?_)
        refine x_aload C0 hl 0 d_LM_number_51 rfl ?_
        refine x_getR C0 hE hH (ci := 3) rfl i_Face 1 (by decide) kw_2_131 d_LM_number_53 h (fun v_6 h => ?_)
        refine x_iload_n C0 hl 3 d_LM_number_56 rfl rfl ?_
        refine x_aald C0 hE hH (t := 3) rfl d_LM_number_57 h (fun v_7 h => ?_)
        obtain ⟨q_8, e9, h⟩ := Option.bind_eq_some_iff.mp h
        have e9 := (show f_LM_writtenOn w (Array.size H) x1 v_5 v_7 = some q_8 by rw [hz]; exact e9)
        refine x_call hS (va_runS (As := [.int x1, .int v_5, va_rf v_7]) (rest := []) C0 (c_LM_writtenOn l G w _ x1 v_5 v_7 q_8 e9) (x_cwS 3 C0 kw_3_48 kw_3_50 kw_1_1 kw_3_49 (by decide +kernel) (x_rm hR1 hR2 (Nat.le_of_ble_eq_true rfl) (Nat.le_of_ble_eq_true rfl))) (x_preS hE hH hS) rfl rfl hl.1 rfl (lv_room (by first | exact Nat.le_of_ble_eq_true rfl | simp only [List.map_cons, List.map_nil, List.sum_cons, List.sum_nil, va_rf_cat, x_catI, x_catL, x_catA] <;> decide)) d_LM_number_58 ⟨Nat.le_trans (by omega) hR3, Nat.le_trans (by omega) hR4⟩) (fun H locs hH hS hz => ?_)
        refine W.widen (k := 2) (n := 20) (by omega) (by omega) ?_
        refine x_astore (lv' := [(5, .inr (.inl q_8.1)), (4, .inr (.inl q_1)), (0, .inr (.inl (some h0))), (1, .inl x1), (2, .inl x2), (3, .inl x3)]) C0 hl d_LM_number_61 (by decide) rfl (fun ls hl => ?_)
        refine x_iload_n C0 hl 5 d_LM_number_63 rfl rfl ?_
        refine x_aload C0 hl 0 d_LM_number_64 rfl ?_
        obtain ⟨b_10, e9, h⟩ := Option.bind_eq_some_iff.mp h
        obtain ⟨e8, fs9, hb9⟩ := xo_inv e9
        obtain ⟨q_9, e9, h⟩ := Option.bind_eq_some_iff.mp h
        refine x_callP (va_runV (As := []) (rest := [.int x3]) C0 (c_SB_length l G q_8.2.1 _ b_10 q_9 e9) (x_cwV 0 C0 kw_3_226 kw_3_229 kw_1_15 kw_3_227 kw_3_228 (by decide +kernel) (x_rm hR1 hR2 (Nat.le_of_ble_eq_true rfl) (Nat.le_of_ble_eq_true rfl))) (x_preV hE hH hS (ci := 6) rfl hb9) rfl rfl hl.1 (by rw [e8]; rfl) (lv_room (by first | exact Nat.le_of_ble_eq_true rfl | simp only [List.map_cons, List.map_nil, List.sum_cons, List.sum_nil, va_rf_cat, x_catI, x_catL, x_catA] <;> decide)) d_LM_number_66 (x_le0 (Nat.le_trans (by omega) hR3) (Nat.le_trans (by omega) hR4))) ?_
        refine x_icmp_ge C0 81 d_LM_number_69 (by decide) h (fun h => ?_) (fun h => ?_)
        · refine lv_iconst (v := -1) C0.1 C0.2.1 d_LM_number_81 (by decide) ?_
          cases h
          rw [hQ]
          exact x_iretT (v := (-1 : Int32)) C0 hr hlocks hH hS hz (by omega) (by omega) d_LM_number_82
        · refine x_aload C0 hl 0 d_LM_number_72 rfl ?_
          refine x_iload_n C0 hl 5 d_LM_number_74 rfl rfl ?_
          obtain ⟨b_12, e9, h⟩ := Option.bind_eq_some_iff.mp h
          obtain ⟨e8, fs9, hb9⟩ := xo_inv e9
          obtain ⟨q_11, e9, h⟩ := Option.bind_eq_some_iff.mp h
          refine x_callP (va_runV (As := [.int x3]) (rest := []) C0 (c_SB_charAt l G q_8.2.1 _ b_12 x3 q_11 e9) (x_cwV 1 C0 kw_3_233 kw_3_236 kw_1_15 kw_3_234 kw_3_235 (by decide +kernel) (x_rm hR1 hR2 (Nat.le_of_ble_eq_true rfl) (Nat.le_of_ble_eq_true rfl))) (x_preV hE hH hS (ci := 6) rfl hb9) rfl rfl hl.1 (by rw [e8]; rfl) (lv_room (by first | exact Nat.le_of_ble_eq_true rfl | simp only [List.map_cons, List.map_nil, List.sum_cons, List.sum_nil, va_rf_cat, x_catI, x_catL, x_catA] <;> decide)) d_LM_number_75 (x_le0 (Nat.le_trans (by omega) hR3) (Nat.le_trans (by omega) hR4))) ?_
          refine x_goto C0 82 d_LM_number_78 (by decide) ?_
          cases h
          rw [hQ]
          exact x_iretT (v := q_11) C0 hr hlocks hH hS hz (by omega) (by omega) d_LM_number_82
      · cases h
        rw [hQ]
        exact x_throw C0 hlt hE hH hS hz hl hout 1 (by decide +kernel) kw_1_187 kw_1_8 (List.mem_of_getElem? (i := 19) rfl) at1_55_59_1 at2_55_59_1 at3_55_59_1 d_LM_number_35 d_LM_number_38 d_LM_number_39 d_LM_number_41 d_LM_number_44 (Nat.le_trans (by decide) hR1) (Nat.le_trans (by decide) hR2) (Nat.le_trans (by omega) hR3) (Nat.le_trans (by omega) hR4) hlocks (by omega) (by omega)
    · cases h
      rw [hQ]
      exact x_throw C0 hlt hE hH hS hz hl hout 2 (by decide +kernel) kw_2_26 kw_1_10 (List.mem_of_getElem? (i := 14) rfl) at1_75_79_2 at2_75_79_2 at3_75_79_2 d_LM_number_21 d_LM_number_24 d_LM_number_25 d_LM_number_27 d_LM_number_30 (Nat.le_trans (by decide) hR1) (Nat.le_trans (by decide) hR2) (Nat.le_trans (by omega) hR3) (Nat.le_trans (by omega) hR4) hlocks (by omega) (by omega)
theorem d_LM_want_0 : decode b_LM_want 0 = .ok (.aload_n 0, 1) := by decide +kernel
theorem d_LM_want_1 : decode b_LM_want 1 = .ok (.getfield 31, 3) := by decide +kernel
theorem d_LM_want_4 : decode b_LM_want 4 = .ok (.getfield 216, 3) := by decide +kernel
theorem d_LM_want_7 : decode b_LM_want 7 = .ok (.bipush 8, 2) := by decide +kernel
theorem d_LM_want_9 : decode b_LM_want 9 = .ok (.if_icmp .lt 13, 3) := by decide +kernel
theorem d_LM_want_12 : decode b_LM_want 12 = .ok (.new 38, 3) := by decide +kernel
theorem d_LM_want_15 : decode b_LM_want 15 = .ok (.dup, 1) := by decide +kernel
theorem d_LM_want_16 : decode b_LM_want 16 = .ok (.ldc 219, 2) := by decide +kernel
theorem d_LM_want_18 : decode b_LM_want 18 = .ok (.invokespecial 42, 3) := by decide +kernel
theorem d_LM_want_21 : decode b_LM_want 21 = .ok (.athrow, 1) := by decide +kernel
theorem d_LM_want_22 : decode b_LM_want 22 = .ok (.iload_n 1, 1) := by decide +kernel
theorem d_LM_want_23 : decode b_LM_want 23 = .ok (.iconst 1, 1) := by decide +kernel
theorem d_LM_want_24 : decode b_LM_want 24 = .ok (.bipush 100, 2) := by decide +kernel
theorem d_LM_want_26 : decode b_LM_want 26 = .ok (.invokestatic 51, 3) := by decide +kernel
theorem d_LM_want_29 : decode b_LM_want 29 = .ok (.ifCond .ne 13, 3) := by decide +kernel
theorem d_LM_want_32 : decode b_LM_want 32 = .ok (.new 55, 3) := by decide +kernel
theorem d_LM_want_35 : decode b_LM_want 35 = .ok (.dup, 1) := by decide +kernel
theorem d_LM_want_36 : decode b_LM_want 36 = .ok (.ldc 221, 2) := by decide +kernel
theorem d_LM_want_38 : decode b_LM_want 38 = .ok (.invokespecial 59, 3) := by decide +kernel
theorem d_LM_want_41 : decode b_LM_want 41 = .ok (.athrow, 1) := by decide +kernel
theorem d_LM_want_42 : decode b_LM_want 42 = .ok (.aload_n 0, 1) := by decide +kernel
theorem d_LM_want_43 : decode b_LM_want 43 = .ok (.getfield 31, 3) := by decide +kernel
theorem d_LM_want_46 : decode b_LM_want 46 = .ok (.iload_n 1, 1) := by decide +kernel
theorem d_LM_want_47 : decode b_LM_want 47 = .ok (.invokevirtual 223, 3) := by decide +kernel
theorem d_LM_want_50 : decode b_LM_want 50 = .ok (.aload_n 0, 1) := by decide +kernel
theorem d_LM_want_51 : decode b_LM_want 51 = .ok (.getfield 31, 3) := by decide +kernel
theorem d_LM_want_54 : decode b_LM_want 54 = .ok (.getfield 216, 3) := by decide +kernel
theorem d_LM_want_57 : decode b_LM_want 57 = .ok (.ireturn, 1) := by decide +kernel
def f_LM_want (w : Mp) (sz : Nat) (h0 : Nat) (x1 : Int32) : Option ((Int32 ⊕ Nat) × Mp × Nat) := (gR w (some h0) 0 4).bind fun v_1 => (gI w v_1 4 1).bind fun v_2 => if v_2 < (8 : Int32) then ((f_LM_isWithin w x1 (1 : Int32) (100 : Int32)).bind fun q_3 => if q_3 = 0 then (some (.inr 1, w, sz + 1)) else ((gR w (some h0) 0 4).bind fun v_4 => (xo w v_4 4).bind fun b_6 => (f_Plan_addWanted w b_6 x1).bind fun q_5 => (gR q_5.2 (some h0) 0 4).bind fun v_7 => (gI q_5.2 v_7 4 1).bind fun v_8 => some (.inl v_8, q_5.2, sz))) else (some (.inr 0, w, sz + 1))
set_option maxHeartbeats 4000000 in
set_option maxRecDepth 100000 in
theorem c_LM_want (l : Launch) (G : Gx) (w : Mp) (sz : Nat) (h0 : Nat) (x1 : Int32) (res : (Int32 ⊕ Nat) × Mp × Nat) (hf : f_LM_want w sz h0 x1 = some res) (hlt : l.stackTraces = false) : vx_Met l y_LM_want (xws y_LM_want b_LM_want 2 (some .int)) { frames := 6, cells := 1, slots := 6, locals := 82 } (xPc G vwCl xaty w sz [va_rf (some h0), .int x1]) (xQT G vwCl (xri res.1) res.2.1 res.2.2) (xXT G vwCl (xri res.1) res.2.1 res.2.2) (1) (6) (xA G) := by
  refine vx_ofW (cc := b_LM_want) (maxL := 2) (ret := (some .int)) (by decide) rfl ?_
  intro p e s m args below meth c s₁ B hml ht hv
  obtain ⟨ha, hE, hH, hz⟩ := hv
  have hout : ∀ x ∈ c.exceptionTable.toList, ∀ q, covers x q = false := fun x hx => (ht x hx).elim
  have C0 : CallFix p m c b_LM_want 2 s args wA R_LM := ⟨B.exec, B.bytes, hml, findClass_of_methodNamed B.named, fun w hw => atoms_spec (ws := xws y_LM_want b_LM_want 2 (some .int)) B.pre w (List.mem_cons_of_mem _ hw)⟩
  have hr := B.returns
  have hlocks := B.notSynchronized
  obtain ⟨R, hR⟩ : ∃ R, R = (headSpec (xws y_LM_want b_LM_want 2 (some .int)) { frames := 6, cells := 1, slots := 6, locals := 82 }).room := ⟨_, rfl⟩
  have hR1 : 6 ≤ R.frames := by rw [hR]; exact Nat.le_of_ble_eq_true rfl
  have hR2 : 82 ≤ R.locals := by rw [hR]; exact Nat.le_of_ble_eq_true rfl
  have hR3 : 1 ≤ R.cells := by rw [hR]; exact Nat.le_refl _
  have hR4 : 6 ≤ R.slots := by rw [hR]; exact Nat.le_refl _
  rw [← hR]
  obtain ⟨Q, hQ⟩ : ∃ Q, Q = vx_MQ below (xQT G vwCl (xri res.1) res.2.1 res.2.2) (xXT G vwCl (xri res.1) res.2.1 res.2.2) args s (1) (6) (xA G) := ⟨_, rfl⟩
  rw [← hQ]
  have hS : xS G s s.heap [] := va_S.rf
  obtain ⟨ls, he, hl⟩ := x_entry m [.inr (.inl (some h0)), .inl x1] 2 (Nat.le_of_ble_eq_true rfl)
  rw [show entryFrame m args 2 = F0 m 0 ls [] by rw [ha]; exact he]
  have hl : xL ls 2 [(0, .inr (.inl (some h0))), (1, .inl x1)] := hl
  have h := hf
  unfold f_LM_want at h
  suffices hmain : ∀ (H : Heap) (locs : List Loc), xhd G vwCl w H → xS G s H locs → H.size = sz → (H = s.heap ∧ locs = []) → W p l e R s m args below meth c H locs 0 0 Q (F0 m 0 ls []) from hmain _ _ hH hS hz ⟨rfl, rfl⟩
  clear hH hS hz
  intro H locs hH hS hz hP0
  refine x_aload_n C0 hl 0 d_LM_want_0 rfl rfl ?_
  refine x_getR C0 hE hH (ci := 0) rfl i_LM 4 (by decide) kw_1_79 d_LM_want_1 h (fun v_1 h => ?_)
  refine x_getI C0 hE hH (ci := 4) rfl i_Plan 1 (by decide) kw_1_44 d_LM_want_4 h (fun v_2 h => ?_)
  refine lv_bipush (v := 8) C0.1 C0.2.1 d_LM_want_7 (by decide) ?_
  refine x_icmp_lt C0 22 d_LM_want_9 (by decide) h (fun h => ?_) (fun h => ?_)
  · refine x_iload_n C0 hl 1 d_LM_want_22 rfl rfl ?_
    refine lv_iconst (v := 1) C0.1 C0.2.1 d_LM_want_23 (by decide) ?_
    refine lv_bipush (v := 100) C0.1 C0.2.1 d_LM_want_24 (by decide) ?_
    obtain ⟨q_3, e9, h⟩ := Option.bind_eq_some_iff.mp h
    refine x_callP (va_runS (As := [.int x1, .int (1 : Int32), .int (100 : Int32)]) (rest := []) C0 (c_LM_isWithin l G w _ x1 (1 : Int32) (100 : Int32) q_3 e9) (x_cwS 3 C0 kw_1_184 kw_1_186 kw_1_1 kw_1_185 (by decide +kernel) (x_rm hR1 hR2 (Nat.le_of_ble_eq_true rfl) (Nat.le_of_ble_eq_true rfl))) (x_preS hE hH hS) rfl rfl hl.1 rfl (lv_room (by first | exact Nat.le_of_ble_eq_true rfl | simp only [List.map_cons, List.map_nil, List.sum_cons, List.sum_nil, va_rf_cat, x_catI, x_catL, x_catA] <;> decide)) d_LM_want_26 (x_le0 (Nat.le_trans (by omega) hR3) (Nat.le_trans (by omega) hR4))) ?_
    refine x_if_ne C0 42 d_LM_want_29 (by decide) h (fun h => ?_) (fun h => ?_)
    · refine x_aload_n C0 hl 0 d_LM_want_42 rfl rfl ?_
      refine x_getR C0 hE hH (ci := 0) rfl i_LM 4 (by decide) kw_1_79 d_LM_want_43 h (fun v_4 h => ?_)
      refine x_iload_n C0 hl 1 d_LM_want_46 rfl rfl ?_
      obtain ⟨b_6, e9, h⟩ := Option.bind_eq_some_iff.mp h
      obtain ⟨e8, fs9, hb9⟩ := xo_inv e9
      obtain ⟨q_5, e9, h⟩ := Option.bind_eq_some_iff.mp h
      refine x_call0 hS (va_runV (As := [.int x1]) (rest := []) C0 (c_Plan_addWanted l G w _ b_6 x1 q_5 e9) (x_cwV 1 C0 kw_4_12 kw_4_15 kw_1_2 kw_4_13 kw_4_14 (by decide +kernel) (x_rm hR1 hR2 (Nat.le_of_ble_eq_true rfl) (Nat.le_of_ble_eq_true rfl))) (x_preV hE hH hS (ci := 4) rfl hb9) rfl rfl hl.1 (by rw [e8]; rfl) (lv_room (by first | exact Nat.le_of_ble_eq_true rfl | simp only [List.map_cons, List.map_nil, List.sum_cons, List.sum_nil, va_rf_cat, x_catI, x_catL, x_catA] <;> decide)) d_LM_want_47 (x_le0 (Nat.le_trans (by omega) hR3) (Nat.le_trans (by omega) hR4))) (fun H locs hH hS hz9 => ?_)
      have hz := hz9.trans hz
      refine x_aload_n C0 hl 0 d_LM_want_50 rfl rfl ?_
      refine x_getR C0 hE hH (ci := 0) rfl i_LM 4 (by decide) kw_1_79 d_LM_want_51 h (fun v_7 h => ?_)
      refine x_getI C0 hE hH (ci := 4) rfl i_Plan 1 (by decide) kw_1_44 d_LM_want_54 h (fun v_8 h => ?_)
      cases h
      rw [hQ]
      exact x_iretT (v := v_8) C0 hr hlocks hH hS hz (by omega) (by omega) d_LM_want_57
    · cases h
      rw [hQ]
      exact x_throw C0 hlt hE hH hS hz hl hout 1 (by decide +kernel) kw_1_187 kw_1_8 (List.mem_of_getElem? (i := 22) rfl) at1_55_59_1 at2_55_59_1 at3_55_59_1 d_LM_want_32 d_LM_want_35 d_LM_want_36 d_LM_want_38 d_LM_want_41 (Nat.le_trans (by decide) hR1) (Nat.le_trans (by decide) hR2) (Nat.le_trans (by omega) hR3) (Nat.le_trans (by omega) hR4) hlocks (by omega) (by omega)
  · cases h
    rw [hQ]
    exact x_throw C0 hlt hE hH hS hz hl hout 0 (by decide +kernel) kw_1_111 kw_1_7 (List.mem_of_getElem? (i := 21) rfl) at1_38_42_0 at2_38_42_0 at3_38_42_0 d_LM_want_12 d_LM_want_15 d_LM_want_16 d_LM_want_18 d_LM_want_21 (Nat.le_trans (by decide) hR1) (Nat.le_trans (by decide) hR2) (Nat.le_trans (by omega) hR3) (Nat.le_trans (by omega) hR4) hlocks (by omega) (by omega)
theorem d_LM_faces_0 : decode b_LM_faces 0 = .ok (.iload_n 1, 1) := by decide +kernel
theorem d_LM_faces_1 : decode b_LM_faces 1 = .ok (.iconst 0, 1) := by decide +kernel
theorem d_LM_faces_2 : decode b_LM_faces 2 = .ok (.iconst 3, 1) := by decide +kernel
theorem d_LM_faces_3 : decode b_LM_faces 3 = .ok (.invokestatic 51, 3) := by decide +kernel
theorem d_LM_faces_6 : decode b_LM_faces 6 = .ok (.ifCond .ne 13, 3) := by decide +kernel
theorem d_LM_faces_9 : decode b_LM_faces 9 = .ok (.new 55, 3) := by decide +kernel
theorem d_LM_faces_12 : decode b_LM_faces 12 = .ok (.dup, 1) := by decide +kernel
theorem d_LM_faces_13 : decode b_LM_faces 13 = .ok (.ldc 230, 2) := by decide +kernel
theorem d_LM_faces_15 : decode b_LM_faces 15 = .ok (.invokespecial 59, 3) := by decide +kernel
theorem d_LM_faces_18 : decode b_LM_faces 18 = .ok (.athrow, 1) := by decide +kernel
theorem d_LM_faces_19 : decode b_LM_faces 19 = .ok (.aload_n 0, 1) := by decide +kernel
theorem d_LM_faces_20 : decode b_LM_faces 20 = .ok (.iload_n 1, 1) := by decide +kernel
theorem d_LM_faces_21 : decode b_LM_faces 21 = .ok (.invokevirtual 110, 3) := by decide +kernel
theorem d_LM_faces_24 : decode b_LM_faces 24 = .ok (.istore_n 2, 1) := by decide +kernel
theorem d_LM_faces_25 : decode b_LM_faces 25 = .ok (.aload_n 0, 1) := by decide +kernel
theorem d_LM_faces_26 : decode b_LM_faces 26 = .ok (.getfield 31, 3) := by decide +kernel
theorem d_LM_faces_29 : decode b_LM_faces 29 = .ok (.aload_n 0, 1) := by decide +kernel
theorem d_LM_faces_30 : decode b_LM_faces 30 = .ok (.getfield 35, 3) := by decide +kernel
theorem d_LM_faces_33 : decode b_LM_faces 33 = .ok (.iload_n 2, 1) := by decide +kernel
theorem d_LM_faces_34 : decode b_LM_faces 34 = .ok (.invokevirtual 232, 3) := by decide +kernel
theorem d_LM_faces_37 : decode b_LM_faces 37 = .ok (.ireturn, 1) := by decide +kernel
def f_LM_faces (k1 : Nat) (k2 : Nat) (k3 : Nat) (w : Mp) (sz : Nat) (h0 : Nat) (x1 : Int32) : Option ((Int32 ⊕ Nat) × Mp × Nat) := (f_LM_isWithin w x1 (0 : Int32) (3 : Int32)).bind fun q_1 => if q_1 = 0 then (some (.inr 1, w, sz + 1)) else ((xo w (some h0) 0).bind fun b_3 => (f_LM_gatherFree w b_3 x1).bind fun q_2 => (gR q_2.2 (some h0) 0 4).bind fun v_4 => (gR q_2.2 (some h0) 0 5).bind fun v_5 => (xo q_2.2 v_4 4).bind fun b_7 => (f_Plan_planFrom k1 k2 k3 q_2.2 sz b_7 v_5 q_2.1).bind fun q_6 => some (.inl q_6.1, q_6.2.1, q_6.2.2))
set_option maxHeartbeats 4000000 in
set_option maxRecDepth 100000 in
theorem c_LM_faces (l : Launch) (G : Gx) (k1 : Nat) (k2 : Nat) (k3 : Nat) (w : Mp) (sz : Nat) (h0 : Nat) (x1 : Int32) (res : (Int32 ⊕ Nat) × Mp × Nat) (hf : f_LM_faces k1 k2 k3 w sz h0 x1 = some res) (hlt : l.stackTraces = false) : vx_Met l y_LM_faces (xws y_LM_faces b_LM_faces 3 (some .int)) { frames := 6, cells := 3, slots := 6 + k1 + k2 + k3, locals := 97 } (xPc G vwCl xaty w sz [va_rf (some h0), .int x1]) (xQT G vwCl (xri res.1) res.2.1 res.2.2) (xXT G vwCl (xri res.1) res.2.1 res.2.2) (3) (6 + k1 + k2 + k3) (xA G) := by
  refine vx_ofW (cc := b_LM_faces) (maxL := 3) (ret := (some .int)) (by decide) rfl ?_
  intro p e s m args below meth c s₁ B hml ht hv
  obtain ⟨ha, hE, hH, hz⟩ := hv
  have hout : ∀ x ∈ c.exceptionTable.toList, ∀ q, covers x q = false := fun x hx => (ht x hx).elim
  have C0 : CallFix p m c b_LM_faces 3 s args wA R_LM := ⟨B.exec, B.bytes, hml, findClass_of_methodNamed B.named, fun w hw => atoms_spec (ws := xws y_LM_faces b_LM_faces 3 (some .int)) B.pre w (List.mem_cons_of_mem _ hw)⟩
  have hr := B.returns
  have hlocks := B.notSynchronized
  obtain ⟨R, hR⟩ : ∃ R, R = (headSpec (xws y_LM_faces b_LM_faces 3 (some .int)) { frames := 6, cells := 3, slots := 6 + k1 + k2 + k3, locals := 97 }).room := ⟨_, rfl⟩
  have hR1 : 6 ≤ R.frames := by rw [hR]; exact Nat.le_of_ble_eq_true rfl
  have hR2 : 97 ≤ R.locals := by rw [hR]; exact Nat.le_of_ble_eq_true rfl
  have hR3 : 3 ≤ R.cells := by rw [hR]; exact Nat.le_refl _
  have hR4 : 6 + k1 + k2 + k3 ≤ R.slots := by rw [hR]; exact Nat.le_refl _
  rw [← hR]
  obtain ⟨Q, hQ⟩ : ∃ Q, Q = vx_MQ below (xQT G vwCl (xri res.1) res.2.1 res.2.2) (xXT G vwCl (xri res.1) res.2.1 res.2.2) args s (3) (6 + k1 + k2 + k3) (xA G) := ⟨_, rfl⟩
  rw [← hQ]
  have hS : xS G s s.heap [] := va_S.rf
  obtain ⟨ls, he, hl⟩ := x_entry m [.inr (.inl (some h0)), .inl x1] 3 (Nat.le_of_ble_eq_true rfl)
  rw [show entryFrame m args 3 = F0 m 0 ls [] by rw [ha]; exact he]
  have hl : xL ls 3 [(0, .inr (.inl (some h0))), (1, .inl x1)] := hl
  have h := hf
  unfold f_LM_faces at h
  suffices hmain : ∀ (H : Heap) (locs : List Loc), xhd G vwCl w H → xS G s H locs → H.size = sz → (H = s.heap ∧ locs = []) → W p l e R s m args below meth c H locs 0 0 Q (F0 m 0 ls []) from hmain _ _ hH hS hz ⟨rfl, rfl⟩
  clear hH hS hz
  intro H locs hH hS hz hP0
  refine x_iload_n C0 hl 1 d_LM_faces_0 rfl rfl ?_
  refine lv_iconst (v := 0) C0.1 C0.2.1 d_LM_faces_1 (by decide) ?_
  refine lv_iconst (v := 3) C0.1 C0.2.1 d_LM_faces_2 (by decide) ?_
  obtain ⟨q_1, e9, h⟩ := Option.bind_eq_some_iff.mp h
  refine x_callP (va_runS (As := [.int x1, .int (0 : Int32), .int (3 : Int32)]) (rest := []) C0 (c_LM_isWithin l G w _ x1 (0 : Int32) (3 : Int32) q_1 e9) (x_cwS 3 C0 kw_1_184 kw_1_186 kw_1_1 kw_1_185 (by decide +kernel) (x_rm hR1 hR2 (Nat.le_of_ble_eq_true rfl) (Nat.le_of_ble_eq_true rfl))) (x_preS hE hH hS) rfl rfl hl.1 rfl (lv_room (by first | exact Nat.le_of_ble_eq_true rfl | simp only [List.map_cons, List.map_nil, List.sum_cons, List.sum_nil, va_rf_cat, x_catI, x_catL, x_catA] <;> decide)) d_LM_faces_3 (x_le0 (Nat.le_trans (by omega) hR3) (Nat.le_trans (by omega) hR4))) ?_
  refine x_if_ne C0 19 d_LM_faces_6 (by decide) h (fun h => ?_) (fun h => ?_)
  · refine x_aload_n C0 hl 0 d_LM_faces_19 rfl rfl ?_
    refine x_iload_n C0 hl 1 d_LM_faces_20 rfl rfl ?_
    obtain ⟨b_3, e9, h⟩ := Option.bind_eq_some_iff.mp h
    obtain ⟨e8, fs9, hb9⟩ := xo_inv e9
    obtain ⟨q_2, e9, h⟩ := Option.bind_eq_some_iff.mp h
    refine x_call0 hS (va_runV (As := [.int x1]) (rest := []) C0 (c_LM_gatherFree l G w _ b_3 x1 q_2 e9) (x_cwV 1 C0 kw_2_80 kw_2_83 kw_1_1 kw_2_82 kw_0_5 (by decide +kernel) (x_rm hR1 hR2 (Nat.le_of_ble_eq_true rfl) (Nat.le_of_ble_eq_true rfl))) (x_preV hE hH hS (ci := 0) rfl hb9) rfl rfl hl.1 (by rw [e8]; rfl) (lv_room (by first | exact Nat.le_of_ble_eq_true rfl | simp only [List.map_cons, List.map_nil, List.sum_cons, List.sum_nil, va_rf_cat, x_catI, x_catL, x_catA] <;> decide)) d_LM_faces_21 (x_le0 (Nat.le_trans (by omega) hR3) (Nat.le_trans (by omega) hR4))) (fun H locs hH hS hz9 => ?_)
    have hz := hz9.trans hz
    refine x_istore_n (lv' := [(2, .inl q_2.1), (0, .inr (.inl (some h0))), (1, .inl x1)]) C0 hl d_LM_faces_24 rfl (by decide) rfl (fun ls hl => ?_)
    refine x_aload_n C0 hl 1 d_LM_faces_25 rfl rfl ?_
    refine x_getR C0 hE hH (ci := 0) rfl i_LM 4 (by decide) kw_1_79 d_LM_faces_26 h (fun v_4 h => ?_)
    refine x_aload_n C0 hl 1 d_LM_faces_29 rfl rfl ?_
    refine x_getR C0 hE hH (ci := 0) rfl i_LM 5 (by decide) kw_1_80 d_LM_faces_30 h (fun v_5 h => ?_)
    refine x_iload_n C0 hl 0 d_LM_faces_33 rfl rfl ?_
    obtain ⟨b_7, e9, h⟩ := Option.bind_eq_some_iff.mp h
    obtain ⟨e8, fs9, hb9⟩ := xo_inv e9
    obtain ⟨q_6, e9, h⟩ := Option.bind_eq_some_iff.mp h
    have e9 := (show f_Plan_planFrom k1 k2 k3 q_2.2 (Array.size H) b_7 v_5 q_2.1 = some q_6 by rw [hz]; exact e9)
    refine x_call hS (va_runV (As := [va_rf v_5, .int q_2.1]) (rest := []) C0 (c_Plan_planFrom l G k1 k2 k3 q_2.2 _ b_7 v_5 q_2.1 q_6 e9) (x_cwV 2 C0 kw_4_24 kw_4_27 kw_1_2 kw_4_25 kw_4_26 (by decide +kernel) (x_rm hR1 hR2 (Nat.le_of_ble_eq_true rfl) (Nat.le_of_ble_eq_true rfl))) (x_preV hE hH hS (ci := 4) rfl hb9) rfl rfl hl.1 (by rw [e8]; rfl) (lv_room (by first | exact Nat.le_of_ble_eq_true rfl | simp only [List.map_cons, List.map_nil, List.sum_cons, List.sum_nil, va_rf_cat, x_catI, x_catL, x_catA] <;> decide)) d_LM_faces_34 ⟨Nat.le_trans (by omega) hR3, Nat.le_trans (by omega) hR4⟩) (fun H locs hH hS hz => ?_)
    refine W.widen (k := 3) (n := 0 + k1 + k2 + k3) (by omega) (by omega) ?_
    cases h
    rw [hQ]
    exact x_iretT (v := q_6.1) C0 hr hlocks hH hS hz (by omega) (by omega) d_LM_faces_37
  · cases h
    rw [hQ]
    exact x_throw C0 hlt hE hH hS hz hl hout 1 (by decide +kernel) kw_1_187 kw_1_8 (List.mem_of_getElem? (i := 23) rfl) at1_55_59_1 at2_55_59_1 at3_55_59_1 d_LM_faces_9 d_LM_faces_12 d_LM_faces_13 d_LM_faces_15 d_LM_faces_18 (Nat.le_trans (by decide) hR1) (Nat.le_trans (by decide) hR2) (Nat.le_trans (by omega) hR3) (Nat.le_trans (by omega) hR4) hlocks (by omega) (by omega)
theorem d_LM_planned_0 : decode b_LM_planned 0 = .ok (.aload_n 0, 1) := by decide +kernel
theorem d_LM_planned_1 : decode b_LM_planned 1 = .ok (.getfield 31, 3) := by decide +kernel
theorem d_LM_planned_4 : decode b_LM_planned 4 = .ok (.getfield 236, 3) := by decide +kernel
theorem d_LM_planned_7 : decode b_LM_planned 7 = .ok (.ifCond .ne 13, 3) := by decide +kernel
theorem d_LM_planned_10 : decode b_LM_planned 10 = .ok (.new 38, 3) := by decide +kernel
theorem d_LM_planned_13 : decode b_LM_planned 13 = .ok (.dup, 1) := by decide +kernel
theorem d_LM_planned_14 : decode b_LM_planned 14 = .ok (.ldc 239, 2) := by decide +kernel
theorem d_LM_planned_16 : decode b_LM_planned 16 = .ok (.invokespecial 42, 3) := by decide +kernel
theorem d_LM_planned_19 : decode b_LM_planned 19 = .ok (.athrow, 1) := by decide +kernel
theorem d_LM_planned_20 : decode b_LM_planned 20 = .ok (.iload_n 1, 1) := by decide +kernel
theorem d_LM_planned_21 : decode b_LM_planned 21 = .ok (.iconst 0, 1) := by decide +kernel
theorem d_LM_planned_22 : decode b_LM_planned 22 = .ok (.aload_n 0, 1) := by decide +kernel
theorem d_LM_planned_23 : decode b_LM_planned 23 = .ok (.getfield 31, 3) := by decide +kernel
theorem d_LM_planned_26 : decode b_LM_planned 26 = .ok (.getfield 216, 3) := by decide +kernel
theorem d_LM_planned_29 : decode b_LM_planned 29 = .ok (.iconst 1, 1) := by decide +kernel
theorem d_LM_planned_30 : decode b_LM_planned 30 = .ok (.isub, 1) := by decide +kernel
theorem d_LM_planned_31 : decode b_LM_planned 31 = .ok (.invokestatic 51, 3) := by decide +kernel
theorem d_LM_planned_34 : decode b_LM_planned 34 = .ok (.ifCond .ne 13, 3) := by decide +kernel
theorem d_LM_planned_37 : decode b_LM_planned 37 = .ok (.new 75, 3) := by decide +kernel
theorem d_LM_planned_40 : decode b_LM_planned 40 = .ok (.dup, 1) := by decide +kernel
theorem d_LM_planned_41 : decode b_LM_planned 41 = .ok (.ldc 241, 2) := by decide +kernel
theorem d_LM_planned_43 : decode b_LM_planned 43 = .ok (.invokespecial 79, 3) := by decide +kernel
theorem d_LM_planned_46 : decode b_LM_planned 46 = .ok (.athrow, 1) := by decide +kernel
theorem d_LM_planned_47 : decode b_LM_planned 47 = .ok (.iload_n 2, 1) := by decide +kernel
theorem d_LM_planned_48 : decode b_LM_planned 48 = .ok (.lookupswitch 48 #[(0, 28), (1, 38)], 28) := by decide +kernel
theorem d_LM_planned_76 : decode b_LM_planned 76 = .ok (.aload_n 0, 1) := by decide +kernel
theorem d_LM_planned_77 : decode b_LM_planned 77 = .ok (.getfield 31, 3) := by decide +kernel
theorem d_LM_planned_80 : decode b_LM_planned 80 = .ok (.getfield 243, 3) := by decide +kernel
theorem d_LM_planned_83 : decode b_LM_planned 83 = .ok (.iload_n 1, 1) := by decide +kernel
theorem d_LM_planned_84 : decode b_LM_planned 84 = .ok (.iaload, 1) := by decide +kernel
theorem d_LM_planned_85 : decode b_LM_planned 85 = .ok (.ireturn, 1) := by decide +kernel
theorem d_LM_planned_86 : decode b_LM_planned 86 = .ok (.aload_n 0, 1) := by decide +kernel
theorem d_LM_planned_87 : decode b_LM_planned 87 = .ok (.getfield 31, 3) := by decide +kernel
theorem d_LM_planned_90 : decode b_LM_planned 90 = .ok (.getfield 247, 3) := by decide +kernel
theorem d_LM_planned_93 : decode b_LM_planned 93 = .ok (.iload_n 1, 1) := by decide +kernel
theorem d_LM_planned_94 : decode b_LM_planned 94 = .ok (.iaload, 1) := by decide +kernel
theorem d_LM_planned_95 : decode b_LM_planned 95 = .ok (.ireturn, 1) := by decide +kernel
theorem d_LM_planned_96 : decode b_LM_planned 96 = .ok (.new 55, 3) := by decide +kernel
theorem d_LM_planned_99 : decode b_LM_planned 99 = .ok (.dup, 1) := by decide +kernel
theorem d_LM_planned_100 : decode b_LM_planned 100 = .ok (.ldc 250, 2) := by decide +kernel
theorem d_LM_planned_102 : decode b_LM_planned 102 = .ok (.invokespecial 59, 3) := by decide +kernel
theorem d_LM_planned_105 : decode b_LM_planned 105 = .ok (.athrow, 1) := by decide +kernel
def f_LM_planned (w : Mp) (sz : Nat) (h0 : Nat) (x1 : Int32) (x2 : Int32) : Option ((Int32 ⊕ Nat) × Mp × Nat) := (gR w (some h0) 0 4).bind fun v_1 => (gI w v_1 4 2).bind fun v_2 => if v_2 = 0 then (some (.inr 0, w, sz + 1)) else ((gR w (some h0) 0 4).bind fun v_3 => (gI w v_3 4 1).bind fun v_4 => (f_LM_isWithin w x1 (0 : Int32) (v_4 - (1 : Int32))).bind fun q_5 => if q_5 = 0 then (some (.inr 2, w, sz + 1)) else (if x2 = 0 then ((gR w (some h0) 0 4).bind fun v_6 => (gR w v_6 4 3).bind fun v_7 => (aI w v_7 0 x1).bind fun v_8 => some (.inl v_8, w, sz)) else (if x2 = 1 then ((gR w (some h0) 0 4).bind fun v_9 => (gR w v_9 4 4).bind fun v_10 => (aI w v_10 0 x1).bind fun v_11 => some (.inl v_11, w, sz)) else (some (.inr 1, w, sz + 1)))))
set_option maxHeartbeats 4000000 in
set_option maxRecDepth 100000 in
theorem c_LM_planned (l : Launch) (G : Gx) (w : Mp) (sz : Nat) (h0 : Nat) (x1 : Int32) (x2 : Int32) (res : (Int32 ⊕ Nat) × Mp × Nat) (hf : f_LM_planned w sz h0 x1 x2 = some res) (hlt : l.stackTraces = false) : vx_Met l y_LM_planned (xws y_LM_planned b_LM_planned 3 (some .int)) { frames := 6, cells := 1, slots := 6, locals := 82 } (xPc G vwCl xaty w sz [va_rf (some h0), .int x1, .int x2]) (xQT G vwCl (xri res.1) res.2.1 res.2.2) (xXT G vwCl (xri res.1) res.2.1 res.2.2) (1) (6) (xA G) := by
  refine vx_ofW (cc := b_LM_planned) (maxL := 3) (ret := (some .int)) (by decide) rfl ?_
  intro p e s m args below meth c s₁ B hml ht hv
  obtain ⟨ha, hE, hH, hz⟩ := hv
  have hout : ∀ x ∈ c.exceptionTable.toList, ∀ q, covers x q = false := fun x hx => (ht x hx).elim
  have C0 : CallFix p m c b_LM_planned 3 s args wA R_LM := ⟨B.exec, B.bytes, hml, findClass_of_methodNamed B.named, fun w hw => atoms_spec (ws := xws y_LM_planned b_LM_planned 3 (some .int)) B.pre w (List.mem_cons_of_mem _ hw)⟩
  have hr := B.returns
  have hlocks := B.notSynchronized
  obtain ⟨R, hR⟩ : ∃ R, R = (headSpec (xws y_LM_planned b_LM_planned 3 (some .int)) { frames := 6, cells := 1, slots := 6, locals := 82 }).room := ⟨_, rfl⟩
  have hR1 : 6 ≤ R.frames := by rw [hR]; exact Nat.le_of_ble_eq_true rfl
  have hR2 : 82 ≤ R.locals := by rw [hR]; exact Nat.le_of_ble_eq_true rfl
  have hR3 : 1 ≤ R.cells := by rw [hR]; exact Nat.le_refl _
  have hR4 : 6 ≤ R.slots := by rw [hR]; exact Nat.le_refl _
  rw [← hR]
  obtain ⟨Q, hQ⟩ : ∃ Q, Q = vx_MQ below (xQT G vwCl (xri res.1) res.2.1 res.2.2) (xXT G vwCl (xri res.1) res.2.1 res.2.2) args s (1) (6) (xA G) := ⟨_, rfl⟩
  rw [← hQ]
  have hS : xS G s s.heap [] := va_S.rf
  obtain ⟨ls, he, hl⟩ := x_entry m [.inr (.inl (some h0)), .inl x1, .inl x2] 3 (Nat.le_of_ble_eq_true rfl)
  rw [show entryFrame m args 3 = F0 m 0 ls [] by rw [ha]; exact he]
  have hl : xL ls 3 [(0, .inr (.inl (some h0))), (1, .inl x1), (2, .inl x2)] := hl
  have h := hf
  unfold f_LM_planned at h
  suffices hmain : ∀ (H : Heap) (locs : List Loc), xhd G vwCl w H → xS G s H locs → H.size = sz → (H = s.heap ∧ locs = []) → W p l e R s m args below meth c H locs 0 0 Q (F0 m 0 ls []) from hmain _ _ hH hS hz ⟨rfl, rfl⟩
  clear hH hS hz
  intro H locs hH hS hz hP0
  refine x_aload_n C0 hl 0 d_LM_planned_0 rfl rfl ?_
  refine x_getR C0 hE hH (ci := 0) rfl i_LM 4 (by decide) kw_1_79 d_LM_planned_1 h (fun v_1 h => ?_)
  refine x_getI C0 hE hH (ci := 4) rfl i_Plan 2 (by decide) kw_1_46 d_LM_planned_4 h (fun v_2 h => ?_)
  refine x_if_ne C0 20 d_LM_planned_7 (by decide) h (fun h => ?_) (fun h => ?_)
  · refine x_iload_n C0 hl 1 d_LM_planned_20 rfl rfl ?_
    refine lv_iconst (v := 0) C0.1 C0.2.1 d_LM_planned_21 (by decide) ?_
    refine x_aload_n C0 hl 0 d_LM_planned_22 rfl rfl ?_
    refine x_getR C0 hE hH (ci := 0) rfl i_LM 4 (by decide) kw_1_79 d_LM_planned_23 h (fun v_3 h => ?_)
    refine x_getI C0 hE hH (ci := 4) rfl i_Plan 1 (by decide) kw_1_44 d_LM_planned_26 h (fun v_4 h => ?_)
    refine lv_iconst (v := 1) C0.1 C0.2.1 d_LM_planned_29 (by decide) ?_
    refine lv_isub C0.1 C0.2.1 d_LM_planned_30 ?_
    obtain ⟨q_5, e9, h⟩ := Option.bind_eq_some_iff.mp h
    refine x_callP (va_runS (As := [.int x1, .int (0 : Int32), .int (v_4 - (1 : Int32))]) (rest := []) C0 (c_LM_isWithin l G w _ x1 (0 : Int32) (v_4 - (1 : Int32)) q_5 e9) (x_cwS 3 C0 kw_1_184 kw_1_186 kw_1_1 kw_1_185 (by decide +kernel) (x_rm hR1 hR2 (Nat.le_of_ble_eq_true rfl) (Nat.le_of_ble_eq_true rfl))) (x_preS hE hH hS) rfl rfl hl.1 rfl (lv_room (by first | exact Nat.le_of_ble_eq_true rfl | simp only [List.map_cons, List.map_nil, List.sum_cons, List.sum_nil, va_rf_cat, x_catI, x_catL, x_catA] <;> decide)) d_LM_planned_31 (x_le0 (Nat.le_trans (by omega) hR3) (Nat.le_trans (by omega) hR4))) ?_
    refine x_if_ne C0 47 d_LM_planned_34 (by decide) h (fun h => ?_) (fun h => ?_)
    · refine x_iload_n C0 hl 2 d_LM_planned_47 rfl rfl ?_
      by_cases z0 : x2 = 0
      · rw [if_pos z0] at h
        refine lv_lookup (off := 28) (tgt := 76) C0.1 C0.2.1 d_LM_planned_48 (by decide) (by rw [z0]; rfl) (by decide) ?_
        refine x_aload_n C0 hl 0 d_LM_planned_76 rfl rfl ?_
        refine x_getR C0 hE hH (ci := 0) rfl i_LM 4 (by decide) kw_1_79 d_LM_planned_77 h (fun v_6 h => ?_)
        refine x_getR C0 hE hH (ci := 4) rfl i_Plan 3 (by decide) kw_1_48 d_LM_planned_80 h (fun v_7 h => ?_)
        refine x_iload_n C0 hl 1 d_LM_planned_83 rfl rfl ?_
        refine x_iald C0 hE hH (t := 0) rfl d_LM_planned_84 h (fun v_8 h => ?_)
        cases h
        rw [hQ]
        exact x_iretT (v := v_8) C0 hr hlocks hH hS hz (by omega) (by omega) d_LM_planned_85
      rw [if_neg z0] at h
      by_cases z1 : x2 = 1
      · rw [if_pos z1] at h
        refine lv_lookup (off := 38) (tgt := 86) C0.1 C0.2.1 d_LM_planned_48 (by decide) (by rw [z1]; rfl) (by decide) ?_
        refine x_aload_n C0 hl 0 d_LM_planned_86 rfl rfl ?_
        refine x_getR C0 hE hH (ci := 0) rfl i_LM 4 (by decide) kw_1_79 d_LM_planned_87 h (fun v_9 h => ?_)
        refine x_getR C0 hE hH (ci := 4) rfl i_Plan 4 (by decide) kw_1_50 d_LM_planned_90 h (fun v_10 h => ?_)
        refine x_iload_n C0 hl 1 d_LM_planned_93 rfl rfl ?_
        refine x_iald C0 hE hH (t := 0) rfl d_LM_planned_94 h (fun v_11 h => ?_)
        cases h
        rw [hQ]
        exact x_iretT (v := v_11) C0 hr hlocks hH hS hz (by omega) (by omega) d_LM_planned_95
      rw [if_neg z1] at h
      refine lv_lookup (off := 48) (tgt := 96) C0.1 C0.2.1 d_LM_planned_48 (by decide) ((lv_osw z0 (by decide)).trans ((lv_osw z1 (by decide)).trans (rfl))) (by decide) ?_
      cases h
      rw [hQ]
      exact x_throw C0 hlt hE hH hS hz hl hout 1 (by decide +kernel) kw_1_187 kw_1_8 (List.mem_of_getElem? (i := 26) rfl) at1_55_59_1 at2_55_59_1 at3_55_59_1 d_LM_planned_96 d_LM_planned_99 d_LM_planned_100 d_LM_planned_102 d_LM_planned_105 (Nat.le_trans (by decide) hR1) (Nat.le_trans (by decide) hR2) (Nat.le_trans (by omega) hR3) (Nat.le_trans (by omega) hR4) hlocks (by omega) (by omega)
    · cases h
      rw [hQ]
      exact x_throw C0 hlt hE hH hS hz hl hout 2 (by decide +kernel) kw_2_26 kw_1_10 (List.mem_of_getElem? (i := 25) rfl) at1_75_79_2 at2_75_79_2 at3_75_79_2 d_LM_planned_37 d_LM_planned_40 d_LM_planned_41 d_LM_planned_43 d_LM_planned_46 (Nat.le_trans (by decide) hR1) (Nat.le_trans (by decide) hR2) (Nat.le_trans (by omega) hR3) (Nat.le_trans (by omega) hR4) hlocks (by omega) (by omega)
  · cases h
    rw [hQ]
    exact x_throw C0 hlt hE hH hS hz hl hout 0 (by decide +kernel) kw_1_111 kw_1_7 (List.mem_of_getElem? (i := 24) rfl) at1_38_42_0 at2_38_42_0 at3_38_42_0 d_LM_planned_10 d_LM_planned_13 d_LM_planned_14 d_LM_planned_16 d_LM_planned_19 (Nat.le_trans (by decide) hR1) (Nat.le_trans (by decide) hR2) (Nat.le_trans (by omega) hR3) (Nat.le_trans (by omega) hR4) hlocks (by omega) (by omega)
