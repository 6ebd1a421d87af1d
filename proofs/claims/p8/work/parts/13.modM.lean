theorem kw_0_15 : (Jvm.Cond.selects "LeafMatchesModel" ({ cls := "LeafMatchesModel", name := "fillRow", desc := "(I)V" } : Jvm.MethodName) ({ cls := "LeafMatchesModel", name := "fillRow", desc := "(I)V" } : Jvm.MethodName)) ∈ wA := ku_0 15 rfl rfl
theorem kw_0_16 : (Jvm.Cond.selects "LeafMatchesModel" ({ cls := "LeafMatchesModel", name := "noFace", desc := "(I)Z" } : Jvm.MethodName) ({ cls := "LeafMatchesModel", name := "noFace", desc := "(I)Z" } : Jvm.MethodName)) ∈ wA := ku_0 16 rfl rfl
theorem kw_0_17 : (Jvm.Cond.selects "LeafMatchesModel" ({ cls := "LeafMatchesModel", name := "noPiece", desc := "(II)Z" } : Jvm.MethodName) ({ cls := "LeafMatchesModel", name := "noPiece", desc := "(II)Z" } : Jvm.MethodName)) ∈ wA := ku_0 17 rfl rfl
theorem kw_0_28 : (Jvm.Cond.selects "LeafMatchesModel" ({ cls := "LeafMatchesModel", name := "leastTop", desc := "(I)I" } : Jvm.MethodName) ({ cls := "LeafMatchesModel", name := "leastTop", desc := "(I)I" } : Jvm.MethodName)) ∈ wA := ku_0 28 rfl rfl
theorem kw_0_29 : (Jvm.Cond.selects "LeafMatchesModel" ({ cls := "LeafMatchesModel", name := "wideOf", desc := "(I)I" } : Jvm.MethodName) ({ cls := "LeafMatchesModel", name := "wideOf", desc := "(I)I" } : Jvm.MethodName)) ∈ wA := ku_0 29 rfl rfl
theorem kw_0_30 : (Jvm.Cond.selects "LeafMatchesModel" ({ cls := "LeafMatchesModel", name := "noSeam", desc := "(II)Z" } : Jvm.MethodName) ({ cls := "LeafMatchesModel", name := "noSeam", desc := "(II)Z" } : Jvm.MethodName)) ∈ wA := ku_0 30 rfl rfl
theorem kw_0_31 : (Jvm.Cond.selects "LeafMatchesModel" ({ cls := "LeafMatchesModel", name := "seams", desc := "(I)I" } : Jvm.MethodName) ({ cls := "LeafMatchesModel", name := "seams", desc := "(I)I" } : Jvm.MethodName)) ∈ wA := ku_0 31 rfl rfl
theorem kw_0_32 : (Jvm.Cond.selects "LeafMatchesModel" ({ cls := "LeafMatchesModel", name := "writeNumber", desc := "(II)I" } : Jvm.MethodName) ({ cls := "LeafMatchesModel", name := "writeNumber", desc := "(II)I" } : Jvm.MethodName)) ∈ wA := ku_0 32 rfl rfl
theorem kw_0_33 : (Jvm.Cond.selects "LeafMatchesModel" ({ cls := "LeafMatchesModel", name := "lossWith", desc := "(III)I" } : Jvm.MethodName) ({ cls := "LeafMatchesModel", name := "lossWith", desc := "(III)I" } : Jvm.MethodName)) ∈ wA := ku_0 33 rfl rfl
theorem kw_0_36 : (Jvm.Cond.selects "LeafMatchesModel" ({ cls := "LeafMatchesModel", name := "walk", desc := "(I)V" } : Jvm.MethodName) ({ cls := "LeafMatchesModel", name := "walk", desc := "(I)V" } : Jvm.MethodName)) ∈ wA := ku_0 36 rfl rfl
theorem kw_4_80 : (Jvm.Cond.fieldLink "LeafMatchesModel" (63 : Nat) "LeafMatchesModel" "leaves" "I") ∈ wA := ku_4 80 rfl rfl
theorem kw_4_81 : (Jvm.Cond.fieldLink "LeafMatchesModel" (7 : Nat) "LeafMatchesModel" "flitches" "[I") ∈ wA := ku_4 81 rfl rfl
theorem kw_4_85 : (Jvm.Cond.fieldLink "LeafMatchesModel" (22 : Nat) "LeafMatchesModel" "orders" "[I") ∈ wA := ku_4 85 rfl rfl
theorem kw_4_86 : (Jvm.Cond.fieldLink "LeafMatchesModel" (25 : Nat) "LeafMatchesModel" "used" "[Z") ∈ wA := ku_4 86 rfl rfl
theorem kw_4_88 : (Jvm.Cond.fieldLink "LeafMatchesModel" (81 : Nat) "LeafMatchesModel" "faces" "I") ∈ wA := ku_4 88 rfl rfl
theorem kw_4_92 : (Jvm.Cond.fieldLink "LeafMatchesModel" (142 : Nat) "LeafMatchesModel" "wants" "I") ∈ wA := ku_4 92 rfl rfl
theorem kw_4_94 : (Jvm.Cond.fieldLink "LeafMatchesModel" (70 : Nat) "LeafMatchesModel" "planned" "Z") ∈ wA := ku_4 94 rfl rfl
theorem kw_4_95 : (Jvm.Cond.fieldLink "LeafMatchesModel" (44 : Nat) "LeafMatchesModel" "planFirst" "[I") ∈ wA := ku_4 95 rfl rfl
theorem kw_4_96 : (Jvm.Cond.fieldLink "LeafMatchesModel" (47 : Nat) "LeafMatchesModel" "planMany" "[I") ∈ wA := ku_4 96 rfl rfl
theorem kw_4_100 : (Jvm.Cond.fieldLink "LeafMatchesModel" (56 : Nat) "LeafMatchesModel" "text" "[I") ∈ wA := ku_4 100 rfl rfl
theorem kw_4_155 : (Jvm.Cond.methodLink "LeafMatchesModel" (66 : Nat) ({ cls := "LeafMatchesModel", name := "isIn", desc := "(III)Z" } : Jvm.MethodName)) ∈ wA := ku_4 155 rfl rfl
theorem kw_4_156 : (Jvm.Cond.static ({ cls := "LeafMatchesModel", name := "isIn", desc := "(III)Z" } : Jvm.MethodName)) ∈ wA := ku_4 156 rfl rfl
theorem kw_4_157 : (Jvm.Cond.code ({ cls := "LeafMatchesModel", name := "isIn", desc := "(III)Z" } : Jvm.MethodName) prog_7_method_3_code (3 : Nat) (Option.some Jvm.ClassFile.FieldType.boolean)) ∈ wA := ku_4 157 rfl rfl
theorem kw_4_170 : (Jvm.Cond.methodLink "LeafMatchesModel" (77 : Nat) ({ cls := "LeafMatchesModel", name := "fillRow", desc := "(I)V" } : Jvm.MethodName)) ∈ wA := ku_4 170 rfl rfl
theorem kw_4_172 : (Jvm.Cond.instanceMethod ({ cls := "LeafMatchesModel", name := "fillRow", desc := "(I)V" } : Jvm.MethodName)) ∈ wA := ku_4 172 rfl rfl
theorem kw_4_173 : (Jvm.Cond.code ({ cls := "LeafMatchesModel", name := "fillRow", desc := "(I)V" } : Jvm.MethodName) prog_7_method_7_code (4 : Nat) (Option.none : Option Jvm.ClassFile.FieldType)) ∈ wA := ku_4 173 rfl rfl
theorem kw_4_178 : (Jvm.Cond.methodLink "LeafMatchesModel" (84 : Nat) ({ cls := "LeafMatchesModel", name := "noFace", desc := "(I)Z" } : Jvm.MethodName)) ∈ wA := ku_4 178 rfl rfl
theorem kw_4_180 : (Jvm.Cond.instanceMethod ({ cls := "LeafMatchesModel", name := "noFace", desc := "(I)Z" } : Jvm.MethodName)) ∈ wA := ku_4 180 rfl rfl
theorem kw_4_181 : (Jvm.Cond.code ({ cls := "LeafMatchesModel", name := "noFace", desc := "(I)Z" } : Jvm.MethodName) prog_7_method_9_code (2 : Nat) (Option.some Jvm.ClassFile.FieldType.boolean)) ∈ wA := ku_4 181 rfl rfl
theorem kw_4_186 : (Jvm.Cond.methodLink "LeafMatchesModel" (119 : Nat) ({ cls := "LeafMatchesModel", name := "noPiece", desc := "(II)Z" } : Jvm.MethodName)) ∈ wA := ku_4 186 rfl rfl
theorem kw_4_188 : (Jvm.Cond.instanceMethod ({ cls := "LeafMatchesModel", name := "noPiece", desc := "(II)Z" } : Jvm.MethodName)) ∈ wA := ku_4 188 rfl rfl
theorem kw_4_189 : (Jvm.Cond.code ({ cls := "LeafMatchesModel", name := "noPiece", desc := "(II)Z" } : Jvm.MethodName) prog_7_method_23_code (3 : Nat) (Option.some Jvm.ClassFile.FieldType.boolean)) ∈ wA := ku_4 189 rfl rfl
theorem kw_4_234 : (Jvm.Cond.methodLink "LeafMatchesModel" (125 : Nat) ({ cls := "LeafMatchesModel", name := "leastTop", desc := "(I)I" } : Jvm.MethodName)) ∈ wA := ku_4 234 rfl rfl
theorem kw_4_236 : (Jvm.Cond.instanceMethod ({ cls := "LeafMatchesModel", name := "leastTop", desc := "(I)I" } : Jvm.MethodName)) ∈ wA := ku_4 236 rfl rfl
theorem kw_4_237 : (Jvm.Cond.code ({ cls := "LeafMatchesModel", name := "leastTop", desc := "(I)I" } : Jvm.MethodName) prog_7_method_22_code (5 : Nat) (Option.some Jvm.ClassFile.FieldType.int)) ∈ wA := ku_4 237 rfl rfl
theorem kw_5_2 : (Jvm.Cond.constant "LeafMatchesModel" (129 : Nat) (-1000000 : Int32)) ∈ wA := ku_5 2 rfl rfl
theorem kw_5_3 : (Jvm.Cond.methodLink "LeafMatchesModel" (130 : Nat) ({ cls := "LeafMatchesModel", name := "wideOf", desc := "(I)I" } : Jvm.MethodName)) ∈ wA := ku_5 3 rfl rfl
theorem kw_5_5 : (Jvm.Cond.instanceMethod ({ cls := "LeafMatchesModel", name := "wideOf", desc := "(I)I" } : Jvm.MethodName)) ∈ wA := ku_5 5 rfl rfl
theorem kw_5_6 : (Jvm.Cond.code ({ cls := "LeafMatchesModel", name := "wideOf", desc := "(I)I" } : Jvm.MethodName) prog_7_method_26_code (5 : Nat) (Option.some Jvm.ClassFile.FieldType.int)) ∈ wA := ku_5 6 rfl rfl
theorem kw_5_11 : (Jvm.Cond.methodLink "LeafMatchesModel" (136 : Nat) ({ cls := "LeafMatchesModel", name := "noSeam", desc := "(II)Z" } : Jvm.MethodName)) ∈ wA := ku_5 11 rfl rfl
theorem kw_5_13 : (Jvm.Cond.instanceMethod ({ cls := "LeafMatchesModel", name := "noSeam", desc := "(II)Z" } : Jvm.MethodName)) ∈ wA := ku_5 13 rfl rfl
theorem kw_5_14 : (Jvm.Cond.code ({ cls := "LeafMatchesModel", name := "noSeam", desc := "(II)Z" } : Jvm.MethodName) prog_7_method_28_code (3 : Nat) (Option.some Jvm.ClassFile.FieldType.boolean)) ∈ wA := ku_5 14 rfl rfl
theorem kw_5_15 : (Jvm.Cond.methodLink "LeafMatchesModel" (133 : Nat) ({ cls := "LeafMatchesModel", name := "seams", desc := "(I)I" } : Jvm.MethodName)) ∈ wA := ku_5 15 rfl rfl
theorem kw_5_17 : (Jvm.Cond.instanceMethod ({ cls := "LeafMatchesModel", name := "seams", desc := "(I)I" } : Jvm.MethodName)) ∈ wA := ku_5 17 rfl rfl
theorem kw_5_18 : (Jvm.Cond.code ({ cls := "LeafMatchesModel", name := "seams", desc := "(I)I" } : Jvm.MethodName) prog_7_method_16_code (2 : Nat) (Option.some Jvm.ClassFile.FieldType.int)) ∈ wA := ku_5 18 rfl rfl
theorem kw_5_35 : (Jvm.Cond.methodLink "LeafMatchesModel" (139 : Nat) ({ cls := "LeafMatchesModel", name := "writeNumber", desc := "(II)I" } : Jvm.MethodName)) ∈ wA := ku_5 35 rfl rfl
theorem kw_5_37 : (Jvm.Cond.instanceMethod ({ cls := "LeafMatchesModel", name := "writeNumber", desc := "(II)I" } : Jvm.MethodName)) ∈ wA := ku_5 37 rfl rfl
theorem kw_5_38 : (Jvm.Cond.code ({ cls := "LeafMatchesModel", name := "writeNumber", desc := "(II)I" } : Jvm.MethodName) prog_7_method_33_code (6 : Nat) (Option.some Jvm.ClassFile.FieldType.int)) ∈ wA := ku_5 38 rfl rfl
theorem kw_5_52 : (Jvm.Cond.methodLink "LeafMatchesModel" (152 : Nat) ({ cls := "LeafMatchesModel", name := "lossWith", desc := "(III)I" } : Jvm.MethodName)) ∈ wA := ku_5 52 rfl rfl
theorem kw_5_54 : (Jvm.Cond.instanceMethod ({ cls := "LeafMatchesModel", name := "lossWith", desc := "(III)I" } : Jvm.MethodName)) ∈ wA := ku_5 54 rfl rfl
theorem kw_5_55 : (Jvm.Cond.code ({ cls := "LeafMatchesModel", name := "lossWith", desc := "(III)I" } : Jvm.MethodName) prog_7_method_39_code (5 : Nat) (Option.some Jvm.ClassFile.FieldType.int)) ∈ wA := ku_5 55 rfl rfl
theorem kw_5_64 : (Jvm.Cond.methodLink "LeafMatchesModel" (155 : Nat) ({ cls := "LeafMatchesModel", name := "walk", desc := "(I)V" } : Jvm.MethodName)) ∈ wA := ku_5 64 rfl rfl
theorem kw_5_66 : (Jvm.Cond.instanceMethod ({ cls := "LeafMatchesModel", name := "walk", desc := "(I)V" } : Jvm.MethodName)) ∈ wA := ku_5 66 rfl rfl
theorem kw_5_67 : (Jvm.Cond.code ({ cls := "LeafMatchesModel", name := "walk", desc := "(I)V" } : Jvm.MethodName) prog_7_method_41_code (5 : Nat) (Option.none : Option Jvm.ClassFile.FieldType)) ∈ wA := ku_5 67 rfl rfl
theorem d_Mod_leaf_0 : decode b_Mod_leaf 0 = .ok (.iconst 0, 1) := by decide +kernel
theorem d_Mod_leaf_1 : decode b_Mod_leaf 1 = .ok (.istore 5, 2) := by decide +kernel
theorem d_Mod_leaf_3 : decode b_Mod_leaf 3 = .ok (.iconst 0, 1) := by decide +kernel
theorem d_Mod_leaf_4 : decode b_Mod_leaf 4 = .ok (.istore 6, 2) := by decide +kernel
theorem d_Mod_leaf_6 : decode b_Mod_leaf 6 = .ok (.iload 6, 2) := by decide +kernel
theorem d_Mod_leaf_8 : decode b_Mod_leaf 8 = .ok (.aload_n 0, 1) := by decide +kernel
theorem d_Mod_leaf_9 : decode b_Mod_leaf 9 = .ok (.getfield 63, 3) := by decide +kernel
theorem d_Mod_leaf_12 : decode b_Mod_leaf 12 = .ok (.if_icmp .ge 43, 3) := by decide +kernel
theorem d_Mod_leaf_15 : decode b_Mod_leaf 15 = .ok (.iload 5, 2) := by decide +kernel
theorem d_Mod_leaf_17 : decode b_Mod_leaf 17 = .ok (.ifCond .ne 25, 3) := by decide +kernel
theorem d_Mod_leaf_20 : decode b_Mod_leaf 20 = .ok (.aload_n 0, 1) := by decide +kernel
theorem d_Mod_leaf_21 : decode b_Mod_leaf 21 = .ok (.getfield 7, 3) := by decide +kernel
theorem d_Mod_leaf_24 : decode b_Mod_leaf 24 = .ok (.iload 6, 2) := by decide +kernel
theorem d_Mod_leaf_26 : decode b_Mod_leaf 26 = .ok (.iaload, 1) := by decide +kernel
theorem d_Mod_leaf_27 : decode b_Mod_leaf 27 = .ok (.iload_n 1, 1) := by decide +kernel
theorem d_Mod_leaf_28 : decode b_Mod_leaf 28 = .ok (.if_icmp .ne 18, 3) := by decide +kernel
theorem d_Mod_leaf_31 : decode b_Mod_leaf 31 = .ok (.aload_n 0, 1) := by decide +kernel
theorem d_Mod_leaf_32 : decode b_Mod_leaf 32 = .ok (.getfield 13, 3) := by decide +kernel
theorem d_Mod_leaf_35 : decode b_Mod_leaf 35 = .ok (.iload 6, 2) := by decide +kernel
theorem d_Mod_leaf_37 : decode b_Mod_leaf 37 = .ok (.iaload, 1) := by decide +kernel
theorem d_Mod_leaf_38 : decode b_Mod_leaf 38 = .ok (.iload_n 2, 1) := by decide +kernel
theorem d_Mod_leaf_39 : decode b_Mod_leaf 39 = .ok (.if_icmp .ne 7, 3) := by decide +kernel
theorem d_Mod_leaf_42 : decode b_Mod_leaf 42 = .ok (.iconst 1, 1) := by decide +kernel
theorem d_Mod_leaf_43 : decode b_Mod_leaf 43 = .ok (.goto 4, 3) := by decide +kernel
theorem d_Mod_leaf_46 : decode b_Mod_leaf 46 = .ok (.iconst 0, 1) := by decide +kernel
theorem d_Mod_leaf_47 : decode b_Mod_leaf 47 = .ok (.istore 5, 2) := by decide +kernel
theorem d_Mod_leaf_49 : decode b_Mod_leaf 49 = .ok (.iinc 6 1, 3) := by decide +kernel
theorem d_Mod_leaf_52 : decode b_Mod_leaf 52 = .ok (.goto (-46), 3) := by decide +kernel
theorem d_Mod_leaf_55 : decode b_Mod_leaf 55 = .ok (.iload_n 1, 1) := by decide +kernel
theorem d_Mod_leaf_56 : decode b_Mod_leaf 56 = .ok (.iconst 0, 1) := by decide +kernel
theorem d_Mod_leaf_57 : decode b_Mod_leaf 57 = .ok (.iconst 3, 1) := by decide +kernel
theorem d_Mod_leaf_58 : decode b_Mod_leaf 58 = .ok (.invokestatic 66, 3) := by decide +kernel
theorem d_Mod_leaf_61 : decode b_Mod_leaf 61 = .ok (.ifCond .eq 39, 3) := by decide +kernel
theorem d_Mod_leaf_64 : decode b_Mod_leaf 64 = .ok (.iload_n 2, 1) := by decide +kernel
theorem d_Mod_leaf_65 : decode b_Mod_leaf 65 = .ok (.iconst 0, 1) := by decide +kernel
theorem d_Mod_leaf_66 : decode b_Mod_leaf 66 = .ok (.sipush 1000, 3) := by decide +kernel
theorem d_Mod_leaf_69 : decode b_Mod_leaf 69 = .ok (.invokestatic 66, 3) := by decide +kernel
theorem d_Mod_leaf_72 : decode b_Mod_leaf 72 = .ok (.ifCond .eq 28, 3) := by decide +kernel
theorem d_Mod_leaf_75 : decode b_Mod_leaf 75 = .ok (.iload_n 3, 1) := by decide +kernel
theorem d_Mod_leaf_76 : decode b_Mod_leaf 76 = .ok (.iconst 1, 1) := by decide +kernel
theorem d_Mod_leaf_77 : decode b_Mod_leaf 77 = .ok (.bipush 12, 2) := by decide +kernel
theorem d_Mod_leaf_79 : decode b_Mod_leaf 79 = .ok (.invokestatic 66, 3) := by decide +kernel
theorem d_Mod_leaf_82 : decode b_Mod_leaf 82 = .ok (.ifCond .eq 18, 3) := by decide +kernel
theorem d_Mod_leaf_85 : decode b_Mod_leaf 85 = .ok (.iload 4, 2) := by decide +kernel
theorem d_Mod_leaf_87 : decode b_Mod_leaf 87 = .ok (.iconst 1, 1) := by decide +kernel
theorem d_Mod_leaf_88 : decode b_Mod_leaf 88 = .ok (.bipush 12, 2) := by decide +kernel
theorem d_Mod_leaf_90 : decode b_Mod_leaf 90 = .ok (.invokestatic 66, 3) := by decide +kernel
theorem d_Mod_leaf_93 : decode b_Mod_leaf 93 = .ok (.ifCond .eq 7, 3) := by decide +kernel
theorem d_Mod_leaf_96 : decode b_Mod_leaf 96 = .ok (.iconst 1, 1) := by decide +kernel
theorem d_Mod_leaf_97 : decode b_Mod_leaf 97 = .ok (.goto 4, 3) := by decide +kernel
theorem d_Mod_leaf_100 : decode b_Mod_leaf 100 = .ok (.iconst 0, 1) := by decide +kernel
theorem d_Mod_leaf_101 : decode b_Mod_leaf 101 = .ok (.istore 6, 2) := by decide +kernel
theorem d_Mod_leaf_103 : decode b_Mod_leaf 103 = .ok (.aload_n 0, 1) := by decide +kernel
theorem d_Mod_leaf_104 : decode b_Mod_leaf 104 = .ok (.aload_n 0, 1) := by decide +kernel
theorem d_Mod_leaf_105 : decode b_Mod_leaf 105 = .ok (.getfield 63, 3) := by decide +kernel
theorem d_Mod_leaf_108 : decode b_Mod_leaf 108 = .ok (.bipush 32, 2) := by decide +kernel
theorem d_Mod_leaf_110 : decode b_Mod_leaf 110 = .ok (.if_icmp .eq 8, 3) := by decide +kernel
theorem d_Mod_leaf_113 : decode b_Mod_leaf 113 = .ok (.iload 5, 2) := by decide +kernel
theorem d_Mod_leaf_115 : decode b_Mod_leaf 115 = .ok (.ifCond .eq 7, 3) := by decide +kernel
theorem d_Mod_leaf_118 : decode b_Mod_leaf 118 = .ok (.iconst 1, 1) := by decide +kernel
theorem d_Mod_leaf_119 : decode b_Mod_leaf 119 = .ok (.goto 13, 3) := by decide +kernel
theorem d_Mod_leaf_122 : decode b_Mod_leaf 122 = .ok (.iload 6, 2) := by decide +kernel
theorem d_Mod_leaf_124 : decode b_Mod_leaf 124 = .ok (.ifCond .eq 7, 3) := by decide +kernel
theorem d_Mod_leaf_127 : decode b_Mod_leaf 127 = .ok (.iconst 0, 1) := by decide +kernel
theorem d_Mod_leaf_128 : decode b_Mod_leaf 128 = .ok (.goto 4, 3) := by decide +kernel
theorem d_Mod_leaf_131 : decode b_Mod_leaf 131 = .ok (.iconst 2, 1) := by decide +kernel
theorem d_Mod_leaf_132 : decode b_Mod_leaf 132 = .ok (.putfield 59, 3) := by decide +kernel
theorem d_Mod_leaf_135 : decode b_Mod_leaf 135 = .ok (.aload_n 0, 1) := by decide +kernel
theorem d_Mod_leaf_136 : decode b_Mod_leaf 136 = .ok (.getfield 59, 3) := by decide +kernel
theorem d_Mod_leaf_139 : decode b_Mod_leaf 139 = .ok (.ifCond .le 5, 3) := by decide +kernel
theorem d_Mod_leaf_142 : decode b_Mod_leaf 142 = .ok (.iconst 0, 1) := by decide +kernel
theorem d_Mod_leaf_143 : decode b_Mod_leaf 143 = .ok (.ireturn, 1) := by decide +kernel
theorem d_Mod_leaf_144 : decode b_Mod_leaf 144 = .ok (.aload_n 0, 1) := by decide +kernel
theorem d_Mod_leaf_145 : decode b_Mod_leaf 145 = .ok (.getfield 7, 3) := by decide +kernel
theorem d_Mod_leaf_148 : decode b_Mod_leaf 148 = .ok (.aload_n 0, 1) := by decide +kernel
theorem d_Mod_leaf_149 : decode b_Mod_leaf 149 = .ok (.getfield 63, 3) := by decide +kernel
theorem d_Mod_leaf_152 : decode b_Mod_leaf 152 = .ok (.iload_n 1, 1) := by decide +kernel
theorem d_Mod_leaf_153 : decode b_Mod_leaf 153 = .ok (.iastore, 1) := by decide +kernel
theorem d_Mod_leaf_154 : decode b_Mod_leaf 154 = .ok (.aload_n 0, 1) := by decide +kernel
theorem d_Mod_leaf_155 : decode b_Mod_leaf 155 = .ok (.getfield 13, 3) := by decide +kernel
theorem d_Mod_leaf_158 : decode b_Mod_leaf 158 = .ok (.aload_n 0, 1) := by decide +kernel
theorem d_Mod_leaf_159 : decode b_Mod_leaf 159 = .ok (.getfield 63, 3) := by decide +kernel
theorem d_Mod_leaf_162 : decode b_Mod_leaf 162 = .ok (.iload_n 2, 1) := by decide +kernel
theorem d_Mod_leaf_163 : decode b_Mod_leaf 163 = .ok (.iastore, 1) := by decide +kernel
theorem d_Mod_leaf_164 : decode b_Mod_leaf 164 = .ok (.aload_n 0, 1) := by decide +kernel
theorem d_Mod_leaf_165 : decode b_Mod_leaf 165 = .ok (.getfield 16, 3) := by decide +kernel
theorem d_Mod_leaf_168 : decode b_Mod_leaf 168 = .ok (.aload_n 0, 1) := by decide +kernel
theorem d_Mod_leaf_169 : decode b_Mod_leaf 169 = .ok (.getfield 63, 3) := by decide +kernel
theorem d_Mod_leaf_172 : decode b_Mod_leaf 172 = .ok (.iload_n 3, 1) := by decide +kernel
theorem d_Mod_leaf_173 : decode b_Mod_leaf 173 = .ok (.iastore, 1) := by decide +kernel
theorem d_Mod_leaf_174 : decode b_Mod_leaf 174 = .ok (.aload_n 0, 1) := by decide +kernel
theorem d_Mod_leaf_175 : decode b_Mod_leaf 175 = .ok (.getfield 19, 3) := by decide +kernel
theorem d_Mod_leaf_178 : decode b_Mod_leaf 178 = .ok (.aload_n 0, 1) := by decide +kernel
theorem d_Mod_leaf_179 : decode b_Mod_leaf 179 = .ok (.getfield 63, 3) := by decide +kernel
theorem d_Mod_leaf_182 : decode b_Mod_leaf 182 = .ok (.iload 4, 2) := by decide +kernel
theorem d_Mod_leaf_184 : decode b_Mod_leaf 184 = .ok (.iastore, 1) := by decide +kernel
theorem d_Mod_leaf_185 : decode b_Mod_leaf 185 = .ok (.aload_n 0, 1) := by decide +kernel
theorem d_Mod_leaf_186 : decode b_Mod_leaf 186 = .ok (.dup, 1) := by decide +kernel
theorem d_Mod_leaf_187 : decode b_Mod_leaf 187 = .ok (.getfield 63, 3) := by decide +kernel
theorem d_Mod_leaf_190 : decode b_Mod_leaf 190 = .ok (.iconst 1, 1) := by decide +kernel
theorem d_Mod_leaf_191 : decode b_Mod_leaf 191 = .ok (.iadd, 1) := by decide +kernel
theorem d_Mod_leaf_192 : decode b_Mod_leaf 192 = .ok (.putfield 63, 3) := by decide +kernel
theorem d_Mod_leaf_195 : decode b_Mod_leaf 195 = .ok (.aload_n 0, 1) := by decide +kernel
theorem d_Mod_leaf_196 : decode b_Mod_leaf 196 = .ok (.iconst 0, 1) := by decide +kernel
theorem d_Mod_leaf_197 : decode b_Mod_leaf 197 = .ok (.putfield 70, 3) := by decide +kernel
theorem d_Mod_leaf_200 : decode b_Mod_leaf 200 = .ok (.aload_n 0, 1) := by decide +kernel
theorem d_Mod_leaf_201 : decode b_Mod_leaf 201 = .ok (.getfield 63, 3) := by decide +kernel
theorem d_Mod_leaf_204 : decode b_Mod_leaf 204 = .ok (.iconst 1, 1) := by decide +kernel
theorem d_Mod_leaf_205 : decode b_Mod_leaf 205 = .ok (.isub, 1) := by decide +kernel
theorem d_Mod_leaf_206 : decode b_Mod_leaf 206 = .ok (.ireturn, 1) := by decide +kernel
def f_Mod_leaf_L6 (w : Mp) (h0 : Nat) (x1 : Int32) (x2 : Int32) (x3 : Int32) (x4 : Int32) : Nat → Int32 → Int32 → Option (Nat × Int32 × Int32)
  | 0, _, _ => none
  | n + 1, x5, x6 => (gI w (some h0) 5 1).bind fun v_1 => if v_1 ≤ x6 then (some (0, x5, x6)) else (if x5 = 0 then ((gR w (some h0) 5 2).bind fun v_2 => (aI w v_2 0 x6).bind fun v_3 => if v_3 = x1 then ((gR w (some h0) 5 3).bind fun v_4 => (aI w v_4 0 x6).bind fun v_5 => if v_5 = x2 then (f_Mod_leaf_L6 w h0 x1 x2 x3 x4 n (1 : Int32) (x6 + 1)) else (f_Mod_leaf_L6 w h0 x1 x2 x3 x4 n (0 : Int32) (x6 + 1))) else (f_Mod_leaf_L6 w h0 x1 x2 x3 x4 n (0 : Int32) (x6 + 1))) else (f_Mod_leaf_L6 w h0 x1 x2 x3 x4 n (1 : Int32) (x6 + 1)))
set_option maxHeartbeats 4000000 in
set_option maxRecDepth 100000 in
theorem w_Mod_leaf_L6 {p : Program} {l : Launch} {e : Env} {R : Room} {s : State} {m : MethodId} {args : Array Value} {below : List Frame} {meth : Method} {c : Code} {Q : State → Prop} {cells slots sz : Nat} {G : Gx} {h0 : Nat} {x1 : Int32} {x2 : Int32} {x3 : Int32} {x4 : Int32} (C0 : CallFix p m c b_Mod_leaf 7 s args wA R_Mod) (hE : xE G vwCl xaty s) (hR1 : 1 ≤ R.frames) (hR2 : 22 ≤ R.locals) (hR3 : cells ≤ R.cells) (hR4 : slots ≤ R.slots) {w : Mp} {H : Heap} {locs : List Loc} (hH : xhd G vwCl w H) (hS : xS G s H locs) (hz : H.size = sz) : ∀ (n : Nat) (x5 : Int32) (x6 : Int32) (q : Nat × Int32 × Int32) (ls : Array Slot), xL ls 7 [(0, .inr (.inl (some h0))), (1, .inl x1), (2, .inl x2), (3, .inl x3), (4, .inl x4), (5, .inl x5), (6, .inl x6)] → f_Mod_leaf_L6 w h0 x1 x2 x3 x4 n x5 x6 = some q → (∀ (ls : Array Slot), xL ls 7 [(0, .inr (.inl (some h0))), (1, .inl x1), (2, .inl x2), (3, .inl x3), (4, .inl x4), (5, .inl q.2.1), (6, .inl q.2.2)] → W p l e R s m args below meth c H locs cells slots Q (F0 m 55 ls [])) → W p l e R s m args below meth c H locs cells slots Q (F0 m 6 ls []) := by
  intro n
  induction n with
  | zero => intro _ _ q ls hl h; cases h
  | succ n ih =>
    intro x5 x6 q ls hl h K
    rw [f_Mod_leaf_L6] at h
    refine x_iload C0 hl 6 d_Mod_leaf_6 rfl ?_
    refine x_aload_n C0 hl 0 d_Mod_leaf_8 rfl rfl ?_
    refine x_getI C0 hE hH (ci := 5) rfl i_Mod 1 (by decide) kw_4_80 d_Mod_leaf_9 h (fun v_1 h => ?_)
    refine x_icmp_ge C0 55 d_Mod_leaf_12 (by decide) h (fun h => ?_) (fun h => ?_)
    · cases h
      exact K ls (x_sub hl [0, 1, 2, 3, 4, 5, 6] rfl)
    · refine x_iload C0 hl 5 d_Mod_leaf_15 rfl ?_
      refine x_if_ne C0 42 d_Mod_leaf_17 (by decide) h (fun h => ?_) (fun h => ?_)
      · refine lv_iconst (v := 1) C0.1 C0.2.1 d_Mod_leaf_42 (by decide) ?_
        refine x_goto C0 47 d_Mod_leaf_43 (by decide) ?_
        refine x_istore (lv' := [(5, .inl (1 : Int32)), (0, .inr (.inl (some h0))), (1, .inl x1), (2, .inl x2), (3, .inl x3), (4, .inl x4), (6, .inl x6)]) C0 hl d_Mod_leaf_47 (by decide) rfl (fun ls hl => ?_)
        refine x_iinc (v := 1) (lv' := [(6, .inl (x6 + 1)), (5, .inl (1 : Int32)), (0, .inr (.inl (some h0))), (1, .inl x1), (2, .inl x2), (3, .inl x3), (4, .inl x4)]) C0 hl 6 d_Mod_leaf_49 rfl (by decide) (by decide) rfl (fun ls hl => ?_)
        refine x_goto C0 6 d_Mod_leaf_52 (by decide) ?_
        exact ih _ _ q ls (x_sub hl [2, 3, 4, 5, 6, 1, 0] rfl) h K
      · refine x_aload_n C0 hl 0 d_Mod_leaf_20 rfl rfl ?_
        refine x_getR C0 hE hH (ci := 5) rfl i_Mod 2 (by decide) kw_4_81 d_Mod_leaf_21 h (fun v_2 h => ?_)
        refine x_iload C0 hl 6 d_Mod_leaf_24 rfl ?_
        refine x_iald C0 hE hH (t := 0) rfl d_Mod_leaf_26 h (fun v_3 h => ?_)
        refine x_iload_n C0 hl 1 d_Mod_leaf_27 rfl rfl ?_
        refine x_icmp_ne C0 46 d_Mod_leaf_28 (by decide) h (fun h => ?_) (fun h => ?_)
        · refine lv_iconst (v := 0) C0.1 C0.2.1 d_Mod_leaf_46 (by decide) ?_
          refine x_istore (lv' := [(5, .inl (0 : Int32)), (0, .inr (.inl (some h0))), (1, .inl x1), (2, .inl x2), (3, .inl x3), (4, .inl x4), (6, .inl x6)]) C0 hl d_Mod_leaf_47 (by decide) rfl (fun ls hl => ?_)
          refine x_iinc (v := 1) (lv' := [(6, .inl (x6 + 1)), (5, .inl (0 : Int32)), (0, .inr (.inl (some h0))), (1, .inl x1), (2, .inl x2), (3, .inl x3), (4, .inl x4)]) C0 hl 6 d_Mod_leaf_49 rfl (by decide) (by decide) rfl (fun ls hl => ?_)
          refine x_goto C0 6 d_Mod_leaf_52 (by decide) ?_
          exact ih _ _ q ls (x_sub hl [2, 3, 4, 5, 6, 1, 0] rfl) h K
        · refine x_aload_n C0 hl 0 d_Mod_leaf_31 rfl rfl ?_
          refine x_getR C0 hE hH (ci := 5) rfl i_Mod 3 (by decide) kw_4_82 d_Mod_leaf_32 h (fun v_4 h => ?_)
          refine x_iload C0 hl 6 d_Mod_leaf_35 rfl ?_
          refine x_iald C0 hE hH (t := 0) rfl d_Mod_leaf_37 h (fun v_5 h => ?_)
          refine x_iload_n C0 hl 2 d_Mod_leaf_38 rfl rfl ?_
          refine x_icmp_ne C0 46 d_Mod_leaf_39 (by decide) h (fun h => ?_) (fun h => ?_)
          · refine lv_iconst (v := 0) C0.1 C0.2.1 d_Mod_leaf_46 (by decide) ?_
            refine x_istore (lv' := [(5, .inl (0 : Int32)), (0, .inr (.inl (some h0))), (1, .inl x1), (2, .inl x2), (3, .inl x3), (4, .inl x4), (6, .inl x6)]) C0 hl d_Mod_leaf_47 (by decide) rfl (fun ls hl => ?_)
            refine x_iinc (v := 1) (lv' := [(6, .inl (x6 + 1)), (5, .inl (0 : Int32)), (0, .inr (.inl (some h0))), (1, .inl x1), (2, .inl x2), (3, .inl x3), (4, .inl x4)]) C0 hl 6 d_Mod_leaf_49 rfl (by decide) (by decide) rfl (fun ls hl => ?_)
            refine x_goto C0 6 d_Mod_leaf_52 (by decide) ?_
            exact ih _ _ q ls (x_sub hl [2, 3, 4, 5, 6, 1, 0] rfl) h K
          · refine lv_iconst (v := 1) C0.1 C0.2.1 d_Mod_leaf_42 (by decide) ?_
            refine x_goto C0 47 d_Mod_leaf_43 (by decide) ?_
            refine x_istore (lv' := [(5, .inl (1 : Int32)), (0, .inr (.inl (some h0))), (1, .inl x1), (2, .inl x2), (3, .inl x3), (4, .inl x4), (6, .inl x6)]) C0 hl d_Mod_leaf_47 (by decide) rfl (fun ls hl => ?_)
            refine x_iinc (v := 1) (lv' := [(6, .inl (x6 + 1)), (5, .inl (1 : Int32)), (0, .inr (.inl (some h0))), (1, .inl x1), (2, .inl x2), (3, .inl x3), (4, .inl x4)]) C0 hl 6 d_Mod_leaf_49 rfl (by decide) (by decide) rfl (fun ls hl => ?_)
            refine x_goto C0 6 d_Mod_leaf_52 (by decide) ?_
            exact ih _ _ q ls (x_sub hl [2, 3, 4, 5, 6, 1, 0] rfl) h K
def f_Mod_leaf (w : Mp) (h0 : Nat) (x1 : Int32) (x2 : Int32) (x3 : Int32) (x4 : Int32) : Option (Int32 × Mp) := (f_Mod_leaf_L6 w h0 x1 x2 x3 x4 100000 (0 : Int32) (0 : Int32)).bind fun q_6 => (f_Mod_isIn w x1 (0 : Int32) (3 : Int32)).bind fun q_7 => xJ1 (fun (x_8 : Int32) => (gI w (some h0) 5 1).bind fun v_10 => xJ1 (fun (x_11 : Int32) => (pF w (some h0) 5 0 (.int x_11)).bind fun w_13 => (gI w_13 (some h0) 5 0).bind fun v_14 => if v_14 ≤ 0 then ((gR w_13 (some h0) 5 2).bind fun v_15 => (gI w_13 (some h0) 5 1).bind fun v_16 => (sI w_13 v_15 0 v_16 x1).bind fun w_17 => (gR w_17 (some h0) 5 3).bind fun v_18 => (gI w_17 (some h0) 5 1).bind fun v_19 => (sI w_17 v_18 0 v_19 x2).bind fun w_20 => (gR w_20 (some h0) 5 4).bind fun v_21 => (gI w_20 (some h0) 5 1).bind fun v_22 => (sI w_20 v_21 0 v_22 x3).bind fun w_23 => (gR w_23 (some h0) 5 5).bind fun v_24 => (gI w_23 (some h0) 5 1).bind fun v_25 => (sI w_23 v_24 0 v_25 x4).bind fun w_26 => (gI w_26 (some h0) 5 1).bind fun v_27 => (pF w_26 (some h0) 5 1 (.int (v_27 + (1 : Int32)))).bind fun w_28 => (pF w_28 (some h0) 5 15 (.int (0 : Int32))).bind fun w_29 => (gI w_29 (some h0) 5 1).bind fun v_30 => some (v_30 - (1 : Int32), w_29)) else (some ((0 : Int32), w_13))) fun J_12 => if v_10 = (32 : Int32) then (J_12 (1 : Int32)) else (if q_6.2.1 = 0 then (if x_8 = 0 then (J_12 (2 : Int32)) else (J_12 (0 : Int32))) else (J_12 (1 : Int32)))) fun J_9 => if q_7 = 0 then (J_9 (0 : Int32)) else ((f_Mod_isIn w x2 (0 : Int32) (1000 : Int32)).bind fun q_31 => if q_31 = 0 then (J_9 (0 : Int32)) else ((f_Mod_isIn w x3 (1 : Int32) (12 : Int32)).bind fun q_32 => if q_32 = 0 then (J_9 (0 : Int32)) else ((f_Mod_isIn w x4 (1 : Int32) (12 : Int32)).bind fun q_33 => if q_33 = 0 then (J_9 (0 : Int32)) else (J_9 (1 : Int32)))))
set_option maxHeartbeats 4000000 in
set_option maxRecDepth 100000 in
theorem c_Mod_leaf (l : Launch) (G : Gx) (w : Mp) (sz : Nat) (h0 : Nat) (x1 : Int32) (x2 : Int32) (x3 : Int32) (x4 : Int32) (res : Int32 × Mp) (hf : f_Mod_leaf w h0 x1 x2 x3 x4 = some res) : Met l y_Mod_leaf (xws y_Mod_leaf b_Mod_leaf 7 (some .int)) { frames := 1, cells := 0, slots := 0, locals := 22 } (xPc G vwCl xaty w sz [va_rf (some h0), .int x1, .int x2, .int x3, .int x4]) (xQ G vwCl (some (.int res.1)) res.2 sz) (0) (0) (xA G) := by
  refine Met.ofW (cc := b_Mod_leaf) (maxL := 7) (ret := (some .int)) (by decide) rfl ?_
  intro p e s m args below meth c s₁ B hml hv
  obtain ⟨ha, hE, hH, hz⟩ := hv
  have C0 : CallFix p m c b_Mod_leaf 7 s args wA R_Mod := ⟨B.exec, B.bytes, hml, findClass_of_methodNamed B.named, fun w hw => atoms_spec (ws := xws y_Mod_leaf b_Mod_leaf 7 (some .int)) B.pre w (List.mem_cons_of_mem _ hw)⟩
  have hr := B.returns
  have hlocks := B.notSynchronized
  obtain ⟨R, hR⟩ : ∃ R, R = (headSpec (xws y_Mod_leaf b_Mod_leaf 7 (some .int)) { frames := 1, cells := 0, slots := 0, locals := 22 }).room := ⟨_, rfl⟩
  have hR1 : 1 ≤ R.frames := by rw [hR]; exact Nat.le_of_ble_eq_true rfl
  have hR2 : 22 ≤ R.locals := by rw [hR]; exact Nat.le_of_ble_eq_true rfl
  have hR3 : 0 ≤ R.cells := by rw [hR]; exact Nat.le_refl _
  have hR4 : 0 ≤ R.slots := by rw [hR]; exact Nat.le_refl _
  rw [← hR]
  obtain ⟨Q, hQ⟩ : ∃ Q, Q = MQ below (xQ G vwCl (some (.int res.1)) res.2 sz) args s (0) (0) (xA G) := ⟨_, rfl⟩
  rw [← hQ]
  have hS : xS G s s.heap [] := va_S.rf
  obtain ⟨ls, he, hl⟩ := x_entry m [.inr (.inl (some h0)), .inl x1, .inl x2, .inl x3, .inl x4] 7 (Nat.le_of_ble_eq_true rfl)
  rw [show entryFrame m args 7 = F0 m 0 ls [] by rw [ha]; exact he]
  have hl : xL ls 7 [(0, .inr (.inl (some h0))), (1, .inl x1), (2, .inl x2), (3, .inl x3), (4, .inl x4)] := hl
  have h := hf
  unfold f_Mod_leaf at h
  suffices hmain : ∀ (H : Heap) (locs : List Loc), xhd G vwCl w H → xS G s H locs → H.size = sz → (H = s.heap ∧ locs = []) → W p l e R s m args below meth c H locs 0 0 Q (F0 m 0 ls []) from hmain _ _ hH hS hz ⟨rfl, rfl⟩
  clear hH hS hz
  intro H locs hH hS hz hP0
  refine lv_iconst (v := 0) C0.1 C0.2.1 d_Mod_leaf_0 (by decide) ?_
  refine x_istore (lv' := [(5, .inl (0 : Int32)), (0, .inr (.inl (some h0))), (1, .inl x1), (2, .inl x2), (3, .inl x3), (4, .inl x4)]) C0 hl d_Mod_leaf_1 (by decide) rfl (fun ls hl => ?_)
  refine lv_iconst (v := 0) C0.1 C0.2.1 d_Mod_leaf_3 (by decide) ?_
  refine x_istore (lv' := [(6, .inl (0 : Int32)), (5, .inl (0 : Int32)), (0, .inr (.inl (some h0))), (1, .inl x1), (2, .inl x2), (3, .inl x3), (4, .inl x4)]) C0 hl d_Mod_leaf_4 (by decide) rfl (fun ls hl => ?_)
  obtain ⟨q_6, e9, h⟩ := Option.bind_eq_some_iff.mp h
  refine w_Mod_leaf_L6 C0 hE hR1 hR2 hR3 hR4 hH hS hz 100000 _ _ q_6 ls (x_sub hl [2, 3, 4, 5, 6, 1, 0] rfl) e9 (fun ls hl => ?_)
  refine x_iload_n C0 hl 1 d_Mod_leaf_55 rfl rfl ?_
  refine lv_iconst (v := 0) C0.1 C0.2.1 d_Mod_leaf_56 (by decide) ?_
  refine lv_iconst (v := 3) C0.1 C0.2.1 d_Mod_leaf_57 (by decide) ?_
  obtain ⟨q_7, e9, h⟩ := Option.bind_eq_some_iff.mp h
  refine x_callP (va_runS (As := [.int x1, .int (0 : Int32), .int (3 : Int32)]) (rest := []) C0 (c_Mod_isIn l G w _ x1 (0 : Int32) (3 : Int32) q_7 e9) (x_cwS 3 C0 kw_4_155 kw_4_157 kw_1_3 kw_4_156 (by decide +kernel) (x_rm hR1 hR2 (Nat.le_of_ble_eq_true rfl) (Nat.le_of_ble_eq_true rfl))) (x_preS hE hH hS) rfl rfl hl.1 rfl (lv_room (by first | exact Nat.le_of_ble_eq_true rfl | simp only [List.map_cons, List.map_nil, List.sum_cons, List.sum_nil, va_rf_cat, x_catI, x_catL, x_catA] <;> decide)) d_Mod_leaf_58 (x_le0 hR3 hR4)) ?_
  refine xj1 h (fun J_9 eJ_9 h => ?_)
  have kJ_9 : ∀ (x_8 : Int32) (ls : Array Slot), xL ls 7 [(0, .inr (.inl (some h0))), (1, .inl x1), (2, .inl x2), (3, .inl x3), (4, .inl x4), (5, .inl q_6.2.1)] → J_9 x_8 = some res → W p l e R s m args below meth c H locs 0 0 Q (F0 m 101 ls [.int x_8]) := by
    intro x_8 ls hl h
    rw [eJ_9] at h
    refine x_istore (lv' := [(6, .inl x_8), (0, .inr (.inl (some h0))), (1, .inl x1), (2, .inl x2), (3, .inl x3), (4, .inl x4), (5, .inl q_6.2.1)]) C0 hl d_Mod_leaf_101 (by decide) rfl (fun ls hl => ?_)
    refine x_aload_n C0 hl 1 d_Mod_leaf_103 rfl rfl ?_
    refine x_aload_n C0 hl 1 d_Mod_leaf_104 rfl rfl ?_
    refine x_getI C0 hE hH (ci := 5) rfl i_Mod 1 (by decide) kw_4_80 d_Mod_leaf_105 h (fun v_10 h => ?_)
    refine lv_bipush (v := 32) C0.1 C0.2.1 d_Mod_leaf_108 (by decide) ?_
    refine xj1 h (fun J_12 eJ_12 h => ?_)
    have kJ_12 : ∀ (x_11 : Int32) (ls : Array Slot), xL ls 7 [(0, .inr (.inl (some h0))), (1, .inl x1), (2, .inl x2), (3, .inl x3), (4, .inl x4)] → J_12 x_11 = some res → W p l e R s m args below meth c H locs 0 0 Q (F0 m 132 ls [.int x_11, va_rf (some h0)]) := by
      intro x_11 ls hl h
      rw [eJ_12] at h
      refine x_put C0 hE hH hS (ci := 5) rfl i_Mod t_Mod t_Mod_ok n_Mod 0 (by decide) kw_4_79 rfl rfl rfl d_Mod_leaf_132 h (fun w_13 H locs hH hS hz9 h => ?_)
      have hz := hz9.trans hz
      refine x_aload_n C0 hl 0 d_Mod_leaf_135 rfl rfl ?_
      refine x_getI C0 hE hH (ci := 5) rfl i_Mod 0 (by decide) kw_4_79 d_Mod_leaf_136 h (fun v_14 h => ?_)
      refine x_if_le C0 144 d_Mod_leaf_139 (by decide) h (fun h => ?_) (fun h => ?_)
      · refine x_aload_n C0 hl 0 d_Mod_leaf_144 rfl rfl ?_
        refine x_getR C0 hE hH (ci := 5) rfl i_Mod 2 (by decide) kw_4_81 d_Mod_leaf_145 h (fun v_15 h => ?_)
        refine x_aload_n C0 hl 0 d_Mod_leaf_148 rfl rfl ?_
        refine x_getI C0 hE hH (ci := 5) rfl i_Mod 1 (by decide) kw_4_80 d_Mod_leaf_149 h (fun v_16 h => ?_)
        refine x_iload_n C0 hl 1 d_Mod_leaf_152 rfl rfl ?_
        refine x_iast C0 hE hH hS (t := 0) rfl d_Mod_leaf_153 h (fun w_17 H locs hH hS hz9 h => ?_)
        have hz := hz9.trans hz
        refine x_aload_n C0 hl 0 d_Mod_leaf_154 rfl rfl ?_
        refine x_getR C0 hE hH (ci := 5) rfl i_Mod 3 (by decide) kw_4_82 d_Mod_leaf_155 h (fun v_18 h => ?_)
        refine x_aload_n C0 hl 0 d_Mod_leaf_158 rfl rfl ?_
        refine x_getI C0 hE hH (ci := 5) rfl i_Mod 1 (by decide) kw_4_80 d_Mod_leaf_159 h (fun v_19 h => ?_)
        refine x_iload_n C0 hl 2 d_Mod_leaf_162 rfl rfl ?_
        refine x_iast C0 hE hH hS (t := 0) rfl d_Mod_leaf_163 h (fun w_20 H locs hH hS hz9 h => ?_)
        have hz := hz9.trans hz
        refine x_aload_n C0 hl 0 d_Mod_leaf_164 rfl rfl ?_
        refine x_getR C0 hE hH (ci := 5) rfl i_Mod 4 (by decide) kw_4_83 d_Mod_leaf_165 h (fun v_21 h => ?_)
        refine x_aload_n C0 hl 0 d_Mod_leaf_168 rfl rfl ?_
        refine x_getI C0 hE hH (ci := 5) rfl i_Mod 1 (by decide) kw_4_80 d_Mod_leaf_169 h (fun v_22 h => ?_)
        refine x_iload_n C0 hl 3 d_Mod_leaf_172 rfl rfl ?_
        refine x_iast C0 hE hH hS (t := 0) rfl d_Mod_leaf_173 h (fun w_23 H locs hH hS hz9 h => ?_)
        have hz := hz9.trans hz
        refine x_aload_n C0 hl 0 d_Mod_leaf_174 rfl rfl ?_
        refine x_getR C0 hE hH (ci := 5) rfl i_Mod 5 (by decide) kw_4_84 d_Mod_leaf_175 h (fun v_24 h => ?_)
        refine x_aload_n C0 hl 0 d_Mod_leaf_178 rfl rfl ?_
        refine x_getI C0 hE hH (ci := 5) rfl i_Mod 1 (by decide) kw_4_80 d_Mod_leaf_179 h (fun v_25 h => ?_)
        refine x_iload C0 hl 4 d_Mod_leaf_182 rfl ?_
        refine x_iast C0 hE hH hS (t := 0) rfl d_Mod_leaf_184 h (fun w_26 H locs hH hS hz9 h => ?_)
        have hz := hz9.trans hz
        refine x_aload_n C0 hl 0 d_Mod_leaf_185 rfl rfl ?_
        refine lv_dup C0.1 C0.2.1 d_Mod_leaf_186 (va_rf_cat _) ?_
        refine x_getI C0 hE hH (ci := 5) rfl i_Mod 1 (by decide) kw_4_80 d_Mod_leaf_187 h (fun v_27 h => ?_)
        refine lv_iconst (v := 1) C0.1 C0.2.1 d_Mod_leaf_190 (by decide) ?_
        refine lv_iadd C0.1 C0.2.1 d_Mod_leaf_191 ?_
        refine x_put C0 hE hH hS (ci := 5) rfl i_Mod t_Mod t_Mod_ok n_Mod 1 (by decide) kw_4_80 rfl rfl rfl d_Mod_leaf_192 h (fun w_28 H locs hH hS hz9 h => ?_)
        have hz := hz9.trans hz
        refine x_aload_n C0 hl 0 d_Mod_leaf_195 rfl rfl ?_
        refine lv_iconst (v := 0) C0.1 C0.2.1 d_Mod_leaf_196 (by decide) ?_
        refine x_put C0 hE hH hS (ci := 5) rfl i_Mod t_Mod t_Mod_ok n_Mod 15 (by decide) kw_4_94 rfl rfl rfl d_Mod_leaf_197 h (fun w_29 H locs hH hS hz9 h => ?_)
        have hz := hz9.trans hz
        refine x_aload_n C0 hl 0 d_Mod_leaf_200 rfl rfl ?_
        refine x_getI C0 hE hH (ci := 5) rfl i_Mod 1 (by decide) kw_4_80 d_Mod_leaf_201 h (fun v_30 h => ?_)
        refine lv_iconst (v := 1) C0.1 C0.2.1 d_Mod_leaf_204 (by decide) ?_
        refine lv_isub C0.1 C0.2.1 d_Mod_leaf_205 ?_
        cases h
        rw [hQ]
        exact x_iret C0 hr hlocks hH hS hz d_Mod_leaf_206
      · refine lv_iconst (v := 0) C0.1 C0.2.1 d_Mod_leaf_142 (by decide) ?_
        cases h
        rw [hQ]
        exact x_iret C0 hr hlocks hH hS hz d_Mod_leaf_143
    refine x_icmp_eq C0 118 d_Mod_leaf_110 (by decide) h (fun h => ?_) (fun h => ?_)
    · refine lv_iconst (v := 1) C0.1 C0.2.1 d_Mod_leaf_118 (by decide) ?_
      refine x_goto C0 132 d_Mod_leaf_119 (by decide) ?_
      exact kJ_12 _ ls (x_sub hl [1, 2, 3, 4, 5] rfl) h
    · refine x_iload C0 hl 6 d_Mod_leaf_113 rfl ?_
      refine x_if_eq C0 122 d_Mod_leaf_115 (by decide) h (fun h => ?_) (fun h => ?_)
      · refine x_iload C0 hl 0 d_Mod_leaf_122 rfl ?_
        refine x_if_eq C0 131 d_Mod_leaf_124 (by decide) h (fun h => ?_) (fun h => ?_)
        · refine lv_iconst (v := 2) C0.1 C0.2.1 d_Mod_leaf_131 (by decide) ?_
          exact kJ_12 _ ls (x_sub hl [1, 2, 3, 4, 5] rfl) h
        · refine lv_iconst (v := 0) C0.1 C0.2.1 d_Mod_leaf_127 (by decide) ?_
          refine x_goto C0 132 d_Mod_leaf_128 (by decide) ?_
          exact kJ_12 _ ls (x_sub hl [1, 2, 3, 4, 5] rfl) h
      · refine lv_iconst (v := 1) C0.1 C0.2.1 d_Mod_leaf_118 (by decide) ?_
        refine x_goto C0 132 d_Mod_leaf_119 (by decide) ?_
        exact kJ_12 _ ls (x_sub hl [1, 2, 3, 4, 5] rfl) h
  refine x_if_eq C0 100 d_Mod_leaf_61 (by decide) h (fun h => ?_) (fun h => ?_)
  · refine lv_iconst (v := 0) C0.1 C0.2.1 d_Mod_leaf_100 (by decide) ?_
    exact kJ_9 _ ls (x_sub hl [0, 1, 2, 3, 4, 5] rfl) h
  · refine x_iload_n C0 hl 2 d_Mod_leaf_64 rfl rfl ?_
    refine lv_iconst (v := 0) C0.1 C0.2.1 d_Mod_leaf_65 (by decide) ?_
    refine lv_sipush (v := 1000) C0.1 C0.2.1 d_Mod_leaf_66 (by decide) ?_
    obtain ⟨q_31, e9, h⟩ := Option.bind_eq_some_iff.mp h
    refine x_callP (va_runS (As := [.int x2, .int (0 : Int32), .int (1000 : Int32)]) (rest := []) C0 (c_Mod_isIn l G w _ x2 (0 : Int32) (1000 : Int32) q_31 e9) (x_cwS 3 C0 kw_4_155 kw_4_157 kw_1_3 kw_4_156 (by decide +kernel) (x_rm hR1 hR2 (Nat.le_of_ble_eq_true rfl) (Nat.le_of_ble_eq_true rfl))) (x_preS hE hH hS) rfl rfl hl.1 rfl (lv_room (by first | exact Nat.le_of_ble_eq_true rfl | simp only [List.map_cons, List.map_nil, List.sum_cons, List.sum_nil, va_rf_cat, x_catI, x_catL, x_catA] <;> decide)) d_Mod_leaf_69 (x_le0 hR3 hR4)) ?_
    refine x_if_eq C0 100 d_Mod_leaf_72 (by decide) h (fun h => ?_) (fun h => ?_)
    · refine lv_iconst (v := 0) C0.1 C0.2.1 d_Mod_leaf_100 (by decide) ?_
      exact kJ_9 _ ls (x_sub hl [0, 1, 2, 3, 4, 5] rfl) h
    · refine x_iload_n C0 hl 3 d_Mod_leaf_75 rfl rfl ?_
      refine lv_iconst (v := 1) C0.1 C0.2.1 d_Mod_leaf_76 (by decide) ?_
      refine lv_bipush (v := 12) C0.1 C0.2.1 d_Mod_leaf_77 (by decide) ?_
      obtain ⟨q_32, e9, h⟩ := Option.bind_eq_some_iff.mp h
      refine x_callP (va_runS (As := [.int x3, .int (1 : Int32), .int (12 : Int32)]) (rest := []) C0 (c_Mod_isIn l G w _ x3 (1 : Int32) (12 : Int32) q_32 e9) (x_cwS 3 C0 kw_4_155 kw_4_157 kw_1_3 kw_4_156 (by decide +kernel) (x_rm hR1 hR2 (Nat.le_of_ble_eq_true rfl) (Nat.le_of_ble_eq_true rfl))) (x_preS hE hH hS) rfl rfl hl.1 rfl (lv_room (by first | exact Nat.le_of_ble_eq_true rfl | simp only [List.map_cons, List.map_nil, List.sum_cons, List.sum_nil, va_rf_cat, x_catI, x_catL, x_catA] <;> decide)) d_Mod_leaf_79 (x_le0 hR3 hR4)) ?_
      refine x_if_eq C0 100 d_Mod_leaf_82 (by decide) h (fun h => ?_) (fun h => ?_)
      · refine lv_iconst (v := 0) C0.1 C0.2.1 d_Mod_leaf_100 (by decide) ?_
        exact kJ_9 _ ls (x_sub hl [0, 1, 2, 3, 4, 5] rfl) h
      · refine x_iload C0 hl 4 d_Mod_leaf_85 rfl ?_
        refine lv_iconst (v := 1) C0.1 C0.2.1 d_Mod_leaf_87 (by decide) ?_
        refine lv_bipush (v := 12) C0.1 C0.2.1 d_Mod_leaf_88 (by decide) ?_
        obtain ⟨q_33, e9, h⟩ := Option.bind_eq_some_iff.mp h
        refine x_callP (va_runS (As := [.int x4, .int (1 : Int32), .int (12 : Int32)]) (rest := []) C0 (c_Mod_isIn l G w _ x4 (1 : Int32) (12 : Int32) q_33 e9) (x_cwS 3 C0 kw_4_155 kw_4_157 kw_1_3 kw_4_156 (by decide +kernel) (x_rm hR1 hR2 (Nat.le_of_ble_eq_true rfl) (Nat.le_of_ble_eq_true rfl))) (x_preS hE hH hS) rfl rfl hl.1 rfl (lv_room (by first | exact Nat.le_of_ble_eq_true rfl | simp only [List.map_cons, List.map_nil, List.sum_cons, List.sum_nil, va_rf_cat, x_catI, x_catL, x_catA] <;> decide)) d_Mod_leaf_90 (x_le0 hR3 hR4)) ?_
        refine x_if_eq C0 100 d_Mod_leaf_93 (by decide) h (fun h => ?_) (fun h => ?_)
        · refine lv_iconst (v := 0) C0.1 C0.2.1 d_Mod_leaf_100 (by decide) ?_
          exact kJ_9 _ ls (x_sub hl [0, 1, 2, 3, 4, 5] rfl) h
        · refine lv_iconst (v := 1) C0.1 C0.2.1 d_Mod_leaf_96 (by decide) ?_
          refine x_goto C0 101 d_Mod_leaf_97 (by decide) ?_
          exact kJ_9 _ ls (x_sub hl [0, 1, 2, 3, 4, 5] rfl) h
theorem d_Mod_pixel_0 : decode b_Mod_pixel 0 = .ok (.iload_n 1, 1) := by decide +kernel
theorem d_Mod_pixel_1 : decode b_Mod_pixel 1 = .ok (.ifCond .lt 43, 3) := by decide +kernel
theorem d_Mod_pixel_4 : decode b_Mod_pixel 4 = .ok (.iload_n 1, 1) := by decide +kernel
theorem d_Mod_pixel_5 : decode b_Mod_pixel 5 = .ok (.aload_n 0, 1) := by decide +kernel
theorem d_Mod_pixel_6 : decode b_Mod_pixel 6 = .ok (.getfield 63, 3) := by decide +kernel
theorem d_Mod_pixel_9 : decode b_Mod_pixel 9 = .ok (.if_icmp .ge 35, 3) := by decide +kernel
theorem d_Mod_pixel_12 : decode b_Mod_pixel 12 = .ok (.iload_n 2, 1) := by decide +kernel
theorem d_Mod_pixel_13 : decode b_Mod_pixel 13 = .ok (.ifCond .lt 31, 3) := by decide +kernel
theorem d_Mod_pixel_16 : decode b_Mod_pixel 16 = .ok (.iload_n 2, 1) := by decide +kernel
theorem d_Mod_pixel_17 : decode b_Mod_pixel 17 = .ok (.aload_n 0, 1) := by decide +kernel
theorem d_Mod_pixel_18 : decode b_Mod_pixel 18 = .ok (.getfield 16, 3) := by decide +kernel
theorem d_Mod_pixel_21 : decode b_Mod_pixel 21 = .ok (.iload_n 1, 1) := by decide +kernel
theorem d_Mod_pixel_22 : decode b_Mod_pixel 22 = .ok (.iaload, 1) := by decide +kernel
theorem d_Mod_pixel_23 : decode b_Mod_pixel 23 = .ok (.if_icmp .ge 21, 3) := by decide +kernel
theorem d_Mod_pixel_26 : decode b_Mod_pixel 26 = .ok (.iload_n 3, 1) := by decide +kernel
theorem d_Mod_pixel_27 : decode b_Mod_pixel 27 = .ok (.ifCond .lt 17, 3) := by decide +kernel
theorem d_Mod_pixel_30 : decode b_Mod_pixel 30 = .ok (.iload_n 3, 1) := by decide +kernel
theorem d_Mod_pixel_31 : decode b_Mod_pixel 31 = .ok (.aload_n 0, 1) := by decide +kernel
theorem d_Mod_pixel_32 : decode b_Mod_pixel 32 = .ok (.getfield 19, 3) := by decide +kernel
theorem d_Mod_pixel_35 : decode b_Mod_pixel 35 = .ok (.iload_n 1, 1) := by decide +kernel
theorem d_Mod_pixel_36 : decode b_Mod_pixel 36 = .ok (.iaload, 1) := by decide +kernel
theorem d_Mod_pixel_37 : decode b_Mod_pixel 37 = .ok (.if_icmp .ge 7, 3) := by decide +kernel
theorem d_Mod_pixel_40 : decode b_Mod_pixel 40 = .ok (.iconst 1, 1) := by decide +kernel
theorem d_Mod_pixel_41 : decode b_Mod_pixel 41 = .ok (.goto 4, 3) := by decide +kernel
theorem d_Mod_pixel_44 : decode b_Mod_pixel 44 = .ok (.iconst 0, 1) := by decide +kernel
theorem d_Mod_pixel_45 : decode b_Mod_pixel 45 = .ok (.istore 5, 2) := by decide +kernel
theorem d_Mod_pixel_47 : decode b_Mod_pixel 47 = .ok (.aload_n 0, 1) := by decide +kernel
theorem d_Mod_pixel_48 : decode b_Mod_pixel 48 = .ok (.iload 5, 2) := by decide +kernel
theorem d_Mod_pixel_50 : decode b_Mod_pixel 50 = .ok (.ifCond .ne 7, 3) := by decide +kernel
theorem d_Mod_pixel_53 : decode b_Mod_pixel 53 = .ok (.iconst 1, 1) := by decide +kernel
theorem d_Mod_pixel_54 : decode b_Mod_pixel 54 = .ok (.goto 20, 3) := by decide +kernel
theorem d_Mod_pixel_57 : decode b_Mod_pixel 57 = .ok (.iload 4, 2) := by decide +kernel
theorem d_Mod_pixel_59 : decode b_Mod_pixel 59 = .ok (.iconst 0, 1) := by decide +kernel
theorem d_Mod_pixel_60 : decode b_Mod_pixel 60 = .ok (.sipush 255, 3) := by decide +kernel
theorem d_Mod_pixel_63 : decode b_Mod_pixel 63 = .ok (.invokestatic 66, 3) := by decide +kernel
theorem d_Mod_pixel_66 : decode b_Mod_pixel 66 = .ok (.ifCond .eq 7, 3) := by decide +kernel
theorem d_Mod_pixel_69 : decode b_Mod_pixel 69 = .ok (.iconst 0, 1) := by decide +kernel
theorem d_Mod_pixel_70 : decode b_Mod_pixel 70 = .ok (.goto 4, 3) := by decide +kernel
theorem d_Mod_pixel_73 : decode b_Mod_pixel 73 = .ok (.iconst 2, 1) := by decide +kernel
theorem d_Mod_pixel_74 : decode b_Mod_pixel 74 = .ok (.putfield 59, 3) := by decide +kernel
theorem d_Mod_pixel_77 : decode b_Mod_pixel 77 = .ok (.aload_n 0, 1) := by decide +kernel
theorem d_Mod_pixel_78 : decode b_Mod_pixel 78 = .ok (.getfield 59, 3) := by decide +kernel
theorem d_Mod_pixel_81 : decode b_Mod_pixel 81 = .ok (.ifCond .gt 25, 3) := by decide +kernel
theorem d_Mod_pixel_84 : decode b_Mod_pixel 84 = .ok (.aload_n 0, 1) := by decide +kernel
theorem d_Mod_pixel_85 : decode b_Mod_pixel 85 = .ok (.getfield 29, 3) := by decide +kernel
theorem d_Mod_pixel_88 : decode b_Mod_pixel 88 = .ok (.sipush 144, 3) := by decide +kernel
theorem d_Mod_pixel_91 : decode b_Mod_pixel 91 = .ok (.iload_n 1, 1) := by decide +kernel
theorem d_Mod_pixel_92 : decode b_Mod_pixel 92 = .ok (.imul, 1) := by decide +kernel
theorem d_Mod_pixel_93 : decode b_Mod_pixel 93 = .ok (.bipush 12, 2) := by decide +kernel
theorem d_Mod_pixel_95 : decode b_Mod_pixel 95 = .ok (.iload_n 3, 1) := by decide +kernel
theorem d_Mod_pixel_96 : decode b_Mod_pixel 96 = .ok (.imul, 1) := by decide +kernel
theorem d_Mod_pixel_97 : decode b_Mod_pixel 97 = .ok (.iadd, 1) := by decide +kernel
theorem d_Mod_pixel_98 : decode b_Mod_pixel 98 = .ok (.iload_n 2, 1) := by decide +kernel
theorem d_Mod_pixel_99 : decode b_Mod_pixel 99 = .ok (.iadd, 1) := by decide +kernel
theorem d_Mod_pixel_100 : decode b_Mod_pixel 100 = .ok (.iaload, 1) := by decide +kernel
theorem d_Mod_pixel_101 : decode b_Mod_pixel 101 = .ok (.iload 4, 2) := by decide +kernel
theorem d_Mod_pixel_103 : decode b_Mod_pixel 103 = .ok (.if_icmp .ne 5, 3) := by decide +kernel
theorem d_Mod_pixel_106 : decode b_Mod_pixel 106 = .ok (.iconst 0, 1) := by decide +kernel
theorem d_Mod_pixel_107 : decode b_Mod_pixel 107 = .ok (.ireturn, 1) := by decide +kernel
theorem d_Mod_pixel_108 : decode b_Mod_pixel 108 = .ok (.aload_n 0, 1) := by decide +kernel
theorem d_Mod_pixel_109 : decode b_Mod_pixel 109 = .ok (.getfield 29, 3) := by decide +kernel
theorem d_Mod_pixel_112 : decode b_Mod_pixel 112 = .ok (.sipush 144, 3) := by decide +kernel
theorem d_Mod_pixel_115 : decode b_Mod_pixel 115 = .ok (.iload_n 1, 1) := by decide +kernel
theorem d_Mod_pixel_116 : decode b_Mod_pixel 116 = .ok (.imul, 1) := by decide +kernel
theorem d_Mod_pixel_117 : decode b_Mod_pixel 117 = .ok (.bipush 12, 2) := by decide +kernel
theorem d_Mod_pixel_119 : decode b_Mod_pixel 119 = .ok (.iload_n 3, 1) := by decide +kernel
theorem d_Mod_pixel_120 : decode b_Mod_pixel 120 = .ok (.imul, 1) := by decide +kernel
theorem d_Mod_pixel_121 : decode b_Mod_pixel 121 = .ok (.iadd, 1) := by decide +kernel
theorem d_Mod_pixel_122 : decode b_Mod_pixel 122 = .ok (.iload_n 2, 1) := by decide +kernel
theorem d_Mod_pixel_123 : decode b_Mod_pixel 123 = .ok (.iadd, 1) := by decide +kernel
theorem d_Mod_pixel_124 : decode b_Mod_pixel 124 = .ok (.iload 4, 2) := by decide +kernel
theorem d_Mod_pixel_126 : decode b_Mod_pixel 126 = .ok (.iastore, 1) := by decide +kernel
theorem d_Mod_pixel_127 : decode b_Mod_pixel 127 = .ok (.iconst 1, 1) := by decide +kernel
theorem d_Mod_pixel_128 : decode b_Mod_pixel 128 = .ok (.ireturn, 1) := by decide +kernel
def f_Mod_pixel (w : Mp) (h0 : Nat) (x1 : Int32) (x2 : Int32) (x3 : Int32) (x4 : Int32) : Option (Int32 × Mp) := xJ1 (fun (x_1 : Int32) => xJ1 (fun (x_3 : Int32) => (pF w (some h0) 5 0 (.int x_3)).bind fun w_5 => (gI w_5 (some h0) 5 0).bind fun v_6 => if 0 < v_6 then (some ((0 : Int32), w_5)) else ((gR w_5 (some h0) 5 8).bind fun v_7 => (aI w_5 v_7 0 ((((144 : Int32) * x1) + ((12 : Int32) * x3)) + x2)).bind fun v_8 => if v_8 = x4 then (some ((0 : Int32), w_5)) else ((gR w_5 (some h0) 5 8).bind fun v_9 => (sI w_5 v_9 0 ((((144 : Int32) * x1) + ((12 : Int32) * x3)) + x2) x4).bind fun w_10 => some ((1 : Int32), w_10)))) fun J_4 => if x_1 = 0 then (J_4 (1 : Int32)) else ((f_Mod_isIn w x4 (0 : Int32) (255 : Int32)).bind fun q_11 => if q_11 = 0 then (J_4 (2 : Int32)) else (J_4 (0 : Int32)))) fun J_2 => if x1 < 0 then (J_2 (0 : Int32)) else ((gI w (some h0) 5 1).bind fun v_12 => if v_12 ≤ x1 then (J_2 (0 : Int32)) else (if x2 < 0 then (J_2 (0 : Int32)) else ((gR w (some h0) 5 4).bind fun v_13 => (aI w v_13 0 x1).bind fun v_14 => if v_14 ≤ x2 then (J_2 (0 : Int32)) else (if x3 < 0 then (J_2 (0 : Int32)) else ((gR w (some h0) 5 5).bind fun v_15 => (aI w v_15 0 x1).bind fun v_16 => if v_16 ≤ x3 then (J_2 (0 : Int32)) else (J_2 (1 : Int32)))))))
set_option maxHeartbeats 4000000 in
set_option maxRecDepth 100000 in
theorem c_Mod_pixel (l : Launch) (G : Gx) (w : Mp) (sz : Nat) (h0 : Nat) (x1 : Int32) (x2 : Int32) (x3 : Int32) (x4 : Int32) (res : Int32 × Mp) (hf : f_Mod_pixel w h0 x1 x2 x3 x4 = some res) : Met l y_Mod_pixel (xws y_Mod_pixel b_Mod_pixel 6 (some .boolean)) { frames := 1, cells := 0, slots := 0, locals := 22 } (xPc G vwCl xaty w sz [va_rf (some h0), .int x1, .int x2, .int x3, .int x4]) (xQ G vwCl (some (.int res.1)) res.2 sz) (0) (0) (xA G) := by
  refine Met.ofW (cc := b_Mod_pixel) (maxL := 6) (ret := (some .boolean)) (by decide) rfl ?_
  intro p e s m args below meth c s₁ B hml hv
  obtain ⟨ha, hE, hH, hz⟩ := hv
  have C0 : CallFix p m c b_Mod_pixel 6 s args wA R_Mod := ⟨B.exec, B.bytes, hml, findClass_of_methodNamed B.named, fun w hw => atoms_spec (ws := xws y_Mod_pixel b_Mod_pixel 6 (some .boolean)) B.pre w (List.mem_cons_of_mem _ hw)⟩
  have hr := B.returns
  have hlocks := B.notSynchronized
  obtain ⟨R, hR⟩ : ∃ R, R = (headSpec (xws y_Mod_pixel b_Mod_pixel 6 (some .boolean)) { frames := 1, cells := 0, slots := 0, locals := 22 }).room := ⟨_, rfl⟩
  have hR1 : 1 ≤ R.frames := by rw [hR]; exact Nat.le_of_ble_eq_true rfl
  have hR2 : 22 ≤ R.locals := by rw [hR]; exact Nat.le_of_ble_eq_true rfl
  have hR3 : 0 ≤ R.cells := by rw [hR]; exact Nat.le_refl _
  have hR4 : 0 ≤ R.slots := by rw [hR]; exact Nat.le_refl _
  rw [← hR]
  obtain ⟨Q, hQ⟩ : ∃ Q, Q = MQ below (xQ G vwCl (some (.int res.1)) res.2 sz) args s (0) (0) (xA G) := ⟨_, rfl⟩
  rw [← hQ]
  have hS : xS G s s.heap [] := va_S.rf
  obtain ⟨ls, he, hl⟩ := x_entry m [.inr (.inl (some h0)), .inl x1, .inl x2, .inl x3, .inl x4] 6 (Nat.le_of_ble_eq_true rfl)
  rw [show entryFrame m args 6 = F0 m 0 ls [] by rw [ha]; exact he]
  have hl : xL ls 6 [(0, .inr (.inl (some h0))), (1, .inl x1), (2, .inl x2), (3, .inl x3), (4, .inl x4)] := hl
  have h := hf
  unfold f_Mod_pixel at h
  suffices hmain : ∀ (H : Heap) (locs : List Loc), xhd G vwCl w H → xS G s H locs → H.size = sz → (H = s.heap ∧ locs = []) → W p l e R s m args below meth c H locs 0 0 Q (F0 m 0 ls []) from hmain _ _ hH hS hz ⟨rfl, rfl⟩
  clear hH hS hz
  intro H locs hH hS hz hP0
  refine x_iload_n C0 hl 1 d_Mod_pixel_0 rfl rfl ?_
  refine xj1 h (fun J_2 eJ_2 h => ?_)
  have kJ_2 : ∀ (x_1 : Int32) (ls : Array Slot), xL ls 6 [(0, .inr (.inl (some h0))), (1, .inl x1), (2, .inl x2), (3, .inl x3), (4, .inl x4)] → J_2 x_1 = some res → W p l e R s m args below meth c H locs 0 0 Q (F0 m 45 ls [.int x_1]) := by
    intro x_1 ls hl h
    rw [eJ_2] at h
    refine x_istore (lv' := [(5, .inl x_1), (0, .inr (.inl (some h0))), (1, .inl x1), (2, .inl x2), (3, .inl x3), (4, .inl x4)]) C0 hl d_Mod_pixel_45 (by decide) rfl (fun ls hl => ?_)
    refine x_aload_n C0 hl 1 d_Mod_pixel_47 rfl rfl ?_
    refine x_iload C0 hl 0 d_Mod_pixel_48 rfl ?_
    refine xj1 h (fun J_4 eJ_4 h => ?_)
    have kJ_4 : ∀ (x_3 : Int32) (ls : Array Slot), xL ls 6 [(0, .inr (.inl (some h0))), (1, .inl x1), (2, .inl x2), (3, .inl x3), (4, .inl x4)] → J_4 x_3 = some res → W p l e R s m args below meth c H locs 0 0 Q (F0 m 74 ls [.int x_3, va_rf (some h0)]) := by
      intro x_3 ls hl h
      rw [eJ_4] at h
      refine x_put C0 hE hH hS (ci := 5) rfl i_Mod t_Mod t_Mod_ok n_Mod 0 (by decide) kw_4_79 rfl rfl rfl d_Mod_pixel_74 h (fun w_5 H locs hH hS hz9 h => ?_)
      have hz := hz9.trans hz
      refine x_aload_n C0 hl 0 d_Mod_pixel_77 rfl rfl ?_
      refine x_getI C0 hE hH (ci := 5) rfl i_Mod 0 (by decide) kw_4_79 d_Mod_pixel_78 h (fun v_6 h => ?_)
      refine x_if_gt C0 106 d_Mod_pixel_81 (by decide) h (fun h => ?_) (fun h => ?_)
      · refine lv_iconst (v := 0) C0.1 C0.2.1 d_Mod_pixel_106 (by decide) ?_
        cases h
        rw [hQ]
        exact x_zret (v := (0 : Int32)) C0 hr hlocks hH hS hz rfl d_Mod_pixel_107
      · refine x_aload_n C0 hl 0 d_Mod_pixel_84 rfl rfl ?_
        refine x_getR C0 hE hH (ci := 5) rfl i_Mod 8 (by decide) kw_4_87 d_Mod_pixel_85 h (fun v_7 h => ?_)
        refine lv_sipush (v := 144) C0.1 C0.2.1 d_Mod_pixel_88 (by decide) ?_
        refine x_iload_n C0 hl 1 d_Mod_pixel_91 rfl rfl ?_
        refine lv_imul C0.1 C0.2.1 d_Mod_pixel_92 ?_
        refine lv_bipush (v := 12) C0.1 C0.2.1 d_Mod_pixel_93 (by decide) ?_
        refine x_iload_n C0 hl 3 d_Mod_pixel_95 rfl rfl ?_
        refine lv_imul C0.1 C0.2.1 d_Mod_pixel_96 ?_
        refine lv_iadd C0.1 C0.2.1 d_Mod_pixel_97 ?_
        refine x_iload_n C0 hl 2 d_Mod_pixel_98 rfl rfl ?_
        refine lv_iadd C0.1 C0.2.1 d_Mod_pixel_99 ?_
        refine x_iald C0 hE hH (t := 0) rfl d_Mod_pixel_100 h (fun v_8 h => ?_)
        refine x_iload C0 hl 4 d_Mod_pixel_101 rfl ?_
        refine x_icmp_ne C0 108 d_Mod_pixel_103 (by decide) h (fun h => ?_) (fun h => ?_)
        · refine x_aload_n C0 hl 0 d_Mod_pixel_108 rfl rfl ?_
          refine x_getR C0 hE hH (ci := 5) rfl i_Mod 8 (by decide) kw_4_87 d_Mod_pixel_109 h (fun v_9 h => ?_)
          refine lv_sipush (v := 144) C0.1 C0.2.1 d_Mod_pixel_112 (by decide) ?_
          refine x_iload_n C0 hl 1 d_Mod_pixel_115 rfl rfl ?_
          refine lv_imul C0.1 C0.2.1 d_Mod_pixel_116 ?_
          refine lv_bipush (v := 12) C0.1 C0.2.1 d_Mod_pixel_117 (by decide) ?_
          refine x_iload_n C0 hl 3 d_Mod_pixel_119 rfl rfl ?_
          refine lv_imul C0.1 C0.2.1 d_Mod_pixel_120 ?_
          refine lv_iadd C0.1 C0.2.1 d_Mod_pixel_121 ?_
          refine x_iload_n C0 hl 2 d_Mod_pixel_122 rfl rfl ?_
          refine lv_iadd C0.1 C0.2.1 d_Mod_pixel_123 ?_
          refine x_iload C0 hl 4 d_Mod_pixel_124 rfl ?_
          refine x_iast C0 hE hH hS (t := 0) rfl d_Mod_pixel_126 h (fun w_10 H locs hH hS hz9 h => ?_)
          have hz := hz9.trans hz
          refine lv_iconst (v := 1) C0.1 C0.2.1 d_Mod_pixel_127 (by decide) ?_
          cases h
          rw [hQ]
          exact x_zret (v := (1 : Int32)) C0 hr hlocks hH hS hz rfl d_Mod_pixel_128
        · refine lv_iconst (v := 0) C0.1 C0.2.1 d_Mod_pixel_106 (by decide) ?_
          cases h
          rw [hQ]
          exact x_zret (v := (0 : Int32)) C0 hr hlocks hH hS hz rfl d_Mod_pixel_107
    refine x_if_ne C0 57 d_Mod_pixel_50 (by decide) h (fun h => ?_) (fun h => ?_)
    · refine x_iload C0 hl 5 d_Mod_pixel_57 rfl ?_
      refine lv_iconst (v := 0) C0.1 C0.2.1 d_Mod_pixel_59 (by decide) ?_
      refine lv_sipush (v := 255) C0.1 C0.2.1 d_Mod_pixel_60 (by decide) ?_
      obtain ⟨q_11, e9, h⟩ := Option.bind_eq_some_iff.mp h
      refine x_callP (va_runS (As := [.int x4, .int (0 : Int32), .int (255 : Int32)]) (rest := [va_rf (some h0)]) C0 (c_Mod_isIn l G w _ x4 (0 : Int32) (255 : Int32) q_11 e9) (x_cwS 3 C0 kw_4_155 kw_4_157 kw_1_3 kw_4_156 (by decide +kernel) (x_rm hR1 hR2 (Nat.le_of_ble_eq_true rfl) (Nat.le_of_ble_eq_true rfl))) (x_preS hE hH hS) rfl rfl hl.1 rfl (lv_room (by first | exact Nat.le_of_ble_eq_true rfl | simp only [List.map_cons, List.map_nil, List.sum_cons, List.sum_nil, va_rf_cat, x_catI, x_catL, x_catA] <;> decide)) d_Mod_pixel_63 (x_le0 hR3 hR4)) ?_
      refine x_if_eq C0 73 d_Mod_pixel_66 (by decide) h (fun h => ?_) (fun h => ?_)
      · refine lv_iconst (v := 2) C0.1 C0.2.1 d_Mod_pixel_73 (by decide) ?_
        exact kJ_4 _ ls (x_sub hl [1, 2, 3, 4, 5] rfl) h
      · refine lv_iconst (v := 0) C0.1 C0.2.1 d_Mod_pixel_69 (by decide) ?_
        refine x_goto C0 74 d_Mod_pixel_70 (by decide) ?_
        exact kJ_4 _ ls (x_sub hl [1, 2, 3, 4, 5] rfl) h
    · refine lv_iconst (v := 1) C0.1 C0.2.1 d_Mod_pixel_53 (by decide) ?_
      refine x_goto C0 74 d_Mod_pixel_54 (by decide) ?_
      exact kJ_4 _ ls (x_sub hl [1, 2, 3, 4, 5] rfl) h
  refine x_if_lt C0 44 d_Mod_pixel_1 (by decide) h (fun h => ?_) (fun h => ?_)
  · refine lv_iconst (v := 0) C0.1 C0.2.1 d_Mod_pixel_44 (by decide) ?_
    exact kJ_2 _ ls (x_sub hl [0, 1, 2, 3, 4] rfl) h
  · refine x_iload_n C0 hl 1 d_Mod_pixel_4 rfl rfl ?_
    refine x_aload_n C0 hl 0 d_Mod_pixel_5 rfl rfl ?_
    refine x_getI C0 hE hH (ci := 5) rfl i_Mod 1 (by decide) kw_4_80 d_Mod_pixel_6 h (fun v_12 h => ?_)
    refine x_icmp_ge C0 44 d_Mod_pixel_9 (by decide) h (fun h => ?_) (fun h => ?_)
    · refine lv_iconst (v := 0) C0.1 C0.2.1 d_Mod_pixel_44 (by decide) ?_
      exact kJ_2 _ ls (x_sub hl [0, 1, 2, 3, 4] rfl) h
    · refine x_iload_n C0 hl 2 d_Mod_pixel_12 rfl rfl ?_
      refine x_if_lt C0 44 d_Mod_pixel_13 (by decide) h (fun h => ?_) (fun h => ?_)
      · refine lv_iconst (v := 0) C0.1 C0.2.1 d_Mod_pixel_44 (by decide) ?_
        exact kJ_2 _ ls (x_sub hl [0, 1, 2, 3, 4] rfl) h
      · refine x_iload_n C0 hl 2 d_Mod_pixel_16 rfl rfl ?_
        refine x_aload_n C0 hl 0 d_Mod_pixel_17 rfl rfl ?_
        refine x_getR C0 hE hH (ci := 5) rfl i_Mod 4 (by decide) kw_4_83 d_Mod_pixel_18 h (fun v_13 h => ?_)
        refine x_iload_n C0 hl 1 d_Mod_pixel_21 rfl rfl ?_
        refine x_iald C0 hE hH (t := 0) rfl d_Mod_pixel_22 h (fun v_14 h => ?_)
        refine x_icmp_ge C0 44 d_Mod_pixel_23 (by decide) h (fun h => ?_) (fun h => ?_)
        · refine lv_iconst (v := 0) C0.1 C0.2.1 d_Mod_pixel_44 (by decide) ?_
          exact kJ_2 _ ls (x_sub hl [0, 1, 2, 3, 4] rfl) h
        · refine x_iload_n C0 hl 3 d_Mod_pixel_26 rfl rfl ?_
          refine x_if_lt C0 44 d_Mod_pixel_27 (by decide) h (fun h => ?_) (fun h => ?_)
          · refine lv_iconst (v := 0) C0.1 C0.2.1 d_Mod_pixel_44 (by decide) ?_
            exact kJ_2 _ ls (x_sub hl [0, 1, 2, 3, 4] rfl) h
          · refine x_iload_n C0 hl 3 d_Mod_pixel_30 rfl rfl ?_
            refine x_aload_n C0 hl 0 d_Mod_pixel_31 rfl rfl ?_
            refine x_getR C0 hE hH (ci := 5) rfl i_Mod 5 (by decide) kw_4_84 d_Mod_pixel_32 h (fun v_15 h => ?_)
            refine x_iload_n C0 hl 1 d_Mod_pixel_35 rfl rfl ?_
            refine x_iald C0 hE hH (t := 0) rfl d_Mod_pixel_36 h (fun v_16 h => ?_)
            refine x_icmp_ge C0 44 d_Mod_pixel_37 (by decide) h (fun h => ?_) (fun h => ?_)
            · refine lv_iconst (v := 0) C0.1 C0.2.1 d_Mod_pixel_44 (by decide) ?_
              exact kJ_2 _ ls (x_sub hl [0, 1, 2, 3, 4] rfl) h
            · refine lv_iconst (v := 1) C0.1 C0.2.1 d_Mod_pixel_40 (by decide) ?_
              refine x_goto C0 45 d_Mod_pixel_41 (by decide) ?_
              exact kJ_2 _ ls (x_sub hl [0, 1, 2, 3, 4] rfl) h
theorem d_Mod_reserve_0 : decode b_Mod_reserve 0 = .ok (.iload_n 1, 1) := by decide +kernel
theorem d_Mod_reserve_1 : decode b_Mod_reserve 1 = .ok (.ifCond .lt 15, 3) := by decide +kernel
theorem d_Mod_reserve_4 : decode b_Mod_reserve 4 = .ok (.iload_n 1, 1) := by decide +kernel
theorem d_Mod_reserve_5 : decode b_Mod_reserve 5 = .ok (.aload_n 0, 1) := by decide +kernel
theorem d_Mod_reserve_6 : decode b_Mod_reserve 6 = .ok (.getfield 63, 3) := by decide +kernel
theorem d_Mod_reserve_9 : decode b_Mod_reserve 9 = .ok (.if_icmp .ge 7, 3) := by decide +kernel
theorem d_Mod_reserve_12 : decode b_Mod_reserve 12 = .ok (.iconst 1, 1) := by decide +kernel
theorem d_Mod_reserve_13 : decode b_Mod_reserve 13 = .ok (.goto 4, 3) := by decide +kernel
theorem d_Mod_reserve_16 : decode b_Mod_reserve 16 = .ok (.iconst 0, 1) := by decide +kernel
theorem d_Mod_reserve_17 : decode b_Mod_reserve 17 = .ok (.istore_n 3, 1) := by decide +kernel
theorem d_Mod_reserve_18 : decode b_Mod_reserve 18 = .ok (.aload_n 0, 1) := by decide +kernel
theorem d_Mod_reserve_19 : decode b_Mod_reserve 19 = .ok (.iload_n 3, 1) := by decide +kernel
theorem d_Mod_reserve_20 : decode b_Mod_reserve 20 = .ok (.ifCond .ne 7, 3) := by decide +kernel
theorem d_Mod_reserve_23 : decode b_Mod_reserve 23 = .ok (.iconst 1, 1) := by decide +kernel
theorem d_Mod_reserve_24 : decode b_Mod_reserve 24 = .ok (.goto 32, 3) := by decide +kernel
theorem d_Mod_reserve_27 : decode b_Mod_reserve 27 = .ok (.aload_n 0, 1) := by decide +kernel
theorem d_Mod_reserve_28 : decode b_Mod_reserve 28 = .ok (.getfield 25, 3) := by decide +kernel
theorem d_Mod_reserve_31 : decode b_Mod_reserve 31 = .ok (.iload_n 1, 1) := by decide +kernel
theorem d_Mod_reserve_32 : decode b_Mod_reserve 32 = .ok (.baload, 1) := by decide +kernel
theorem d_Mod_reserve_33 : decode b_Mod_reserve 33 = .ok (.ifCond .eq 7, 3) := by decide +kernel
theorem d_Mod_reserve_36 : decode b_Mod_reserve 36 = .ok (.iconst 2, 1) := by decide +kernel
theorem d_Mod_reserve_37 : decode b_Mod_reserve 37 = .ok (.goto 19, 3) := by decide +kernel
theorem d_Mod_reserve_40 : decode b_Mod_reserve 40 = .ok (.iload_n 2, 1) := by decide +kernel
theorem d_Mod_reserve_41 : decode b_Mod_reserve 41 = .ok (.iconst 0, 1) := by decide +kernel
theorem d_Mod_reserve_42 : decode b_Mod_reserve 42 = .ok (.sipush 1000, 3) := by decide +kernel
theorem d_Mod_reserve_45 : decode b_Mod_reserve 45 = .ok (.invokestatic 66, 3) := by decide +kernel
theorem d_Mod_reserve_48 : decode b_Mod_reserve 48 = .ok (.ifCond .eq 7, 3) := by decide +kernel
theorem d_Mod_reserve_51 : decode b_Mod_reserve 51 = .ok (.iconst 0, 1) := by decide +kernel
theorem d_Mod_reserve_52 : decode b_Mod_reserve 52 = .ok (.goto 4, 3) := by decide +kernel
theorem d_Mod_reserve_55 : decode b_Mod_reserve 55 = .ok (.iconst 3, 1) := by decide +kernel
theorem d_Mod_reserve_56 : decode b_Mod_reserve 56 = .ok (.putfield 59, 3) := by decide +kernel
theorem d_Mod_reserve_59 : decode b_Mod_reserve 59 = .ok (.aload_n 0, 1) := by decide +kernel
theorem d_Mod_reserve_60 : decode b_Mod_reserve 60 = .ok (.getfield 59, 3) := by decide +kernel
theorem d_Mod_reserve_63 : decode b_Mod_reserve 63 = .ok (.ifCond .gt 13, 3) := by decide +kernel
theorem d_Mod_reserve_66 : decode b_Mod_reserve 66 = .ok (.aload_n 0, 1) := by decide +kernel
theorem d_Mod_reserve_67 : decode b_Mod_reserve 67 = .ok (.getfield 22, 3) := by decide +kernel
theorem d_Mod_reserve_70 : decode b_Mod_reserve 70 = .ok (.iload_n 1, 1) := by decide +kernel
theorem d_Mod_reserve_71 : decode b_Mod_reserve 71 = .ok (.iaload, 1) := by decide +kernel
theorem d_Mod_reserve_72 : decode b_Mod_reserve 72 = .ok (.iload_n 2, 1) := by decide +kernel
theorem d_Mod_reserve_73 : decode b_Mod_reserve 73 = .ok (.if_icmp .ne 5, 3) := by decide +kernel
theorem d_Mod_reserve_76 : decode b_Mod_reserve 76 = .ok (.iconst 0, 1) := by decide +kernel
theorem d_Mod_reserve_77 : decode b_Mod_reserve 77 = .ok (.ireturn, 1) := by decide +kernel
theorem d_Mod_reserve_78 : decode b_Mod_reserve 78 = .ok (.aload_n 0, 1) := by decide +kernel
theorem d_Mod_reserve_79 : decode b_Mod_reserve 79 = .ok (.getfield 22, 3) := by decide +kernel
theorem d_Mod_reserve_82 : decode b_Mod_reserve 82 = .ok (.iload_n 1, 1) := by decide +kernel
theorem d_Mod_reserve_83 : decode b_Mod_reserve 83 = .ok (.iload_n 2, 1) := by decide +kernel
theorem d_Mod_reserve_84 : decode b_Mod_reserve 84 = .ok (.iastore, 1) := by decide +kernel
theorem d_Mod_reserve_85 : decode b_Mod_reserve 85 = .ok (.aload_n 0, 1) := by decide +kernel
theorem d_Mod_reserve_86 : decode b_Mod_reserve 86 = .ok (.iconst 0, 1) := by decide +kernel
theorem d_Mod_reserve_87 : decode b_Mod_reserve 87 = .ok (.putfield 70, 3) := by decide +kernel
theorem d_Mod_reserve_90 : decode b_Mod_reserve 90 = .ok (.iconst 1, 1) := by decide +kernel
theorem d_Mod_reserve_91 : decode b_Mod_reserve 91 = .ok (.ireturn, 1) := by decide +kernel
def f_Mod_reserve (w : Mp) (h0 : Nat) (x1 : Int32) (x2 : Int32) : Option (Int32 × Mp) := xJ1 (fun (x_1 : Int32) => xJ1 (fun (x_3 : Int32) => (pF w (some h0) 5 0 (.int x_3)).bind fun w_5 => (gI w_5 (some h0) 5 0).bind fun v_6 => if 0 < v_6 then (some ((0 : Int32), w_5)) else ((gR w_5 (some h0) 5 6).bind fun v_7 => (aI w_5 v_7 0 x1).bind fun v_8 => if v_8 = x2 then (some ((0 : Int32), w_5)) else ((gR w_5 (some h0) 5 6).bind fun v_9 => (sI w_5 v_9 0 x1 x2).bind fun w_10 => (pF w_10 (some h0) 5 15 (.int (0 : Int32))).bind fun w_11 => some ((1 : Int32), w_11)))) fun J_4 => if x_1 = 0 then (J_4 (1 : Int32)) else ((gR w (some h0) 5 7).bind fun v_12 => (aI w v_12 4 x1).bind fun v_13 => if v_13 = 0 then ((f_Mod_isIn w x2 (0 : Int32) (1000 : Int32)).bind fun q_14 => if q_14 = 0 then (J_4 (3 : Int32)) else (J_4 (0 : Int32))) else (J_4 (2 : Int32)))) fun J_2 => if x1 < 0 then (J_2 (0 : Int32)) else ((gI w (some h0) 5 1).bind fun v_15 => if v_15 ≤ x1 then (J_2 (0 : Int32)) else (J_2 (1 : Int32)))
set_option maxHeartbeats 4000000 in
set_option maxRecDepth 100000 in
theorem c_Mod_reserve (l : Launch) (G : Gx) (w : Mp) (sz : Nat) (h0 : Nat) (x1 : Int32) (x2 : Int32) (res : Int32 × Mp) (hf : f_Mod_reserve w h0 x1 x2 = some res) : Met l y_Mod_reserve (xws y_Mod_reserve b_Mod_reserve 4 (some .boolean)) { frames := 1, cells := 0, slots := 0, locals := 22 } (xPc G vwCl xaty w sz [va_rf (some h0), .int x1, .int x2]) (xQ G vwCl (some (.int res.1)) res.2 sz) (0) (0) (xA G) := by
  refine Met.ofW (cc := b_Mod_reserve) (maxL := 4) (ret := (some .boolean)) (by decide) rfl ?_
  intro p e s m args below meth c s₁ B hml hv
  obtain ⟨ha, hE, hH, hz⟩ := hv
  have C0 : CallFix p m c b_Mod_reserve 4 s args wA R_Mod := ⟨B.exec, B.bytes, hml, findClass_of_methodNamed B.named, fun w hw => atoms_spec (ws := xws y_Mod_reserve b_Mod_reserve 4 (some .boolean)) B.pre w (List.mem_cons_of_mem _ hw)⟩
  have hr := B.returns
  have hlocks := B.notSynchronized
  obtain ⟨R, hR⟩ : ∃ R, R = (headSpec (xws y_Mod_reserve b_Mod_reserve 4 (some .boolean)) { frames := 1, cells := 0, slots := 0, locals := 22 }).room := ⟨_, rfl⟩
  have hR1 : 1 ≤ R.frames := by rw [hR]; exact Nat.le_of_ble_eq_true rfl
  have hR2 : 22 ≤ R.locals := by rw [hR]; exact Nat.le_of_ble_eq_true rfl
  have hR3 : 0 ≤ R.cells := by rw [hR]; exact Nat.le_refl _
  have hR4 : 0 ≤ R.slots := by rw [hR]; exact Nat.le_refl _
  rw [← hR]
  obtain ⟨Q, hQ⟩ : ∃ Q, Q = MQ below (xQ G vwCl (some (.int res.1)) res.2 sz) args s (0) (0) (xA G) := ⟨_, rfl⟩
  rw [← hQ]
  have hS : xS G s s.heap [] := va_S.rf
  obtain ⟨ls, he, hl⟩ := x_entry m [.inr (.inl (some h0)), .inl x1, .inl x2] 4 (Nat.le_of_ble_eq_true rfl)
  rw [show entryFrame m args 4 = F0 m 0 ls [] by rw [ha]; exact he]
  have hl : xL ls 4 [(0, .inr (.inl (some h0))), (1, .inl x1), (2, .inl x2)] := hl
  have h := hf
  unfold f_Mod_reserve at h
  suffices hmain : ∀ (H : Heap) (locs : List Loc), xhd G vwCl w H → xS G s H locs → H.size = sz → (H = s.heap ∧ locs = []) → W p l e R s m args below meth c H locs 0 0 Q (F0 m 0 ls []) from hmain _ _ hH hS hz ⟨rfl, rfl⟩
  clear hH hS hz
  intro H locs hH hS hz hP0
  refine x_iload_n C0 hl 1 d_Mod_reserve_0 rfl rfl ?_
  refine xj1 h (fun J_2 eJ_2 h => ?_)
  have kJ_2 : ∀ (x_1 : Int32) (ls : Array Slot), xL ls 4 [(0, .inr (.inl (some h0))), (1, .inl x1), (2, .inl x2)] → J_2 x_1 = some res → W p l e R s m args below meth c H locs 0 0 Q (F0 m 17 ls [.int x_1]) := by
    intro x_1 ls hl h
    rw [eJ_2] at h
    refine x_istore_n (lv' := [(3, .inl x_1), (0, .inr (.inl (some h0))), (1, .inl x1), (2, .inl x2)]) C0 hl d_Mod_reserve_17 rfl (by decide) rfl (fun ls hl => ?_)
    refine x_aload_n C0 hl 1 d_Mod_reserve_18 rfl rfl ?_
    refine x_iload_n C0 hl 0 d_Mod_reserve_19 rfl rfl ?_
    refine xj1 h (fun J_4 eJ_4 h => ?_)
    have kJ_4 : ∀ (x_3 : Int32) (ls : Array Slot), xL ls 4 [(0, .inr (.inl (some h0))), (1, .inl x1), (2, .inl x2)] → J_4 x_3 = some res → W p l e R s m args below meth c H locs 0 0 Q (F0 m 56 ls [.int x_3, va_rf (some h0)]) := by
      intro x_3 ls hl h
      rw [eJ_4] at h
      refine x_put C0 hE hH hS (ci := 5) rfl i_Mod t_Mod t_Mod_ok n_Mod 0 (by decide) kw_4_79 rfl rfl rfl d_Mod_reserve_56 h (fun w_5 H locs hH hS hz9 h => ?_)
      have hz := hz9.trans hz
      refine x_aload_n C0 hl 0 d_Mod_reserve_59 rfl rfl ?_
      refine x_getI C0 hE hH (ci := 5) rfl i_Mod 0 (by decide) kw_4_79 d_Mod_reserve_60 h (fun v_6 h => ?_)
      refine x_if_gt C0 76 d_Mod_reserve_63 (by decide) h (fun h => ?_) (fun h => ?_)
      · refine lv_iconst (v := 0) C0.1 C0.2.1 d_Mod_reserve_76 (by decide) ?_
        cases h
        rw [hQ]
        exact x_zret (v := (0 : Int32)) C0 hr hlocks hH hS hz rfl d_Mod_reserve_77
      · refine x_aload_n C0 hl 0 d_Mod_reserve_66 rfl rfl ?_
        refine x_getR C0 hE hH (ci := 5) rfl i_Mod 6 (by decide) kw_4_85 d_Mod_reserve_67 h (fun v_7 h => ?_)
        refine x_iload_n C0 hl 1 d_Mod_reserve_70 rfl rfl ?_
        refine x_iald C0 hE hH (t := 0) rfl d_Mod_reserve_71 h (fun v_8 h => ?_)
        refine x_iload_n C0 hl 2 d_Mod_reserve_72 rfl rfl ?_
        refine x_icmp_ne C0 78 d_Mod_reserve_73 (by decide) h (fun h => ?_) (fun h => ?_)
        · refine x_aload_n C0 hl 0 d_Mod_reserve_78 rfl rfl ?_
          refine x_getR C0 hE hH (ci := 5) rfl i_Mod 6 (by decide) kw_4_85 d_Mod_reserve_79 h (fun v_9 h => ?_)
          refine x_iload_n C0 hl 1 d_Mod_reserve_82 rfl rfl ?_
          refine x_iload_n C0 hl 2 d_Mod_reserve_83 rfl rfl ?_
          refine x_iast C0 hE hH hS (t := 0) rfl d_Mod_reserve_84 h (fun w_10 H locs hH hS hz9 h => ?_)
          have hz := hz9.trans hz
          refine x_aload_n C0 hl 0 d_Mod_reserve_85 rfl rfl ?_
          refine lv_iconst (v := 0) C0.1 C0.2.1 d_Mod_reserve_86 (by decide) ?_
          refine x_put C0 hE hH hS (ci := 5) rfl i_Mod t_Mod t_Mod_ok n_Mod 15 (by decide) kw_4_94 rfl rfl rfl d_Mod_reserve_87 h (fun w_11 H locs hH hS hz9 h => ?_)
          have hz := hz9.trans hz
          refine lv_iconst (v := 1) C0.1 C0.2.1 d_Mod_reserve_90 (by decide) ?_
          cases h
          rw [hQ]
          exact x_zret (v := (1 : Int32)) C0 hr hlocks hH hS hz rfl d_Mod_reserve_91
        · refine lv_iconst (v := 0) C0.1 C0.2.1 d_Mod_reserve_76 (by decide) ?_
          cases h
          rw [hQ]
          exact x_zret (v := (0 : Int32)) C0 hr hlocks hH hS hz rfl d_Mod_reserve_77
    refine x_if_ne C0 27 d_Mod_reserve_20 (by decide) h (fun h => ?_) (fun h => ?_)
    · refine x_aload_n C0 hl 1 d_Mod_reserve_27 rfl rfl ?_
      refine x_getR C0 hE hH (ci := 5) rfl i_Mod 7 (by decide) kw_4_86 d_Mod_reserve_28 h (fun v_12 h => ?_)
      refine x_iload_n C0 hl 2 d_Mod_reserve_31 rfl rfl ?_
      refine x_zald C0 hE hH (t := 4) rfl d_Mod_reserve_32 h (fun v_13 h => ?_)
      refine x_if_eq C0 40 d_Mod_reserve_33 (by decide) h (fun h => ?_) (fun h => ?_)
      · refine x_iload_n C0 hl 3 d_Mod_reserve_40 rfl rfl ?_
        refine lv_iconst (v := 0) C0.1 C0.2.1 d_Mod_reserve_41 (by decide) ?_
        refine lv_sipush (v := 1000) C0.1 C0.2.1 d_Mod_reserve_42 (by decide) ?_
        obtain ⟨q_14, e9, h⟩ := Option.bind_eq_some_iff.mp h
        refine x_callP (va_runS (As := [.int x2, .int (0 : Int32), .int (1000 : Int32)]) (rest := [va_rf (some h0)]) C0 (c_Mod_isIn l G w _ x2 (0 : Int32) (1000 : Int32) q_14 e9) (x_cwS 3 C0 kw_4_155 kw_4_157 kw_1_3 kw_4_156 (by decide +kernel) (x_rm hR1 hR2 (Nat.le_of_ble_eq_true rfl) (Nat.le_of_ble_eq_true rfl))) (x_preS hE hH hS) rfl rfl hl.1 rfl (lv_room (by first | exact Nat.le_of_ble_eq_true rfl | simp only [List.map_cons, List.map_nil, List.sum_cons, List.sum_nil, va_rf_cat, x_catI, x_catL, x_catA] <;> decide)) d_Mod_reserve_45 (x_le0 hR3 hR4)) ?_
        refine x_if_eq C0 55 d_Mod_reserve_48 (by decide) h (fun h => ?_) (fun h => ?_)
        · refine lv_iconst (v := 3) C0.1 C0.2.1 d_Mod_reserve_55 (by decide) ?_
          exact kJ_4 _ ls (x_sub hl [1, 2, 3] rfl) h
        · refine lv_iconst (v := 0) C0.1 C0.2.1 d_Mod_reserve_51 (by decide) ?_
          refine x_goto C0 56 d_Mod_reserve_52 (by decide) ?_
          exact kJ_4 _ ls (x_sub hl [1, 2, 3] rfl) h
      · refine lv_iconst (v := 2) C0.1 C0.2.1 d_Mod_reserve_36 (by decide) ?_
        refine x_goto C0 56 d_Mod_reserve_37 (by decide) ?_
        exact kJ_4 _ ls (x_sub hl [1, 2, 3] rfl) h
    · refine lv_iconst (v := 1) C0.1 C0.2.1 d_Mod_reserve_23 (by decide) ?_
      refine x_goto C0 56 d_Mod_reserve_24 (by decide) ?_
      exact kJ_4 _ ls (x_sub hl [1, 2, 3] rfl) h
  refine x_if_lt C0 16 d_Mod_reserve_1 (by decide) h (fun h => ?_) (fun h => ?_)
  · refine lv_iconst (v := 0) C0.1 C0.2.1 d_Mod_reserve_16 (by decide) ?_
    exact kJ_2 _ ls (x_sub hl [0, 1, 2] rfl) h
  · refine x_iload_n C0 hl 1 d_Mod_reserve_4 rfl rfl ?_
    refine x_aload_n C0 hl 0 d_Mod_reserve_5 rfl rfl ?_
    refine x_getI C0 hE hH (ci := 5) rfl i_Mod 1 (by decide) kw_4_80 d_Mod_reserve_6 h (fun v_15 h => ?_)
    refine x_icmp_ge C0 16 d_Mod_reserve_9 (by decide) h (fun h => ?_) (fun h => ?_)
    · refine lv_iconst (v := 0) C0.1 C0.2.1 d_Mod_reserve_16 (by decide) ?_
      exact kJ_2 _ ls (x_sub hl [0, 1, 2] rfl) h
    · refine lv_iconst (v := 1) C0.1 C0.2.1 d_Mod_reserve_12 (by decide) ?_
      refine x_goto C0 17 d_Mod_reserve_13 (by decide) ?_
      exact kJ_2 _ ls (x_sub hl [0, 1, 2] rfl) h
theorem d_Mod_fillRow_0 : decode b_Mod_fillRow 0 = .ok (.aload_n 0, 1) := by decide +kernel
theorem d_Mod_fillRow_1 : decode b_Mod_fillRow 1 = .ok (.iconst 0, 1) := by decide +kernel
theorem d_Mod_fillRow_2 : decode b_Mod_fillRow 2 = .ok (.putfield 74, 3) := by decide +kernel
theorem d_Mod_fillRow_5 : decode b_Mod_fillRow 5 = .ok (.iconst 0, 1) := by decide +kernel
theorem d_Mod_fillRow_6 : decode b_Mod_fillRow 6 = .ok (.istore_n 2, 1) := by decide +kernel
theorem d_Mod_fillRow_7 : decode b_Mod_fillRow 7 = .ok (.iload_n 2, 1) := by decide +kernel
theorem d_Mod_fillRow_8 : decode b_Mod_fillRow 8 = .ok (.sipush 1000, 3) := by decide +kernel
theorem d_Mod_fillRow_11 : decode b_Mod_fillRow 11 = .ok (.if_icmp .gt 83, 3) := by decide +kernel
theorem d_Mod_fillRow_14 : decode b_Mod_fillRow 14 = .ok (.iconst 0, 1) := by decide +kernel
theorem d_Mod_fillRow_15 : decode b_Mod_fillRow 15 = .ok (.istore_n 3, 1) := by decide +kernel
theorem d_Mod_fillRow_16 : decode b_Mod_fillRow 16 = .ok (.iload_n 3, 1) := by decide +kernel
theorem d_Mod_fillRow_17 : decode b_Mod_fillRow 17 = .ok (.aload_n 0, 1) := by decide +kernel
theorem d_Mod_fillRow_18 : decode b_Mod_fillRow 18 = .ok (.getfield 63, 3) := by decide +kernel
theorem d_Mod_fillRow_21 : decode b_Mod_fillRow 21 = .ok (.if_icmp .ge 67, 3) := by decide +kernel
theorem d_Mod_fillRow_24 : decode b_Mod_fillRow 24 = .ok (.aload_n 0, 1) := by decide +kernel
theorem d_Mod_fillRow_25 : decode b_Mod_fillRow 25 = .ok (.getfield 7, 3) := by decide +kernel
theorem d_Mod_fillRow_28 : decode b_Mod_fillRow 28 = .ok (.iload_n 3, 1) := by decide +kernel
theorem d_Mod_fillRow_29 : decode b_Mod_fillRow 29 = .ok (.iaload, 1) := by decide +kernel
theorem d_Mod_fillRow_30 : decode b_Mod_fillRow 30 = .ok (.iload_n 1, 1) := by decide +kernel
theorem d_Mod_fillRow_31 : decode b_Mod_fillRow 31 = .ok (.if_icmp .ne 51, 3) := by decide +kernel
theorem d_Mod_fillRow_34 : decode b_Mod_fillRow 34 = .ok (.aload_n 0, 1) := by decide +kernel
theorem d_Mod_fillRow_35 : decode b_Mod_fillRow 35 = .ok (.getfield 13, 3) := by decide +kernel
theorem d_Mod_fillRow_38 : decode b_Mod_fillRow 38 = .ok (.iload_n 3, 1) := by decide +kernel
theorem d_Mod_fillRow_39 : decode b_Mod_fillRow 39 = .ok (.iaload, 1) := by decide +kernel
theorem d_Mod_fillRow_40 : decode b_Mod_fillRow 40 = .ok (.iload_n 2, 1) := by decide +kernel
theorem d_Mod_fillRow_41 : decode b_Mod_fillRow 41 = .ok (.if_icmp .ne 41, 3) := by decide +kernel
theorem d_Mod_fillRow_44 : decode b_Mod_fillRow 44 = .ok (.aload_n 0, 1) := by decide +kernel
theorem d_Mod_fillRow_45 : decode b_Mod_fillRow 45 = .ok (.getfield 25, 3) := by decide +kernel
theorem d_Mod_fillRow_48 : decode b_Mod_fillRow 48 = .ok (.iload_n 3, 1) := by decide +kernel
theorem d_Mod_fillRow_49 : decode b_Mod_fillRow 49 = .ok (.baload, 1) := by decide +kernel
theorem d_Mod_fillRow_50 : decode b_Mod_fillRow 50 = .ok (.ifCond .ne 32, 3) := by decide +kernel
theorem d_Mod_fillRow_53 : decode b_Mod_fillRow 53 = .ok (.aload_n 0, 1) := by decide +kernel
theorem d_Mod_fillRow_54 : decode b_Mod_fillRow 54 = .ok (.getfield 22, 3) := by decide +kernel
theorem d_Mod_fillRow_57 : decode b_Mod_fillRow 57 = .ok (.iload_n 3, 1) := by decide +kernel
theorem d_Mod_fillRow_58 : decode b_Mod_fillRow 58 = .ok (.iaload, 1) := by decide +kernel
theorem d_Mod_fillRow_59 : decode b_Mod_fillRow 59 = .ok (.ifCond .ne 23, 3) := by decide +kernel
theorem d_Mod_fillRow_62 : decode b_Mod_fillRow 62 = .ok (.aload_n 0, 1) := by decide +kernel
theorem d_Mod_fillRow_63 : decode b_Mod_fillRow 63 = .ok (.getfield 50, 3) := by decide +kernel
theorem d_Mod_fillRow_66 : decode b_Mod_fillRow 66 = .ok (.aload_n 0, 1) := by decide +kernel
theorem d_Mod_fillRow_67 : decode b_Mod_fillRow 67 = .ok (.getfield 74, 3) := by decide +kernel
theorem d_Mod_fillRow_70 : decode b_Mod_fillRow 70 = .ok (.iload_n 3, 1) := by decide +kernel
theorem d_Mod_fillRow_71 : decode b_Mod_fillRow 71 = .ok (.iastore, 1) := by decide +kernel
theorem d_Mod_fillRow_72 : decode b_Mod_fillRow 72 = .ok (.aload_n 0, 1) := by decide +kernel
theorem d_Mod_fillRow_73 : decode b_Mod_fillRow 73 = .ok (.dup, 1) := by decide +kernel
theorem d_Mod_fillRow_74 : decode b_Mod_fillRow 74 = .ok (.getfield 74, 3) := by decide +kernel
theorem d_Mod_fillRow_77 : decode b_Mod_fillRow 77 = .ok (.iconst 1, 1) := by decide +kernel
theorem d_Mod_fillRow_78 : decode b_Mod_fillRow 78 = .ok (.iadd, 1) := by decide +kernel
theorem d_Mod_fillRow_79 : decode b_Mod_fillRow 79 = .ok (.putfield 74, 3) := by decide +kernel
theorem d_Mod_fillRow_82 : decode b_Mod_fillRow 82 = .ok (.iinc 3 1, 3) := by decide +kernel
theorem d_Mod_fillRow_85 : decode b_Mod_fillRow 85 = .ok (.goto (-69), 3) := by decide +kernel
theorem d_Mod_fillRow_88 : decode b_Mod_fillRow 88 = .ok (.iinc 2 1, 3) := by decide +kernel
theorem d_Mod_fillRow_91 : decode b_Mod_fillRow 91 = .ok (.goto (-84), 3) := by decide +kernel
theorem d_Mod_fillRow_94 : decode b_Mod_fillRow 94 = .ok (.return_, 1) := by decide +kernel
def f_Mod_fillRow_L16 (h0 : Nat) (x1 : Int32) (x2 : Int32) : Nat → Int32 → Mp → Option (Nat × Int32 × Mp)
  | 0, _, _ => none
  | n + 1, x3, w => (gI w (some h0) 5 1).bind fun v_2 => if v_2 ≤ x3 then (some (0, x3, w)) else ((gR w (some h0) 5 2).bind fun v_3 => (aI w v_3 0 x3).bind fun v_4 => if v_4 = x1 then ((gR w (some h0) 5 3).bind fun v_5 => (aI w v_5 0 x3).bind fun v_6 => if v_6 = x2 then ((gR w (some h0) 5 7).bind fun v_7 => (aI w v_7 4 x3).bind fun v_8 => if v_8 = 0 then ((gR w (some h0) 5 6).bind fun v_9 => (aI w v_9 0 x3).bind fun v_10 => if v_10 = 0 then ((gR w (some h0) 5 19).bind fun v_11 => (gI w (some h0) 5 18).bind fun v_12 => (sI w v_11 0 v_12 x3).bind fun w_13 => (gI w_13 (some h0) 5 18).bind fun v_14 => (pF w_13 (some h0) 5 18 (.int (v_14 + (1 : Int32)))).bind fun w_15 => f_Mod_fillRow_L16 h0 x1 x2 n (x3 + 1) w_15) else (f_Mod_fillRow_L16 h0 x1 x2 n (x3 + 1) w)) else (f_Mod_fillRow_L16 h0 x1 x2 n (x3 + 1) w)) else (f_Mod_fillRow_L16 h0 x1 x2 n (x3 + 1) w)) else (f_Mod_fillRow_L16 h0 x1 x2 n (x3 + 1) w))
set_option maxHeartbeats 4000000 in
set_option maxRecDepth 100000 in
theorem w_Mod_fillRow_L16 {p : Program} {l : Launch} {e : Env} {R : Room} {s : State} {m : MethodId} {args : Array Value} {below : List Frame} {meth : Method} {c : Code} {Q : State → Prop} {cells slots sz : Nat} {G : Gx} {h0 : Nat} {x1 : Int32} {x2 : Int32} (C0 : CallFix p m c b_Mod_fillRow 4 s args wA R_Mod) (hE : xE G vwCl xaty s) (hR1 : 0 ≤ R.frames) (hR2 : 0 ≤ R.locals) (hR3 : cells ≤ R.cells) (hR4 : slots ≤ R.slots) : ∀ (n : Nat) (x3 : Int32) (w : Mp) (H : Heap) (locs : List Loc) (q : Nat × Int32 × Mp) (ls : Array Slot), xhd G vwCl w H → xS G s H locs → H.size = sz → xL ls 4 [(0, .inr (.inl (some h0))), (1, .inl x1), (2, .inl x2), (3, .inl x3)] → f_Mod_fillRow_L16 h0 x1 x2 n x3 w = some q → (∀ (H : Heap) (locs : List Loc) (ls : Array Slot), xhd G vwCl q.2.2 H → xS G s H locs → H.size = sz → xL ls 4 [(0, .inr (.inl (some h0))), (1, .inl x1), (2, .inl x2), (3, .inl q.2.1)] → W p l e R s m args below meth c H locs cells slots Q (F0 m 88 ls [])) → W p l e R s m args below meth c H locs cells slots Q (F0 m 16 ls []) := by
  intro n
  induction n with
  | zero => intro _ _ _ _ q ls hH hS hz hl h; cases h
  | succ n ih =>
    intro x3 w H locs q ls hH hS hz hl h K
    rw [f_Mod_fillRow_L16] at h
    refine x_iload_n C0 hl 3 d_Mod_fillRow_16 rfl rfl ?_
    refine x_aload_n C0 hl 0 d_Mod_fillRow_17 rfl rfl ?_
    refine x_getI C0 hE hH (ci := 5) rfl i_Mod 1 (by decide) kw_4_80 d_Mod_fillRow_18 h (fun v_2 h => ?_)
    refine x_icmp_ge C0 88 d_Mod_fillRow_21 (by decide) h (fun h => ?_) (fun h => ?_)
    · cases h
      exact K _ _ ls hH hS hz (x_sub hl [0, 1, 2, 3] rfl)
    · refine x_aload_n C0 hl 0 d_Mod_fillRow_24 rfl rfl ?_
      refine x_getR C0 hE hH (ci := 5) rfl i_Mod 2 (by decide) kw_4_81 d_Mod_fillRow_25 h (fun v_3 h => ?_)
      refine x_iload_n C0 hl 3 d_Mod_fillRow_28 rfl rfl ?_
      refine x_iald C0 hE hH (t := 0) rfl d_Mod_fillRow_29 h (fun v_4 h => ?_)
      refine x_iload_n C0 hl 1 d_Mod_fillRow_30 rfl rfl ?_
      refine x_icmp_ne C0 82 d_Mod_fillRow_31 (by decide) h (fun h => ?_) (fun h => ?_)
      · refine x_iinc (v := 1) (lv' := [(3, .inl (x3 + 1)), (0, .inr (.inl (some h0))), (1, .inl x1), (2, .inl x2)]) C0 hl 3 d_Mod_fillRow_82 rfl (by decide) (by decide) rfl (fun ls hl => ?_)
        refine x_goto C0 16 d_Mod_fillRow_85 (by decide) ?_
        exact ih _ _ _ _ q ls hH hS hz (x_sub hl [1, 2, 3, 0] rfl) h K
      · refine x_aload_n C0 hl 0 d_Mod_fillRow_34 rfl rfl ?_
        refine x_getR C0 hE hH (ci := 5) rfl i_Mod 3 (by decide) kw_4_82 d_Mod_fillRow_35 h (fun v_5 h => ?_)
        refine x_iload_n C0 hl 3 d_Mod_fillRow_38 rfl rfl ?_
        refine x_iald C0 hE hH (t := 0) rfl d_Mod_fillRow_39 h (fun v_6 h => ?_)
        refine x_iload_n C0 hl 2 d_Mod_fillRow_40 rfl rfl ?_
        refine x_icmp_ne C0 82 d_Mod_fillRow_41 (by decide) h (fun h => ?_) (fun h => ?_)
        · refine x_iinc (v := 1) (lv' := [(3, .inl (x3 + 1)), (0, .inr (.inl (some h0))), (1, .inl x1), (2, .inl x2)]) C0 hl 3 d_Mod_fillRow_82 rfl (by decide) (by decide) rfl (fun ls hl => ?_)
          refine x_goto C0 16 d_Mod_fillRow_85 (by decide) ?_
          exact ih _ _ _ _ q ls hH hS hz (x_sub hl [1, 2, 3, 0] rfl) h K
        · refine x_aload_n C0 hl 0 d_Mod_fillRow_44 rfl rfl ?_
          refine x_getR C0 hE hH (ci := 5) rfl i_Mod 7 (by decide) kw_4_86 d_Mod_fillRow_45 h (fun v_7 h => ?_)
          refine x_iload_n C0 hl 3 d_Mod_fillRow_48 rfl rfl ?_
          refine x_zald C0 hE hH (t := 4) rfl d_Mod_fillRow_49 h (fun v_8 h => ?_)
          refine x_if_ne C0 82 d_Mod_fillRow_50 (by decide) h (fun h => ?_) (fun h => ?_)
          · refine x_iinc (v := 1) (lv' := [(3, .inl (x3 + 1)), (0, .inr (.inl (some h0))), (1, .inl x1), (2, .inl x2)]) C0 hl 3 d_Mod_fillRow_82 rfl (by decide) (by decide) rfl (fun ls hl => ?_)
            refine x_goto C0 16 d_Mod_fillRow_85 (by decide) ?_
            exact ih _ _ _ _ q ls hH hS hz (x_sub hl [1, 2, 3, 0] rfl) h K
          · refine x_aload_n C0 hl 0 d_Mod_fillRow_53 rfl rfl ?_
            refine x_getR C0 hE hH (ci := 5) rfl i_Mod 6 (by decide) kw_4_85 d_Mod_fillRow_54 h (fun v_9 h => ?_)
            refine x_iload_n C0 hl 3 d_Mod_fillRow_57 rfl rfl ?_
            refine x_iald C0 hE hH (t := 0) rfl d_Mod_fillRow_58 h (fun v_10 h => ?_)
            refine x_if_ne C0 82 d_Mod_fillRow_59 (by decide) h (fun h => ?_) (fun h => ?_)
            · refine x_iinc (v := 1) (lv' := [(3, .inl (x3 + 1)), (0, .inr (.inl (some h0))), (1, .inl x1), (2, .inl x2)]) C0 hl 3 d_Mod_fillRow_82 rfl (by decide) (by decide) rfl (fun ls hl => ?_)
              refine x_goto C0 16 d_Mod_fillRow_85 (by decide) ?_
              exact ih _ _ _ _ q ls hH hS hz (x_sub hl [1, 2, 3, 0] rfl) h K
            · refine x_aload_n C0 hl 0 d_Mod_fillRow_62 rfl rfl ?_
              refine x_getR C0 hE hH (ci := 5) rfl i_Mod 19 (by decide) kw_4_98 d_Mod_fillRow_63 h (fun v_11 h => ?_)
              refine x_aload_n C0 hl 0 d_Mod_fillRow_66 rfl rfl ?_
              refine x_getI C0 hE hH (ci := 5) rfl i_Mod 18 (by decide) kw_4_97 d_Mod_fillRow_67 h (fun v_12 h => ?_)
              refine x_iload_n C0 hl 3 d_Mod_fillRow_70 rfl rfl ?_
              refine x_iast C0 hE hH hS (t := 0) rfl d_Mod_fillRow_71 h (fun w_13 H locs hH hS hz9 h => ?_)
              have hz := hz9.trans hz
              refine x_aload_n C0 hl 0 d_Mod_fillRow_72 rfl rfl ?_
              refine lv_dup C0.1 C0.2.1 d_Mod_fillRow_73 (va_rf_cat _) ?_
              refine x_getI C0 hE hH (ci := 5) rfl i_Mod 18 (by decide) kw_4_97 d_Mod_fillRow_74 h (fun v_14 h => ?_)
              refine lv_iconst (v := 1) C0.1 C0.2.1 d_Mod_fillRow_77 (by decide) ?_
              refine lv_iadd C0.1 C0.2.1 d_Mod_fillRow_78 ?_
              refine x_put C0 hE hH hS (ci := 5) rfl i_Mod t_Mod t_Mod_ok n_Mod 18 (by decide) kw_4_97 rfl rfl rfl d_Mod_fillRow_79 h (fun w_15 H locs hH hS hz9 h => ?_)
              have hz := hz9.trans hz
              refine x_iinc (v := 1) (lv' := [(3, .inl (x3 + 1)), (0, .inr (.inl (some h0))), (1, .inl x1), (2, .inl x2)]) C0 hl 3 d_Mod_fillRow_82 rfl (by decide) (by decide) rfl (fun ls hl => ?_)
              refine x_goto C0 16 d_Mod_fillRow_85 (by decide) ?_
              exact ih _ _ _ _ q ls hH hS hz (x_sub hl [1, 2, 3, 0] rfl) h K
def f_Mod_fillRow_L7 (h0 : Nat) (x1 : Int32) : Nat → Int32 → Mp → Option (Nat × Int32 × Mp)
  | 0, _, _ => none
  | n + 1, x2, w => if (1000 : Int32) < x2 then (some (0, x2, w)) else ((f_Mod_fillRow_L16 h0 x1 x2 100000 (0 : Int32) w).bind fun q_16 => f_Mod_fillRow_L7 h0 x1 n (x2 + 1) q_16.2.2)
set_option maxHeartbeats 4000000 in
set_option maxRecDepth 100000 in
theorem w_Mod_fillRow_L7 {p : Program} {l : Launch} {e : Env} {R : Room} {s : State} {m : MethodId} {args : Array Value} {below : List Frame} {meth : Method} {c : Code} {Q : State → Prop} {cells slots sz : Nat} {G : Gx} {h0 : Nat} {x1 : Int32} (C0 : CallFix p m c b_Mod_fillRow 4 s args wA R_Mod) (hE : xE G vwCl xaty s) (hR1 : 0 ≤ R.frames) (hR2 : 0 ≤ R.locals) (hR3 : cells ≤ R.cells) (hR4 : slots ≤ R.slots) : ∀ (n : Nat) (x2 : Int32) (w : Mp) (H : Heap) (locs : List Loc) (q : Nat × Int32 × Mp) (ls : Array Slot), xhd G vwCl w H → xS G s H locs → H.size = sz → xL ls 4 [(0, .inr (.inl (some h0))), (1, .inl x1), (2, .inl x2)] → f_Mod_fillRow_L7 h0 x1 n x2 w = some q → (∀ (H : Heap) (locs : List Loc) (ls : Array Slot), xhd G vwCl q.2.2 H → xS G s H locs → H.size = sz → xL ls 4 [(0, .inr (.inl (some h0))), (1, .inl x1), (2, .inl q.2.1)] → W p l e R s m args below meth c H locs cells slots Q (F0 m 94 ls [])) → W p l e R s m args below meth c H locs cells slots Q (F0 m 7 ls []) := by
  intro n
  induction n with
  | zero => intro _ _ _ _ q ls hH hS hz hl h; cases h
  | succ n ih =>
    intro x2 w H locs q ls hH hS hz hl h K
    rw [f_Mod_fillRow_L7] at h
    refine x_iload_n C0 hl 2 d_Mod_fillRow_7 rfl rfl ?_
    refine lv_sipush (v := 1000) C0.1 C0.2.1 d_Mod_fillRow_8 (by decide) ?_
    refine x_icmp_gt C0 94 d_Mod_fillRow_11 (by decide) h (fun h => ?_) (fun h => ?_)
    · cases h
      exact K _ _ ls hH hS hz (x_sub hl [0, 1, 2] rfl)
    · refine lv_iconst (v := 0) C0.1 C0.2.1 d_Mod_fillRow_14 (by decide) ?_
      refine x_istore_n (lv' := [(3, .inl (0 : Int32)), (0, .inr (.inl (some h0))), (1, .inl x1), (2, .inl x2)]) C0 hl d_Mod_fillRow_15 rfl (by decide) rfl (fun ls hl => ?_)
      obtain ⟨q_16, e9, h⟩ := Option.bind_eq_some_iff.mp h
      refine w_Mod_fillRow_L16 C0 hE hR1 hR2 hR3 hR4 100000 _ _ _ _ q_16 ls hH hS hz (x_sub hl [1, 2, 3, 0] rfl) e9 (fun H locs ls hH hS hz hl => ?_)
      refine x_iinc (v := 1) (lv' := [(2, .inl (x2 + 1)), (0, .inr (.inl (some h0))), (1, .inl x1), (3, .inl q_16.2.1)]) C0 hl 2 d_Mod_fillRow_88 rfl (by decide) (by decide) rfl (fun ls hl => ?_)
      refine x_goto C0 7 d_Mod_fillRow_91 (by decide) ?_
      exact ih _ _ _ _ q ls hH hS hz (x_sub hl [1, 2, 0] rfl) h K
def f_Mod_fillRow (w : Mp) (h0 : Nat) (x1 : Int32) : Option (Unit × Mp) := (pF w (some h0) 5 18 (.int (0 : Int32))).bind fun w_1 => (f_Mod_fillRow_L7 h0 x1 100000 (0 : Int32) w_1).bind fun q_17 => some ((), q_17.2.2)
set_option maxHeartbeats 4000000 in
set_option maxRecDepth 100000 in
theorem c_Mod_fillRow (l : Launch) (G : Gx) (w : Mp) (sz : Nat) (h0 : Nat) (x1 : Int32) (res : Unit × Mp) (hf : f_Mod_fillRow w h0 x1 = some res) : Met l y_Mod_fillRow (xws y_Mod_fillRow b_Mod_fillRow 4 none) { frames := 0, cells := 0, slots := 0, locals := 0 } (xPc G vwCl xaty w sz [va_rf (some h0), .int x1]) (xQ G vwCl (none) res.2 sz) (0) (0) (xA G) := by
  refine Met.ofW (cc := b_Mod_fillRow) (maxL := 4) (ret := none) (by decide) rfl ?_
  intro p e s m args below meth c s₁ B hml hv
  obtain ⟨ha, hE, hH, hz⟩ := hv
  have C0 : CallFix p m c b_Mod_fillRow 4 s args wA R_Mod := ⟨B.exec, B.bytes, hml, findClass_of_methodNamed B.named, fun w hw => atoms_spec (ws := xws y_Mod_fillRow b_Mod_fillRow 4 none) B.pre w (List.mem_cons_of_mem _ hw)⟩
  have hr := B.returns
  have hlocks := B.notSynchronized
  obtain ⟨R, hR⟩ : ∃ R, R = (headSpec (xws y_Mod_fillRow b_Mod_fillRow 4 none) { frames := 0, cells := 0, slots := 0, locals := 0 }).room := ⟨_, rfl⟩
  have hR1 : 0 ≤ R.frames := by rw [hR]; exact Nat.le_of_ble_eq_true rfl
  have hR2 : 0 ≤ R.locals := by rw [hR]; exact Nat.le_of_ble_eq_true rfl
  have hR3 : 0 ≤ R.cells := by rw [hR]; exact Nat.le_refl _
  have hR4 : 0 ≤ R.slots := by rw [hR]; exact Nat.le_refl _
  rw [← hR]
  obtain ⟨Q, hQ⟩ : ∃ Q, Q = MQ below (xQ G vwCl (none) res.2 sz) args s (0) (0) (xA G) := ⟨_, rfl⟩
  rw [← hQ]
  have hS : xS G s s.heap [] := va_S.rf
  obtain ⟨ls, he, hl⟩ := x_entry m [.inr (.inl (some h0)), .inl x1] 4 (Nat.le_of_ble_eq_true rfl)
  rw [show entryFrame m args 4 = F0 m 0 ls [] by rw [ha]; exact he]
  have hl : xL ls 4 [(0, .inr (.inl (some h0))), (1, .inl x1)] := hl
  have h := hf
  unfold f_Mod_fillRow at h
  suffices hmain : ∀ (H : Heap) (locs : List Loc), xhd G vwCl w H → xS G s H locs → H.size = sz → (H = s.heap ∧ locs = []) → W p l e R s m args below meth c H locs 0 0 Q (F0 m 0 ls []) from hmain _ _ hH hS hz ⟨rfl, rfl⟩
  clear hH hS hz
  intro H locs hH hS hz hP0
  refine x_aload_n C0 hl 0 d_Mod_fillRow_0 rfl rfl ?_
  refine lv_iconst (v := 0) C0.1 C0.2.1 d_Mod_fillRow_1 (by decide) ?_
  refine x_put C0 hE hH hS (ci := 5) rfl i_Mod t_Mod t_Mod_ok n_Mod 18 (by decide) kw_4_97 rfl rfl rfl d_Mod_fillRow_2 h (fun w_1 H locs hH hS hz9 h => ?_)
  have hz := hz9.trans hz
  refine lv_iconst (v := 0) C0.1 C0.2.1 d_Mod_fillRow_5 (by decide) ?_
  refine x_istore_n (lv' := [(2, .inl (0 : Int32)), (0, .inr (.inl (some h0))), (1, .inl x1)]) C0 hl d_Mod_fillRow_6 rfl (by decide) rfl (fun ls hl => ?_)
  obtain ⟨q_17, e9, h⟩ := Option.bind_eq_some_iff.mp h
  refine w_Mod_fillRow_L7 C0 hE hR1 hR2 hR3 hR4 100000 _ _ _ _ q_17 ls hH hS hz (x_sub hl [1, 2, 0] rfl) e9 (fun H locs ls hH hS hz hl => ?_)
  cases h
  rw [hQ]
  exact x_vret C0 hr hlocks hH hS hz d_Mod_fillRow_94
theorem d_Mod_match_0 : decode b_Mod_match 0 = .ok (.iconst 0, 1) := by decide +kernel
theorem d_Mod_match_1 : decode b_Mod_match 1 = .ok (.istore_n 3, 1) := by decide +kernel
theorem d_Mod_match_2 : decode b_Mod_match 2 = .ok (.aload_n 0, 1) := by decide +kernel
theorem d_Mod_match_3 : decode b_Mod_match 3 = .ok (.iconst 0, 1) := by decide +kernel
theorem d_Mod_match_4 : decode b_Mod_match 4 = .ok (.invokevirtual 77, 3) := by decide +kernel
theorem d_Mod_match_7 : decode b_Mod_match 7 = .ok (.iload_n 3, 1) := by decide +kernel
theorem d_Mod_match_8 : decode b_Mod_match 8 = .ok (.iconst 4, 1) := by decide +kernel
theorem d_Mod_match_9 : decode b_Mod_match 9 = .ok (.if_icmp .ge 22, 3) := by decide +kernel
theorem d_Mod_match_12 : decode b_Mod_match 12 = .ok (.aload_n 0, 1) := by decide +kernel
theorem d_Mod_match_13 : decode b_Mod_match 13 = .ok (.getfield 74, 3) := by decide +kernel
theorem d_Mod_match_16 : decode b_Mod_match 16 = .ok (.iload_n 2, 1) := by decide +kernel
theorem d_Mod_match_17 : decode b_Mod_match 17 = .ok (.if_icmp .ge 14, 3) := by decide +kernel
theorem d_Mod_match_20 : decode b_Mod_match 20 = .ok (.iinc 3 1, 3) := by decide +kernel
theorem d_Mod_match_23 : decode b_Mod_match 23 = .ok (.aload_n 0, 1) := by decide +kernel
theorem d_Mod_match_24 : decode b_Mod_match 24 = .ok (.iload_n 3, 1) := by decide +kernel
theorem d_Mod_match_25 : decode b_Mod_match 25 = .ok (.invokevirtual 77, 3) := by decide +kernel
theorem d_Mod_match_28 : decode b_Mod_match 28 = .ok (.goto (-21), 3) := by decide +kernel
theorem d_Mod_match_31 : decode b_Mod_match 31 = .ok (.iload_n 1, 1) := by decide +kernel
theorem d_Mod_match_32 : decode b_Mod_match 32 = .ok (.iconst 0, 1) := by decide +kernel
theorem d_Mod_match_33 : decode b_Mod_match 33 = .ok (.iconst 3, 1) := by decide +kernel
theorem d_Mod_match_34 : decode b_Mod_match 34 = .ok (.invokestatic 66, 3) := by decide +kernel
theorem d_Mod_match_37 : decode b_Mod_match 37 = .ok (.ifCond .eq 27, 3) := by decide +kernel
theorem d_Mod_match_40 : decode b_Mod_match 40 = .ok (.iload_n 2, 1) := by decide +kernel
theorem d_Mod_match_41 : decode b_Mod_match 41 = .ok (.iconst 2, 1) := by decide +kernel
theorem d_Mod_match_42 : decode b_Mod_match 42 = .ok (.bipush 8, 2) := by decide +kernel
theorem d_Mod_match_44 : decode b_Mod_match 44 = .ok (.invokestatic 66, 3) := by decide +kernel
theorem d_Mod_match_47 : decode b_Mod_match 47 = .ok (.ifCond .eq 17, 3) := by decide +kernel
theorem d_Mod_match_50 : decode b_Mod_match 50 = .ok (.iload_n 1, 1) := by decide +kernel
theorem d_Mod_match_51 : decode b_Mod_match 51 = .ok (.iconst 3, 1) := by decide +kernel
theorem d_Mod_match_52 : decode b_Mod_match 52 = .ok (.if_icmp .ne 8, 3) := by decide +kernel
theorem d_Mod_match_55 : decode b_Mod_match 55 = .ok (.iload_n 2, 1) := by decide +kernel
theorem d_Mod_match_56 : decode b_Mod_match 56 = .ok (.iconst 4, 1) := by decide +kernel
theorem d_Mod_match_57 : decode b_Mod_match 57 = .ok (.if_icmp .ne 7, 3) := by decide +kernel
theorem d_Mod_match_60 : decode b_Mod_match 60 = .ok (.iconst 1, 1) := by decide +kernel
theorem d_Mod_match_61 : decode b_Mod_match 61 = .ok (.goto 4, 3) := by decide +kernel
theorem d_Mod_match_64 : decode b_Mod_match 64 = .ok (.iconst 0, 1) := by decide +kernel
theorem d_Mod_match_65 : decode b_Mod_match 65 = .ok (.istore 4, 2) := by decide +kernel
theorem d_Mod_match_67 : decode b_Mod_match 67 = .ok (.aload_n 0, 1) := by decide +kernel
theorem d_Mod_match_68 : decode b_Mod_match 68 = .ok (.aload_n 0, 1) := by decide +kernel
theorem d_Mod_match_69 : decode b_Mod_match 69 = .ok (.getfield 81, 3) := by decide +kernel
theorem d_Mod_match_72 : decode b_Mod_match 72 = .ok (.bipush 8, 2) := by decide +kernel
theorem d_Mod_match_74 : decode b_Mod_match 74 = .ok (.if_icmp .eq 8, 3) := by decide +kernel
theorem d_Mod_match_77 : decode b_Mod_match 77 = .ok (.iload_n 3, 1) := by decide +kernel
theorem d_Mod_match_78 : decode b_Mod_match 78 = .ok (.iconst 4, 1) := by decide +kernel
theorem d_Mod_match_79 : decode b_Mod_match 79 = .ok (.if_icmp .ne 7, 3) := by decide +kernel
theorem d_Mod_match_82 : decode b_Mod_match 82 = .ok (.iconst 1, 1) := by decide +kernel
theorem d_Mod_match_83 : decode b_Mod_match 83 = .ok (.goto 13, 3) := by decide +kernel
theorem d_Mod_match_86 : decode b_Mod_match 86 = .ok (.iload 4, 2) := by decide +kernel
theorem d_Mod_match_88 : decode b_Mod_match 88 = .ok (.ifCond .eq 7, 3) := by decide +kernel
theorem d_Mod_match_91 : decode b_Mod_match 91 = .ok (.iconst 0, 1) := by decide +kernel
theorem d_Mod_match_92 : decode b_Mod_match 92 = .ok (.goto 4, 3) := by decide +kernel
theorem d_Mod_match_95 : decode b_Mod_match 95 = .ok (.iconst 2, 1) := by decide +kernel
theorem d_Mod_match_96 : decode b_Mod_match 96 = .ok (.putfield 59, 3) := by decide +kernel
theorem d_Mod_match_99 : decode b_Mod_match 99 = .ok (.aload_n 0, 1) := by decide +kernel
theorem d_Mod_match_100 : decode b_Mod_match 100 = .ok (.getfield 59, 3) := by decide +kernel
theorem d_Mod_match_103 : decode b_Mod_match 103 = .ok (.ifCond .le 5, 3) := by decide +kernel
theorem d_Mod_match_106 : decode b_Mod_match 106 = .ok (.iconst 0, 1) := by decide +kernel
theorem d_Mod_match_107 : decode b_Mod_match 107 = .ok (.ireturn, 1) := by decide +kernel
theorem d_Mod_match_108 : decode b_Mod_match 108 = .ok (.iconst 0, 1) := by decide +kernel
theorem d_Mod_match_109 : decode b_Mod_match 109 = .ok (.istore 5, 2) := by decide +kernel
theorem d_Mod_match_111 : decode b_Mod_match 111 = .ok (.iconst 1, 1) := by decide +kernel
theorem d_Mod_match_112 : decode b_Mod_match 112 = .ok (.istore 6, 2) := by decide +kernel
theorem d_Mod_match_114 : decode b_Mod_match 114 = .ok (.iload 6, 2) := by decide +kernel
theorem d_Mod_match_116 : decode b_Mod_match 116 = .ok (.iload_n 2, 1) := by decide +kernel
theorem d_Mod_match_117 : decode b_Mod_match 117 = .ok (.if_icmp .ge 52, 3) := by decide +kernel
theorem d_Mod_match_120 : decode b_Mod_match 120 = .ok (.iload 5, 2) := by decide +kernel
theorem d_Mod_match_122 : decode b_Mod_match 122 = .ok (.ifCond .ne 34, 3) := by decide +kernel
theorem d_Mod_match_125 : decode b_Mod_match 125 = .ok (.aload_n 0, 1) := by decide +kernel
theorem d_Mod_match_126 : decode b_Mod_match 126 = .ok (.getfield 13, 3) := by decide +kernel
theorem d_Mod_match_129 : decode b_Mod_match 129 = .ok (.aload_n 0, 1) := by decide +kernel
theorem d_Mod_match_130 : decode b_Mod_match 130 = .ok (.getfield 50, 3) := by decide +kernel
theorem d_Mod_match_133 : decode b_Mod_match 133 = .ok (.iload 6, 2) := by decide +kernel
theorem d_Mod_match_135 : decode b_Mod_match 135 = .ok (.iaload, 1) := by decide +kernel
theorem d_Mod_match_136 : decode b_Mod_match 136 = .ok (.iaload, 1) := by decide +kernel
theorem d_Mod_match_137 : decode b_Mod_match 137 = .ok (.aload_n 0, 1) := by decide +kernel
theorem d_Mod_match_138 : decode b_Mod_match 138 = .ok (.getfield 13, 3) := by decide +kernel
theorem d_Mod_match_141 : decode b_Mod_match 141 = .ok (.aload_n 0, 1) := by decide +kernel
theorem d_Mod_match_142 : decode b_Mod_match 142 = .ok (.getfield 50, 3) := by decide +kernel
theorem d_Mod_match_145 : decode b_Mod_match 145 = .ok (.iload 6, 2) := by decide +kernel
theorem d_Mod_match_147 : decode b_Mod_match 147 = .ok (.iconst 1, 1) := by decide +kernel
theorem d_Mod_match_148 : decode b_Mod_match 148 = .ok (.isub, 1) := by decide +kernel
theorem d_Mod_match_149 : decode b_Mod_match 149 = .ok (.iaload, 1) := by decide +kernel
theorem d_Mod_match_150 : decode b_Mod_match 150 = .ok (.iaload, 1) := by decide +kernel
theorem d_Mod_match_151 : decode b_Mod_match 151 = .ok (.iconst 1, 1) := by decide +kernel
theorem d_Mod_match_152 : decode b_Mod_match 152 = .ok (.iadd, 1) := by decide +kernel
theorem d_Mod_match_153 : decode b_Mod_match 153 = .ok (.if_icmp .eq 7, 3) := by decide +kernel
theorem d_Mod_match_156 : decode b_Mod_match 156 = .ok (.iconst 1, 1) := by decide +kernel
theorem d_Mod_match_157 : decode b_Mod_match 157 = .ok (.goto 4, 3) := by decide +kernel
theorem d_Mod_match_160 : decode b_Mod_match 160 = .ok (.iconst 0, 1) := by decide +kernel
theorem d_Mod_match_161 : decode b_Mod_match 161 = .ok (.istore 5, 2) := by decide +kernel
theorem d_Mod_match_163 : decode b_Mod_match 163 = .ok (.iinc 6 1, 3) := by decide +kernel
theorem d_Mod_match_166 : decode b_Mod_match 166 = .ok (.goto (-52), 3) := by decide +kernel
theorem d_Mod_match_169 : decode b_Mod_match 169 = .ok (.iload 5, 2) := by decide +kernel
theorem d_Mod_match_171 : decode b_Mod_match 171 = .ok (.ifCond .eq 5, 3) := by decide +kernel
theorem d_Mod_match_174 : decode b_Mod_match 174 = .ok (.iconst (-1), 1) := by decide +kernel
theorem d_Mod_match_175 : decode b_Mod_match 175 = .ok (.ireturn, 1) := by decide +kernel
theorem d_Mod_match_176 : decode b_Mod_match 176 = .ok (.aload_n 0, 1) := by decide +kernel
theorem d_Mod_match_177 : decode b_Mod_match 177 = .ok (.getfield 32, 3) := by decide +kernel
theorem d_Mod_match_180 : decode b_Mod_match 180 = .ok (.aload_n 0, 1) := by decide +kernel
theorem d_Mod_match_181 : decode b_Mod_match 181 = .ok (.getfield 81, 3) := by decide +kernel
theorem d_Mod_match_184 : decode b_Mod_match 184 = .ok (.iload_n 1, 1) := by decide +kernel
theorem d_Mod_match_185 : decode b_Mod_match 185 = .ok (.iastore, 1) := by decide +kernel
theorem d_Mod_match_186 : decode b_Mod_match 186 = .ok (.aload_n 0, 1) := by decide +kernel
theorem d_Mod_match_187 : decode b_Mod_match 187 = .ok (.getfield 35, 3) := by decide +kernel
theorem d_Mod_match_190 : decode b_Mod_match 190 = .ok (.aload_n 0, 1) := by decide +kernel
theorem d_Mod_match_191 : decode b_Mod_match 191 = .ok (.getfield 81, 3) := by decide +kernel
theorem d_Mod_match_194 : decode b_Mod_match 194 = .ok (.iload_n 2, 1) := by decide +kernel
theorem d_Mod_match_195 : decode b_Mod_match 195 = .ok (.iastore, 1) := by decide +kernel
theorem d_Mod_match_196 : decode b_Mod_match 196 = .ok (.iconst 0, 1) := by decide +kernel
theorem d_Mod_match_197 : decode b_Mod_match 197 = .ok (.istore 6, 2) := by decide +kernel
theorem d_Mod_match_199 : decode b_Mod_match 199 = .ok (.iload 6, 2) := by decide +kernel
theorem d_Mod_match_201 : decode b_Mod_match 201 = .ok (.iload_n 2, 1) := by decide +kernel
theorem d_Mod_match_202 : decode b_Mod_match 202 = .ok (.if_icmp .ge 44, 3) := by decide +kernel
theorem d_Mod_match_205 : decode b_Mod_match 205 = .ok (.aload_n 0, 1) := by decide +kernel
theorem d_Mod_match_206 : decode b_Mod_match 206 = .ok (.getfield 38, 3) := by decide +kernel
theorem d_Mod_match_209 : decode b_Mod_match 209 = .ok (.bipush 8, 2) := by decide +kernel
theorem d_Mod_match_211 : decode b_Mod_match 211 = .ok (.aload_n 0, 1) := by decide +kernel
theorem d_Mod_match_212 : decode b_Mod_match 212 = .ok (.getfield 81, 3) := by decide +kernel
theorem d_Mod_match_215 : decode b_Mod_match 215 = .ok (.imul, 1) := by decide +kernel
theorem d_Mod_match_216 : decode b_Mod_match 216 = .ok (.iload 6, 2) := by decide +kernel
theorem d_Mod_match_218 : decode b_Mod_match 218 = .ok (.iadd, 1) := by decide +kernel
theorem d_Mod_match_219 : decode b_Mod_match 219 = .ok (.aload_n 0, 1) := by decide +kernel
theorem d_Mod_match_220 : decode b_Mod_match 220 = .ok (.getfield 50, 3) := by decide +kernel
theorem d_Mod_match_223 : decode b_Mod_match 223 = .ok (.iload 6, 2) := by decide +kernel
theorem d_Mod_match_225 : decode b_Mod_match 225 = .ok (.iaload, 1) := by decide +kernel
theorem d_Mod_match_226 : decode b_Mod_match 226 = .ok (.iastore, 1) := by decide +kernel
theorem d_Mod_match_227 : decode b_Mod_match 227 = .ok (.aload_n 0, 1) := by decide +kernel
theorem d_Mod_match_228 : decode b_Mod_match 228 = .ok (.getfield 25, 3) := by decide +kernel
theorem d_Mod_match_231 : decode b_Mod_match 231 = .ok (.aload_n 0, 1) := by decide +kernel
theorem d_Mod_match_232 : decode b_Mod_match 232 = .ok (.getfield 50, 3) := by decide +kernel
theorem d_Mod_match_235 : decode b_Mod_match 235 = .ok (.iload 6, 2) := by decide +kernel
theorem d_Mod_match_237 : decode b_Mod_match 237 = .ok (.iaload, 1) := by decide +kernel
theorem d_Mod_match_238 : decode b_Mod_match 238 = .ok (.iconst 1, 1) := by decide +kernel
theorem d_Mod_match_239 : decode b_Mod_match 239 = .ok (.bastore, 1) := by decide +kernel
theorem d_Mod_match_240 : decode b_Mod_match 240 = .ok (.iinc 6 1, 3) := by decide +kernel
theorem d_Mod_match_243 : decode b_Mod_match 243 = .ok (.goto (-44), 3) := by decide +kernel
theorem d_Mod_match_246 : decode b_Mod_match 246 = .ok (.aload_n 0, 1) := by decide +kernel
theorem d_Mod_match_247 : decode b_Mod_match 247 = .ok (.dup, 1) := by decide +kernel
theorem d_Mod_match_248 : decode b_Mod_match 248 = .ok (.getfield 81, 3) := by decide +kernel
theorem d_Mod_match_251 : decode b_Mod_match 251 = .ok (.iconst 1, 1) := by decide +kernel
theorem d_Mod_match_252 : decode b_Mod_match 252 = .ok (.iadd, 1) := by decide +kernel
theorem d_Mod_match_253 : decode b_Mod_match 253 = .ok (.putfield 81, 3) := by decide +kernel
theorem d_Mod_match_256 : decode b_Mod_match 256 = .ok (.aload_n 0, 1) := by decide +kernel
theorem d_Mod_match_257 : decode b_Mod_match 257 = .ok (.iconst 0, 1) := by decide +kernel
theorem d_Mod_match_258 : decode b_Mod_match 258 = .ok (.putfield 70, 3) := by decide +kernel
theorem d_Mod_match_261 : decode b_Mod_match 261 = .ok (.aload_n 0, 1) := by decide +kernel
theorem d_Mod_match_262 : decode b_Mod_match 262 = .ok (.getfield 81, 3) := by decide +kernel
theorem d_Mod_match_265 : decode b_Mod_match 265 = .ok (.iconst 1, 1) := by decide +kernel
theorem d_Mod_match_266 : decode b_Mod_match 266 = .ok (.isub, 1) := by decide +kernel
theorem d_Mod_match_267 : decode b_Mod_match 267 = .ok (.ireturn, 1) := by decide +kernel
def f_Mod_match_L7 (h0 : Nat) (x1 : Int32) (x2 : Int32) : Nat → Int32 → Mp → Option (Nat × Int32 × Mp)
  | 0, _, _ => none
  | n + 1, x3, w => if (4 : Int32) ≤ x3 then (some (0, x3, w)) else ((gI w (some h0) 5 18).bind fun v_3 => if x2 ≤ v_3 then (some (0, x3, w)) else ((xo w (some h0) 5).bind fun b_5 => (f_Mod_fillRow w b_5 (x3 + 1)).bind fun q_4 => f_Mod_match_L7 h0 x1 x2 n (x3 + 1) q_4.2))
set_option maxHeartbeats 4000000 in
set_option maxRecDepth 100000 in
theorem w_Mod_match_L7 {p : Program} {l : Launch} {e : Env} {R : Room} {s : State} {m : MethodId} {args : Array Value} {below : List Frame} {meth : Method} {c : Code} {Q : State → Prop} {cells slots sz : Nat} {G : Gx} {h0 : Nat} {x1 : Int32} {x2 : Int32} (C0 : CallFix p m c b_Mod_match 7 s args wA R_Mod) (hE : xE G vwCl xaty s) (hR1 : 1 ≤ R.frames) (hR2 : 23 ≤ R.locals) (hR3 : cells ≤ R.cells) (hR4 : slots ≤ R.slots) : ∀ (n : Nat) (x3 : Int32) (w : Mp) (H : Heap) (locs : List Loc) (q : Nat × Int32 × Mp) (ls : Array Slot), xhd G vwCl w H → xS G s H locs → H.size = sz → xL ls 7 [(0, .inr (.inl (some h0))), (1, .inl x1), (2, .inl x2), (3, .inl x3)] → f_Mod_match_L7 h0 x1 x2 n x3 w = some q → (∀ (H : Heap) (locs : List Loc) (ls : Array Slot), xhd G vwCl q.2.2 H → xS G s H locs → H.size = sz → xL ls 7 [(0, .inr (.inl (some h0))), (1, .inl x1), (2, .inl x2), (3, .inl q.2.1)] → W p l e R s m args below meth c H locs cells slots Q (F0 m 31 ls [])) → W p l e R s m args below meth c H locs cells slots Q (F0 m 7 ls []) := by
  intro n
  induction n with
  | zero => intro _ _ _ _ q ls hH hS hz hl h; cases h
  | succ n ih =>
    intro x3 w H locs q ls hH hS hz hl h K
    rw [f_Mod_match_L7] at h
    refine x_iload_n C0 hl 3 d_Mod_match_7 rfl rfl ?_
    refine lv_iconst (v := 4) C0.1 C0.2.1 d_Mod_match_8 (by decide) ?_
    refine x_icmp_ge C0 31 d_Mod_match_9 (by decide) h (fun h => ?_) (fun h => ?_)
    · cases h
      exact K _ _ ls hH hS hz (x_sub hl [0, 1, 2, 3] rfl)
    · refine x_aload_n C0 hl 0 d_Mod_match_12 rfl rfl ?_
      refine x_getI C0 hE hH (ci := 5) rfl i_Mod 18 (by decide) kw_4_97 d_Mod_match_13 h (fun v_3 h => ?_)
      refine x_iload_n C0 hl 2 d_Mod_match_16 rfl rfl ?_
      refine x_icmp_ge C0 31 d_Mod_match_17 (by decide) h (fun h => ?_) (fun h => ?_)
      · cases h
        exact K _ _ ls hH hS hz (x_sub hl [0, 1, 2, 3] rfl)
      · refine x_iinc (v := 1) (lv' := [(3, .inl (x3 + 1)), (0, .inr (.inl (some h0))), (1, .inl x1), (2, .inl x2)]) C0 hl 3 d_Mod_match_20 rfl (by decide) (by decide) rfl (fun ls hl => ?_)
        refine x_aload_n C0 hl 1 d_Mod_match_23 rfl rfl ?_
        refine x_iload_n C0 hl 0 d_Mod_match_24 rfl rfl ?_
        obtain ⟨b_5, e9, h⟩ := Option.bind_eq_some_iff.mp h
        obtain ⟨e8, fs9, hb9⟩ := xo_inv e9
        obtain ⟨q_4, e9, h⟩ := Option.bind_eq_some_iff.mp h
        refine x_call0 hS (va_runV (As := [.int (x3 + 1)]) (rest := []) C0 (c_Mod_fillRow l G w _ b_5 (x3 + 1) q_4 e9) (x_cwV 1 C0 kw_4_170 kw_4_173 kw_1_3 kw_4_172 kw_0_15 (by decide +kernel) (x_rm hR1 hR2 (Nat.le_of_ble_eq_true rfl) (Nat.le_of_ble_eq_true rfl))) (x_preV hE hH hS (ci := 5) rfl hb9) rfl rfl hl.1 (by rw [e8]; rfl) (lv_room (by first | exact Nat.le_of_ble_eq_true rfl | simp only [List.map_cons, List.map_nil, List.sum_cons, List.sum_nil, va_rf_cat, x_catI, x_catL, x_catA] <;> decide)) d_Mod_match_25 (x_le0 hR3 hR4)) (fun H locs hH hS hz9 => ?_)
        have hz := hz9.trans hz
        refine x_goto C0 7 d_Mod_match_28 (by decide) ?_
        exact ih _ _ _ _ q ls hH hS hz (x_sub hl [1, 2, 3, 0] rfl) h K
def f_Mod_match_L114 (w : Mp) (h0 : Nat) (x1 : Int32) (x2 : Int32) : Nat → Int32 → Int32 → Option (Nat × Int32 × Int32)
  | 0, _, _ => none
  | n + 1, x5, x6 => if x2 ≤ x6 then (some (0, x5, x6)) else (if x5 = 0 then ((gR w (some h0) 5 3).bind fun v_15 => (gR w (some h0) 5 19).bind fun v_16 => (aI w v_16 0 x6).bind fun v_17 => (aI w v_15 0 v_17).bind fun v_18 => (gR w (some h0) 5 3).bind fun v_19 => (gR w (some h0) 5 19).bind fun v_20 => (aI w v_20 0 (x6 - (1 : Int32))).bind fun v_21 => (aI w v_19 0 v_21).bind fun v_22 => if v_18 = (v_22 + (1 : Int32)) then (f_Mod_match_L114 w h0 x1 x2 n (0 : Int32) (x6 + 1)) else (f_Mod_match_L114 w h0 x1 x2 n (1 : Int32) (x6 + 1))) else (f_Mod_match_L114 w h0 x1 x2 n (1 : Int32) (x6 + 1)))
set_option maxHeartbeats 4000000 in
set_option maxRecDepth 100000 in
theorem w_Mod_match_L114 {p : Program} {l : Launch} {e : Env} {R : Room} {s : State} {m : MethodId} {args : Array Value} {below : List Frame} {meth : Method} {c : Code} {Q : State → Prop} {cells slots sz : Nat} {G : Gx} {h0 : Nat} {x1 : Int32} {x2 : Int32} (C0 : CallFix p m c b_Mod_match 7 s args wA R_Mod) (hE : xE G vwCl xaty s) (hR1 : 1 ≤ R.frames) (hR2 : 23 ≤ R.locals) (hR3 : cells ≤ R.cells) (hR4 : slots ≤ R.slots) {w : Mp} {H : Heap} {locs : List Loc} (hH : xhd G vwCl w H) (hS : xS G s H locs) (hz : H.size = sz) : ∀ (n : Nat) (x5 : Int32) (x6 : Int32) (q : Nat × Int32 × Int32) (ls : Array Slot), xL ls 7 [(0, .inr (.inl (some h0))), (1, .inl x1), (2, .inl x2), (5, .inl x5), (6, .inl x6)] → f_Mod_match_L114 w h0 x1 x2 n x5 x6 = some q → (∀ (ls : Array Slot), xL ls 7 [(0, .inr (.inl (some h0))), (1, .inl x1), (2, .inl x2), (5, .inl q.2.1), (6, .inl q.2.2)] → W p l e R s m args below meth c H locs cells slots Q (F0 m 169 ls [])) → W p l e R s m args below meth c H locs cells slots Q (F0 m 114 ls []) := by
  intro n
  induction n with
  | zero => intro _ _ q ls hl h; cases h
  | succ n ih =>
    intro x5 x6 q ls hl h K
    rw [f_Mod_match_L114] at h
    refine x_iload C0 hl 4 d_Mod_match_114 rfl ?_
    refine x_iload_n C0 hl 2 d_Mod_match_116 rfl rfl ?_
    refine x_icmp_ge C0 169 d_Mod_match_117 (by decide) h (fun h => ?_) (fun h => ?_)
    · cases h
      exact K ls (x_sub hl [0, 1, 2, 3, 4] rfl)
    · refine x_iload C0 hl 3 d_Mod_match_120 rfl ?_
      refine x_if_ne C0 156 d_Mod_match_122 (by decide) h (fun h => ?_) (fun h => ?_)
      · refine lv_iconst (v := 1) C0.1 C0.2.1 d_Mod_match_156 (by decide) ?_
        refine x_goto C0 161 d_Mod_match_157 (by decide) ?_
        refine x_istore (lv' := [(5, .inl (1 : Int32)), (0, .inr (.inl (some h0))), (1, .inl x1), (2, .inl x2), (6, .inl x6)]) C0 hl d_Mod_match_161 (by decide) rfl (fun ls hl => ?_)
        refine x_iinc (v := 1) (lv' := [(6, .inl (x6 + 1)), (5, .inl (1 : Int32)), (0, .inr (.inl (some h0))), (1, .inl x1), (2, .inl x2)]) C0 hl 4 d_Mod_match_163 rfl (by decide) (by decide) rfl (fun ls hl => ?_)
        refine x_goto C0 114 d_Mod_match_166 (by decide) ?_
        exact ih _ _ q ls (x_sub hl [2, 3, 4, 1, 0] rfl) h K
      · refine x_aload_n C0 hl 0 d_Mod_match_125 rfl rfl ?_
        refine x_getR C0 hE hH (ci := 5) rfl i_Mod 3 (by decide) kw_4_82 d_Mod_match_126 h (fun v_15 h => ?_)
        refine x_aload_n C0 hl 0 d_Mod_match_129 rfl rfl ?_
        refine x_getR C0 hE hH (ci := 5) rfl i_Mod 19 (by decide) kw_4_98 d_Mod_match_130 h (fun v_16 h => ?_)
        refine x_iload C0 hl 4 d_Mod_match_133 rfl ?_
        refine x_iald C0 hE hH (t := 0) rfl d_Mod_match_135 h (fun v_17 h => ?_)
        refine x_iald C0 hE hH (t := 0) rfl d_Mod_match_136 h (fun v_18 h => ?_)
        refine x_aload_n C0 hl 0 d_Mod_match_137 rfl rfl ?_
        refine x_getR C0 hE hH (ci := 5) rfl i_Mod 3 (by decide) kw_4_82 d_Mod_match_138 h (fun v_19 h => ?_)
        refine x_aload_n C0 hl 0 d_Mod_match_141 rfl rfl ?_
        refine x_getR C0 hE hH (ci := 5) rfl i_Mod 19 (by decide) kw_4_98 d_Mod_match_142 h (fun v_20 h => ?_)
        refine x_iload C0 hl 4 d_Mod_match_145 rfl ?_
        refine lv_iconst (v := 1) C0.1 C0.2.1 d_Mod_match_147 (by decide) ?_
        refine lv_isub C0.1 C0.2.1 d_Mod_match_148 ?_
        refine x_iald C0 hE hH (t := 0) rfl d_Mod_match_149 h (fun v_21 h => ?_)
        refine x_iald C0 hE hH (t := 0) rfl d_Mod_match_150 h (fun v_22 h => ?_)
        refine lv_iconst (v := 1) C0.1 C0.2.1 d_Mod_match_151 (by decide) ?_
        refine lv_iadd C0.1 C0.2.1 d_Mod_match_152 ?_
        refine x_icmp_eq C0 160 d_Mod_match_153 (by decide) h (fun h => ?_) (fun h => ?_)
        · refine lv_iconst (v := 0) C0.1 C0.2.1 d_Mod_match_160 (by decide) ?_
          refine x_istore (lv' := [(5, .inl (0 : Int32)), (0, .inr (.inl (some h0))), (1, .inl x1), (2, .inl x2), (6, .inl x6)]) C0 hl d_Mod_match_161 (by decide) rfl (fun ls hl => ?_)
          refine x_iinc (v := 1) (lv' := [(6, .inl (x6 + 1)), (5, .inl (0 : Int32)), (0, .inr (.inl (some h0))), (1, .inl x1), (2, .inl x2)]) C0 hl 4 d_Mod_match_163 rfl (by decide) (by decide) rfl (fun ls hl => ?_)
          refine x_goto C0 114 d_Mod_match_166 (by decide) ?_
          exact ih _ _ q ls (x_sub hl [2, 3, 4, 1, 0] rfl) h K
        · refine lv_iconst (v := 1) C0.1 C0.2.1 d_Mod_match_156 (by decide) ?_
          refine x_goto C0 161 d_Mod_match_157 (by decide) ?_
          refine x_istore (lv' := [(5, .inl (1 : Int32)), (0, .inr (.inl (some h0))), (1, .inl x1), (2, .inl x2), (6, .inl x6)]) C0 hl d_Mod_match_161 (by decide) rfl (fun ls hl => ?_)
          refine x_iinc (v := 1) (lv' := [(6, .inl (x6 + 1)), (5, .inl (1 : Int32)), (0, .inr (.inl (some h0))), (1, .inl x1), (2, .inl x2)]) C0 hl 4 d_Mod_match_163 rfl (by decide) (by decide) rfl (fun ls hl => ?_)
          refine x_goto C0 114 d_Mod_match_166 (by decide) ?_
          exact ih _ _ q ls (x_sub hl [2, 3, 4, 1, 0] rfl) h K
def f_Mod_match_L199 (h0 : Nat) (x2 : Int32) : Nat → Int32 → Mp → Option (Nat × Int32 × Mp)
  | 0, _, _ => none
  | n + 1, x6, w => if x2 ≤ x6 then (some (0, x6, w)) else ((gR w (some h0) 5 12).bind fun v_30 => (gI w (some h0) 5 9).bind fun v_31 => (gR w (some h0) 5 19).bind fun v_32 => (aI w v_32 0 x6).bind fun v_33 => (sI w v_30 0 (((8 : Int32) * v_31) + x6) v_33).bind fun w_34 => (gR w_34 (some h0) 5 7).bind fun v_35 => (gR w_34 (some h0) 5 19).bind fun v_36 => (aI w_34 v_36 0 x6).bind fun v_37 => (sI w_34 v_35 4 v_37 (vp_nar .boolean (1 : Int32))).bind fun w_38 => f_Mod_match_L199 h0 x2 n (x6 + 1) w_38)
set_option maxHeartbeats 4000000 in
set_option maxRecDepth 100000 in
theorem w_Mod_match_L199 {p : Program} {l : Launch} {e : Env} {R : Room} {s : State} {m : MethodId} {args : Array Value} {below : List Frame} {meth : Method} {c : Code} {Q : State → Prop} {cells slots sz : Nat} {G : Gx} {h0 : Nat} {x2 : Int32} (C0 : CallFix p m c b_Mod_match 7 s args wA R_Mod) (hE : xE G vwCl xaty s) (hR1 : 1 ≤ R.frames) (hR2 : 23 ≤ R.locals) (hR3 : cells ≤ R.cells) (hR4 : slots ≤ R.slots) : ∀ (n : Nat) (x6 : Int32) (w : Mp) (H : Heap) (locs : List Loc) (q : Nat × Int32 × Mp) (ls : Array Slot), xhd G vwCl w H → xS G s H locs → H.size = sz → xL ls 7 [(0, .inr (.inl (some h0))), (2, .inl x2), (6, .inl x6)] → f_Mod_match_L199 h0 x2 n x6 w = some q → (∀ (H : Heap) (locs : List Loc) (ls : Array Slot), xhd G vwCl q.2.2 H → xS G s H locs → H.size = sz → xL ls 7 [(0, .inr (.inl (some h0))), (2, .inl x2), (6, .inl q.2.1)] → W p l e R s m args below meth c H locs cells slots Q (F0 m 246 ls [])) → W p l e R s m args below meth c H locs cells slots Q (F0 m 199 ls []) := by
  intro n
  induction n with
  | zero => intro _ _ _ _ q ls hH hS hz hl h; cases h
  | succ n ih =>
    intro x6 w H locs q ls hH hS hz hl h K
    rw [f_Mod_match_L199] at h
    refine x_iload C0 hl 2 d_Mod_match_199 rfl ?_
    refine x_iload_n C0 hl 1 d_Mod_match_201 rfl rfl ?_
    refine x_icmp_ge C0 246 d_Mod_match_202 (by decide) h (fun h => ?_) (fun h => ?_)
    · cases h
      exact K _ _ ls hH hS hz (x_sub hl [0, 1, 2] rfl)
    · refine x_aload_n C0 hl 0 d_Mod_match_205 rfl rfl ?_
      refine x_getR C0 hE hH (ci := 5) rfl i_Mod 12 (by decide) kw_4_91 d_Mod_match_206 h (fun v_30 h => ?_)
      refine lv_bipush (v := 8) C0.1 C0.2.1 d_Mod_match_209 (by decide) ?_
      refine x_aload_n C0 hl 0 d_Mod_match_211 rfl rfl ?_
      refine x_getI C0 hE hH (ci := 5) rfl i_Mod 9 (by decide) kw_4_88 d_Mod_match_212 h (fun v_31 h => ?_)
      refine lv_imul C0.1 C0.2.1 d_Mod_match_215 ?_
      refine x_iload C0 hl 2 d_Mod_match_216 rfl ?_
      refine lv_iadd C0.1 C0.2.1 d_Mod_match_218 ?_
      refine x_aload_n C0 hl 0 d_Mod_match_219 rfl rfl ?_
      refine x_getR C0 hE hH (ci := 5) rfl i_Mod 19 (by decide) kw_4_98 d_Mod_match_220 h (fun v_32 h => ?_)
      refine x_iload C0 hl 2 d_Mod_match_223 rfl ?_
      refine x_iald C0 hE hH (t := 0) rfl d_Mod_match_225 h (fun v_33 h => ?_)
      refine x_iast C0 hE hH hS (t := 0) rfl d_Mod_match_226 h (fun w_34 H locs hH hS hz9 h => ?_)
      have hz := hz9.trans hz
      refine x_aload_n C0 hl 0 d_Mod_match_227 rfl rfl ?_
      refine x_getR C0 hE hH (ci := 5) rfl i_Mod 7 (by decide) kw_4_86 d_Mod_match_228 h (fun v_35 h => ?_)
      refine x_aload_n C0 hl 0 d_Mod_match_231 rfl rfl ?_
      refine x_getR C0 hE hH (ci := 5) rfl i_Mod 19 (by decide) kw_4_98 d_Mod_match_232 h (fun v_36 h => ?_)
      refine x_iload C0 hl 2 d_Mod_match_235 rfl ?_
      refine x_iald C0 hE hH (t := 0) rfl d_Mod_match_237 h (fun v_37 h => ?_)
      refine lv_iconst (v := 1) C0.1 C0.2.1 d_Mod_match_238 (by decide) ?_
      refine x_zast C0 hE hH hS (t := 4) rfl d_Mod_match_239 h (fun w_38 H locs hH hS hz9 h => ?_)
      have hz := hz9.trans hz
      refine x_iinc (v := 1) (lv' := [(6, .inl (x6 + 1)), (0, .inr (.inl (some h0))), (2, .inl x2)]) C0 hl 2 d_Mod_match_240 rfl (by decide) (by decide) rfl (fun ls hl => ?_)
      refine x_goto C0 199 d_Mod_match_243 (by decide) ?_
      exact ih _ _ _ _ q ls hH hS hz (x_sub hl [1, 2, 0] rfl) h K
def f_Mod_match (w : Mp) (h0 : Nat) (x1 : Int32) (x2 : Int32) : Option (Int32 × Mp) := (xo w (some h0) 5).bind fun b_2 => (f_Mod_fillRow w b_2 (0 : Int32)).bind fun q_1 => (f_Mod_match_L7 h0 x1 x2 100000 (0 : Int32) q_1.2).bind fun q_6 => (f_Mod_isIn q_6.2.2 x1 (0 : Int32) (3 : Int32)).bind fun q_7 => xJ1 (fun (x_8 : Int32) => (gI q_6.2.2 (some h0) 5 9).bind fun v_10 => xJ1 (fun (x_11 : Int32) => (pF q_6.2.2 (some h0) 5 0 (.int x_11)).bind fun w_13 => (gI w_13 (some h0) 5 0).bind fun v_14 => if v_14 ≤ 0 then ((f_Mod_match_L114 w_13 h0 x1 x2 100000 (0 : Int32) (1 : Int32)).bind fun q_23 => if q_23.2.1 = 0 then ((gR w_13 (some h0) 5 10).bind fun v_24 => (gI w_13 (some h0) 5 9).bind fun v_25 => (sI w_13 v_24 0 v_25 x1).bind fun w_26 => (gR w_26 (some h0) 5 11).bind fun v_27 => (gI w_26 (some h0) 5 9).bind fun v_28 => (sI w_26 v_27 0 v_28 x2).bind fun w_29 => (f_Mod_match_L199 h0 x2 100000 (0 : Int32) w_29).bind fun q_39 => (gI q_39.2.2 (some h0) 5 9).bind fun v_40 => (pF q_39.2.2 (some h0) 5 9 (.int (v_40 + (1 : Int32)))).bind fun w_41 => (pF w_41 (some h0) 5 15 (.int (0 : Int32))).bind fun w_42 => (gI w_42 (some h0) 5 9).bind fun v_43 => some (v_43 - (1 : Int32), w_42)) else (some ((-1 : Int32), w_13))) else (some ((0 : Int32), w_13))) fun J_12 => if v_10 = (8 : Int32) then (J_12 (1 : Int32)) else (if q_6.2.1 = (4 : Int32) then (J_12 (1 : Int32)) else (if x_8 = 0 then (J_12 (2 : Int32)) else (J_12 (0 : Int32))))) fun J_9 => if q_7 = 0 then (J_9 (0 : Int32)) else ((f_Mod_isIn q_6.2.2 x2 (2 : Int32) (8 : Int32)).bind fun q_44 => if q_44 = 0 then (J_9 (0 : Int32)) else (if x1 = (3 : Int32) then (if x2 = (4 : Int32) then (J_9 (1 : Int32)) else (J_9 (0 : Int32))) else (J_9 (1 : Int32))))
set_option maxHeartbeats 4000000 in
set_option maxRecDepth 100000 in
theorem c_Mod_match (l : Launch) (G : Gx) (w : Mp) (sz : Nat) (h0 : Nat) (x1 : Int32) (x2 : Int32) (res : Int32 × Mp) (hf : f_Mod_match w h0 x1 x2 = some res) : Met l y_Mod_match (xws y_Mod_match b_Mod_match 7 (some .int)) { frames := 1, cells := 0, slots := 0, locals := 23 } (xPc G vwCl xaty w sz [va_rf (some h0), .int x1, .int x2]) (xQ G vwCl (some (.int res.1)) res.2 sz) (0) (0) (xA G) := by
  refine Met.ofW (cc := b_Mod_match) (maxL := 7) (ret := (some .int)) (by decide) rfl ?_
  intro p e s m args below meth c s₁ B hml hv
  obtain ⟨ha, hE, hH, hz⟩ := hv
  have C0 : CallFix p m c b_Mod_match 7 s args wA R_Mod := ⟨B.exec, B.bytes, hml, findClass_of_methodNamed B.named, fun w hw => atoms_spec (ws := xws y_Mod_match b_Mod_match 7 (some .int)) B.pre w (List.mem_cons_of_mem _ hw)⟩
  have hr := B.returns
  have hlocks := B.notSynchronized
  obtain ⟨R, hR⟩ : ∃ R, R = (headSpec (xws y_Mod_match b_Mod_match 7 (some .int)) { frames := 1, cells := 0, slots := 0, locals := 23 }).room := ⟨_, rfl⟩
  have hR1 : 1 ≤ R.frames := by rw [hR]; exact Nat.le_of_ble_eq_true rfl
  have hR2 : 23 ≤ R.locals := by rw [hR]; exact Nat.le_of_ble_eq_true rfl
  have hR3 : 0 ≤ R.cells := by rw [hR]; exact Nat.le_refl _
  have hR4 : 0 ≤ R.slots := by rw [hR]; exact Nat.le_refl _
  rw [← hR]
  obtain ⟨Q, hQ⟩ : ∃ Q, Q = MQ below (xQ G vwCl (some (.int res.1)) res.2 sz) args s (0) (0) (xA G) := ⟨_, rfl⟩
  rw [← hQ]
  have hS : xS G s s.heap [] := va_S.rf
  obtain ⟨ls, he, hl⟩ := x_entry m [.inr (.inl (some h0)), .inl x1, .inl x2] 7 (Nat.le_of_ble_eq_true rfl)
  rw [show entryFrame m args 7 = F0 m 0 ls [] by rw [ha]; exact he]
  have hl : xL ls 7 [(0, .inr (.inl (some h0))), (1, .inl x1), (2, .inl x2)] := hl
  have h := hf
  unfold f_Mod_match at h
  suffices hmain : ∀ (H : Heap) (locs : List Loc), xhd G vwCl w H → xS G s H locs → H.size = sz → (H = s.heap ∧ locs = []) → W p l e R s m args below meth c H locs 0 0 Q (F0 m 0 ls []) from hmain _ _ hH hS hz ⟨rfl, rfl⟩
  clear hH hS hz
  intro H locs hH hS hz hP0
  refine lv_iconst (v := 0) C0.1 C0.2.1 d_Mod_match_0 (by decide) ?_
  refine x_istore_n (lv' := [(3, .inl (0 : Int32)), (0, .inr (.inl (some h0))), (1, .inl x1), (2, .inl x2)]) C0 hl d_Mod_match_1 rfl (by decide) rfl (fun ls hl => ?_)
  refine x_aload_n C0 hl 1 d_Mod_match_2 rfl rfl ?_
  refine lv_iconst (v := 0) C0.1 C0.2.1 d_Mod_match_3 (by decide) ?_
  obtain ⟨b_2, e9, h⟩ := Option.bind_eq_some_iff.mp h
  obtain ⟨e8, fs9, hb9⟩ := xo_inv e9
  obtain ⟨q_1, e9, h⟩ := Option.bind_eq_some_iff.mp h
  refine x_call0 hS (va_runV (As := [.int (0 : Int32)]) (rest := []) C0 (c_Mod_fillRow l G w _ b_2 (0 : Int32) q_1 e9) (x_cwV 1 C0 kw_4_170 kw_4_173 kw_1_3 kw_4_172 kw_0_15 (by decide +kernel) (x_rm hR1 hR2 (Nat.le_of_ble_eq_true rfl) (Nat.le_of_ble_eq_true rfl))) (x_preV hE hH hS (ci := 5) rfl hb9) rfl rfl hl.1 (by rw [e8]; rfl) (lv_room (by first | exact Nat.le_of_ble_eq_true rfl | simp only [List.map_cons, List.map_nil, List.sum_cons, List.sum_nil, va_rf_cat, x_catI, x_catL, x_catA] <;> decide)) d_Mod_match_4 (x_le0 hR3 hR4)) (fun H locs hH hS hz9 => ?_)
  have hz := hz9.trans hz
  obtain ⟨q_6, e9, h⟩ := Option.bind_eq_some_iff.mp h
  refine w_Mod_match_L7 C0 hE hR1 hR2 hR3 hR4 100000 _ _ _ _ q_6 ls hH hS hz (x_sub hl [1, 2, 3, 0] rfl) e9 (fun H locs ls hH hS hz hl => ?_)
  refine x_iload_n C0 hl 1 d_Mod_match_31 rfl rfl ?_
  refine lv_iconst (v := 0) C0.1 C0.2.1 d_Mod_match_32 (by decide) ?_
  refine lv_iconst (v := 3) C0.1 C0.2.1 d_Mod_match_33 (by decide) ?_
  obtain ⟨q_7, e9, h⟩ := Option.bind_eq_some_iff.mp h
  refine x_callP (va_runS (As := [.int x1, .int (0 : Int32), .int (3 : Int32)]) (rest := []) C0 (c_Mod_isIn l G q_6.2.2 _ x1 (0 : Int32) (3 : Int32) q_7 e9) (x_cwS 3 C0 kw_4_155 kw_4_157 kw_1_3 kw_4_156 (by decide +kernel) (x_rm hR1 hR2 (Nat.le_of_ble_eq_true rfl) (Nat.le_of_ble_eq_true rfl))) (x_preS hE hH hS) rfl rfl hl.1 rfl (lv_room (by first | exact Nat.le_of_ble_eq_true rfl | simp only [List.map_cons, List.map_nil, List.sum_cons, List.sum_nil, va_rf_cat, x_catI, x_catL, x_catA] <;> decide)) d_Mod_match_34 (x_le0 hR3 hR4)) ?_
  refine xj1 h (fun J_9 eJ_9 h => ?_)
  have kJ_9 : ∀ (x_8 : Int32) (ls : Array Slot), xL ls 7 [(0, .inr (.inl (some h0))), (1, .inl x1), (2, .inl x2), (3, .inl q_6.2.1)] → J_9 x_8 = some res → W p l e R s m args below meth c H locs 0 0 Q (F0 m 65 ls [.int x_8]) := by
    intro x_8 ls hl h
    rw [eJ_9] at h
    refine x_istore (lv' := [(4, .inl x_8), (0, .inr (.inl (some h0))), (1, .inl x1), (2, .inl x2), (3, .inl q_6.2.1)]) C0 hl d_Mod_match_65 (by decide) rfl (fun ls hl => ?_)
    refine x_aload_n C0 hl 1 d_Mod_match_67 rfl rfl ?_
    refine x_aload_n C0 hl 1 d_Mod_match_68 rfl rfl ?_
    refine x_getI C0 hE hH (ci := 5) rfl i_Mod 9 (by decide) kw_4_88 d_Mod_match_69 h (fun v_10 h => ?_)
    refine lv_bipush (v := 8) C0.1 C0.2.1 d_Mod_match_72 (by decide) ?_
    refine xj1 h (fun J_12 eJ_12 h => ?_)
    have kJ_12 : ∀ (x_11 : Int32) (ls : Array Slot), xL ls 7 [(0, .inr (.inl (some h0))), (1, .inl x1), (2, .inl x2)] → J_12 x_11 = some res → W p l e R s m args below meth c H locs 0 0 Q (F0 m 96 ls [.int x_11, va_rf (some h0)]) := by
      intro x_11 ls hl h
      rw [eJ_12] at h
      refine x_put C0 hE hH hS (ci := 5) rfl i_Mod t_Mod t_Mod_ok n_Mod 0 (by decide) kw_4_79 rfl rfl rfl d_Mod_match_96 h (fun w_13 H locs hH hS hz9 h => ?_)
      have hz := hz9.trans hz
      refine x_aload_n C0 hl 0 d_Mod_match_99 rfl rfl ?_
      refine x_getI C0 hE hH (ci := 5) rfl i_Mod 0 (by decide) kw_4_79 d_Mod_match_100 h (fun v_14 h => ?_)
      refine x_if_le C0 108 d_Mod_match_103 (by decide) h (fun h => ?_) (fun h => ?_)
      · refine lv_iconst (v := 0) C0.1 C0.2.1 d_Mod_match_108 (by decide) ?_
        refine x_istore (lv' := [(5, .inl (0 : Int32)), (0, .inr (.inl (some h0))), (1, .inl x1), (2, .inl x2)]) C0 hl d_Mod_match_109 (by decide) rfl (fun ls hl => ?_)
        refine lv_iconst (v := 1) C0.1 C0.2.1 d_Mod_match_111 (by decide) ?_
        refine x_istore (lv' := [(6, .inl (1 : Int32)), (5, .inl (0 : Int32)), (0, .inr (.inl (some h0))), (1, .inl x1), (2, .inl x2)]) C0 hl d_Mod_match_112 (by decide) rfl (fun ls hl => ?_)
        obtain ⟨q_23, e9, h⟩ := Option.bind_eq_some_iff.mp h
        refine w_Mod_match_L114 C0 hE hR1 hR2 hR3 hR4 hH hS hz 100000 _ _ q_23 ls (x_sub hl [2, 3, 4, 1, 0] rfl) e9 (fun ls hl => ?_)
        refine x_iload C0 hl 3 d_Mod_match_169 rfl ?_
        refine x_if_eq C0 176 d_Mod_match_171 (by decide) h (fun h => ?_) (fun h => ?_)
        · refine x_aload_n C0 hl 0 d_Mod_match_176 rfl rfl ?_
          refine x_getR C0 hE hH (ci := 5) rfl i_Mod 10 (by decide) kw_4_89 d_Mod_match_177 h (fun v_24 h => ?_)
          refine x_aload_n C0 hl 0 d_Mod_match_180 rfl rfl ?_
          refine x_getI C0 hE hH (ci := 5) rfl i_Mod 9 (by decide) kw_4_88 d_Mod_match_181 h (fun v_25 h => ?_)
          refine x_iload_n C0 hl 1 d_Mod_match_184 rfl rfl ?_
          refine x_iast C0 hE hH hS (t := 0) rfl d_Mod_match_185 h (fun w_26 H locs hH hS hz9 h => ?_)
          have hz := hz9.trans hz
          refine x_aload_n C0 hl 0 d_Mod_match_186 rfl rfl ?_
          refine x_getR C0 hE hH (ci := 5) rfl i_Mod 11 (by decide) kw_4_90 d_Mod_match_187 h (fun v_27 h => ?_)
          refine x_aload_n C0 hl 0 d_Mod_match_190 rfl rfl ?_
          refine x_getI C0 hE hH (ci := 5) rfl i_Mod 9 (by decide) kw_4_88 d_Mod_match_191 h (fun v_28 h => ?_)
          refine x_iload_n C0 hl 2 d_Mod_match_194 rfl rfl ?_
          refine x_iast C0 hE hH hS (t := 0) rfl d_Mod_match_195 h (fun w_29 H locs hH hS hz9 h => ?_)
          have hz := hz9.trans hz
          refine lv_iconst (v := 0) C0.1 C0.2.1 d_Mod_match_196 (by decide) ?_
          refine x_istore (lv' := [(6, .inl (0 : Int32)), (0, .inr (.inl (some h0))), (1, .inl x1), (2, .inl x2), (5, .inl q_23.2.1)]) C0 hl d_Mod_match_197 (by decide) rfl (fun ls hl => ?_)
          obtain ⟨q_39, e9, h⟩ := Option.bind_eq_some_iff.mp h
          refine w_Mod_match_L199 C0 hE hR1 hR2 hR3 hR4 100000 _ _ _ _ q_39 ls hH hS hz (x_sub hl [1, 3, 0] rfl) e9 (fun H locs ls hH hS hz hl => ?_)
          refine x_aload_n C0 hl 0 d_Mod_match_246 rfl rfl ?_
          refine lv_dup C0.1 C0.2.1 d_Mod_match_247 (va_rf_cat _) ?_
          refine x_getI C0 hE hH (ci := 5) rfl i_Mod 9 (by decide) kw_4_88 d_Mod_match_248 h (fun v_40 h => ?_)
          refine lv_iconst (v := 1) C0.1 C0.2.1 d_Mod_match_251 (by decide) ?_
          refine lv_iadd C0.1 C0.2.1 d_Mod_match_252 ?_
          refine x_put C0 hE hH hS (ci := 5) rfl i_Mod t_Mod t_Mod_ok n_Mod 9 (by decide) kw_4_88 rfl rfl rfl d_Mod_match_253 h (fun w_41 H locs hH hS hz9 h => ?_)
          have hz := hz9.trans hz
          refine x_aload_n C0 hl 0 d_Mod_match_256 rfl rfl ?_
          refine lv_iconst (v := 0) C0.1 C0.2.1 d_Mod_match_257 (by decide) ?_
          refine x_put C0 hE hH hS (ci := 5) rfl i_Mod t_Mod t_Mod_ok n_Mod 15 (by decide) kw_4_94 rfl rfl rfl d_Mod_match_258 h (fun w_42 H locs hH hS hz9 h => ?_)
          have hz := hz9.trans hz
          refine x_aload_n C0 hl 0 d_Mod_match_261 rfl rfl ?_
          refine x_getI C0 hE hH (ci := 5) rfl i_Mod 9 (by decide) kw_4_88 d_Mod_match_262 h (fun v_43 h => ?_)
          refine lv_iconst (v := 1) C0.1 C0.2.1 d_Mod_match_265 (by decide) ?_
          refine lv_isub C0.1 C0.2.1 d_Mod_match_266 ?_
          cases h
          rw [hQ]
          exact x_iret C0 hr hlocks hH hS hz d_Mod_match_267
        · refine lv_iconst (v := -1) C0.1 C0.2.1 d_Mod_match_174 (by decide) ?_
          cases h
          rw [hQ]
          exact x_iret C0 hr hlocks hH hS hz d_Mod_match_175
      · refine lv_iconst (v := 0) C0.1 C0.2.1 d_Mod_match_106 (by decide) ?_
        cases h
        rw [hQ]
        exact x_iret C0 hr hlocks hH hS hz d_Mod_match_107
    refine x_icmp_eq C0 82 d_Mod_match_74 (by decide) h (fun h => ?_) (fun h => ?_)
    · refine lv_iconst (v := 1) C0.1 C0.2.1 d_Mod_match_82 (by decide) ?_
      refine x_goto C0 96 d_Mod_match_83 (by decide) ?_
      exact kJ_12 _ ls (x_sub hl [1, 2, 3] rfl) h
    · refine x_iload_n C0 hl 4 d_Mod_match_77 rfl rfl ?_
      refine lv_iconst (v := 4) C0.1 C0.2.1 d_Mod_match_78 (by decide) ?_
      refine x_icmp_ne C0 86 d_Mod_match_79 (by decide) h (fun h => ?_) (fun h => ?_)
      · refine x_iload C0 hl 0 d_Mod_match_86 rfl ?_
        refine x_if_eq C0 95 d_Mod_match_88 (by decide) h (fun h => ?_) (fun h => ?_)
        · refine lv_iconst (v := 2) C0.1 C0.2.1 d_Mod_match_95 (by decide) ?_
          exact kJ_12 _ ls (x_sub hl [1, 2, 3] rfl) h
        · refine lv_iconst (v := 0) C0.1 C0.2.1 d_Mod_match_91 (by decide) ?_
          refine x_goto C0 96 d_Mod_match_92 (by decide) ?_
          exact kJ_12 _ ls (x_sub hl [1, 2, 3] rfl) h
      · refine lv_iconst (v := 1) C0.1 C0.2.1 d_Mod_match_82 (by decide) ?_
        refine x_goto C0 96 d_Mod_match_83 (by decide) ?_
        exact kJ_12 _ ls (x_sub hl [1, 2, 3] rfl) h
  refine x_if_eq C0 64 d_Mod_match_37 (by decide) h (fun h => ?_) (fun h => ?_)
  · refine lv_iconst (v := 0) C0.1 C0.2.1 d_Mod_match_64 (by decide) ?_
    exact kJ_9 _ ls (x_sub hl [0, 1, 2, 3] rfl) h
  · refine x_iload_n C0 hl 2 d_Mod_match_40 rfl rfl ?_
    refine lv_iconst (v := 2) C0.1 C0.2.1 d_Mod_match_41 (by decide) ?_
    refine lv_bipush (v := 8) C0.1 C0.2.1 d_Mod_match_42 (by decide) ?_
    obtain ⟨q_44, e9, h⟩ := Option.bind_eq_some_iff.mp h
    refine x_callP (va_runS (As := [.int x2, .int (2 : Int32), .int (8 : Int32)]) (rest := []) C0 (c_Mod_isIn l G q_6.2.2 _ x2 (2 : Int32) (8 : Int32) q_44 e9) (x_cwS 3 C0 kw_4_155 kw_4_157 kw_1_3 kw_4_156 (by decide +kernel) (x_rm hR1 hR2 (Nat.le_of_ble_eq_true rfl) (Nat.le_of_ble_eq_true rfl))) (x_preS hE hH hS) rfl rfl hl.1 rfl (lv_room (by first | exact Nat.le_of_ble_eq_true rfl | simp only [List.map_cons, List.map_nil, List.sum_cons, List.sum_nil, va_rf_cat, x_catI, x_catL, x_catA] <;> decide)) d_Mod_match_44 (x_le0 hR3 hR4)) ?_
    refine x_if_eq C0 64 d_Mod_match_47 (by decide) h (fun h => ?_) (fun h => ?_)
    · refine lv_iconst (v := 0) C0.1 C0.2.1 d_Mod_match_64 (by decide) ?_
      exact kJ_9 _ ls (x_sub hl [0, 1, 2, 3] rfl) h
    · refine x_iload_n C0 hl 1 d_Mod_match_50 rfl rfl ?_
      refine lv_iconst (v := 3) C0.1 C0.2.1 d_Mod_match_51 (by decide) ?_
      refine x_icmp_ne C0 60 d_Mod_match_52 (by decide) h (fun h => ?_) (fun h => ?_)
      · refine lv_iconst (v := 1) C0.1 C0.2.1 d_Mod_match_60 (by decide) ?_
        refine x_goto C0 65 d_Mod_match_61 (by decide) ?_
        exact kJ_9 _ ls (x_sub hl [0, 1, 2, 3] rfl) h
      · refine x_iload_n C0 hl 2 d_Mod_match_55 rfl rfl ?_
        refine lv_iconst (v := 4) C0.1 C0.2.1 d_Mod_match_56 (by decide) ?_
        refine x_icmp_ne C0 64 d_Mod_match_57 (by decide) h (fun h => ?_) (fun h => ?_)
        · refine lv_iconst (v := 0) C0.1 C0.2.1 d_Mod_match_64 (by decide) ?_
          exact kJ_9 _ ls (x_sub hl [0, 1, 2, 3] rfl) h
        · refine lv_iconst (v := 1) C0.1 C0.2.1 d_Mod_match_60 (by decide) ?_
          refine x_goto C0 65 d_Mod_match_61 (by decide) ?_
          exact kJ_9 _ ls (x_sub hl [0, 1, 2, 3] rfl) h
theorem d_Mod_noFace_0 : decode b_Mod_noFace 0 = .ok (.aload_n 0, 1) := by decide +kernel
theorem d_Mod_noFace_1 : decode b_Mod_noFace 1 = .ok (.iload_n 1, 1) := by decide +kernel
theorem d_Mod_noFace_2 : decode b_Mod_noFace 2 = .ok (.ifCond .lt 11, 3) := by decide +kernel
theorem d_Mod_noFace_5 : decode b_Mod_noFace 5 = .ok (.iload_n 1, 1) := by decide +kernel
theorem d_Mod_noFace_6 : decode b_Mod_noFace 6 = .ok (.aload_n 0, 1) := by decide +kernel
theorem d_Mod_noFace_7 : decode b_Mod_noFace 7 = .ok (.getfield 81, 3) := by decide +kernel
theorem d_Mod_noFace_10 : decode b_Mod_noFace 10 = .ok (.if_icmp .lt 7, 3) := by decide +kernel
theorem d_Mod_noFace_13 : decode b_Mod_noFace 13 = .ok (.iconst 1, 1) := by decide +kernel
theorem d_Mod_noFace_14 : decode b_Mod_noFace 14 = .ok (.goto 4, 3) := by decide +kernel
theorem d_Mod_noFace_17 : decode b_Mod_noFace 17 = .ok (.iconst 0, 1) := by decide +kernel
theorem d_Mod_noFace_18 : decode b_Mod_noFace 18 = .ok (.putfield 59, 3) := by decide +kernel
theorem d_Mod_noFace_21 : decode b_Mod_noFace 21 = .ok (.aload_n 0, 1) := by decide +kernel
theorem d_Mod_noFace_22 : decode b_Mod_noFace 22 = .ok (.getfield 59, 3) := by decide +kernel
theorem d_Mod_noFace_25 : decode b_Mod_noFace 25 = .ok (.ifCond .le 7, 3) := by decide +kernel
theorem d_Mod_noFace_28 : decode b_Mod_noFace 28 = .ok (.iconst 1, 1) := by decide +kernel
theorem d_Mod_noFace_29 : decode b_Mod_noFace 29 = .ok (.goto 4, 3) := by decide +kernel
theorem d_Mod_noFace_32 : decode b_Mod_noFace 32 = .ok (.iconst 0, 1) := by decide +kernel
theorem d_Mod_noFace_33 : decode b_Mod_noFace 33 = .ok (.ireturn, 1) := by decide +kernel
def f_Mod_noFace (w : Mp) (h0 : Nat) (x1 : Int32) : Option (Int32 × Mp) := xJ1 (fun (x_1 : Int32) => (pF w (some h0) 5 0 (.int x_1)).bind fun w_3 => (gI w_3 (some h0) 5 0).bind fun v_4 => if v_4 ≤ 0 then (some ((0 : Int32), w_3)) else (some ((1 : Int32), w_3))) fun J_2 => if x1 < 0 then (J_2 (1 : Int32)) else ((gI w (some h0) 5 9).bind fun v_5 => if x1 < v_5 then (J_2 (0 : Int32)) else (J_2 (1 : Int32)))
set_option maxHeartbeats 4000000 in
set_option maxRecDepth 100000 in
theorem c_Mod_noFace (l : Launch) (G : Gx) (w : Mp) (sz : Nat) (h0 : Nat) (x1 : Int32) (res : Int32 × Mp) (hf : f_Mod_noFace w h0 x1 = some res) : Met l y_Mod_noFace (xws y_Mod_noFace b_Mod_noFace 2 (some .boolean)) { frames := 0, cells := 0, slots := 0, locals := 0 } (xPc G vwCl xaty w sz [va_rf (some h0), .int x1]) (xQ G vwCl (some (.int res.1)) res.2 sz) (0) (0) (xA G) := by
  refine Met.ofW (cc := b_Mod_noFace) (maxL := 2) (ret := (some .boolean)) (by decide) rfl ?_
  intro p e s m args below meth c s₁ B hml hv
  obtain ⟨ha, hE, hH, hz⟩ := hv
  have C0 : CallFix p m c b_Mod_noFace 2 s args wA R_Mod := ⟨B.exec, B.bytes, hml, findClass_of_methodNamed B.named, fun w hw => atoms_spec (ws := xws y_Mod_noFace b_Mod_noFace 2 (some .boolean)) B.pre w (List.mem_cons_of_mem _ hw)⟩
  have hr := B.returns
  have hlocks := B.notSynchronized
  obtain ⟨R, hR⟩ : ∃ R, R = (headSpec (xws y_Mod_noFace b_Mod_noFace 2 (some .boolean)) { frames := 0, cells := 0, slots := 0, locals := 0 }).room := ⟨_, rfl⟩
  have hR1 : 0 ≤ R.frames := by rw [hR]; exact Nat.le_of_ble_eq_true rfl
  have hR2 : 0 ≤ R.locals := by rw [hR]; exact Nat.le_of_ble_eq_true rfl
  have hR3 : 0 ≤ R.cells := by rw [hR]; exact Nat.le_refl _
  have hR4 : 0 ≤ R.slots := by rw [hR]; exact Nat.le_refl _
  rw [← hR]
  obtain ⟨Q, hQ⟩ : ∃ Q, Q = MQ below (xQ G vwCl (some (.int res.1)) res.2 sz) args s (0) (0) (xA G) := ⟨_, rfl⟩
  rw [← hQ]
  have hS : xS G s s.heap [] := va_S.rf
  obtain ⟨ls, he, hl⟩ := x_entry m [.inr (.inl (some h0)), .inl x1] 2 (Nat.le_of_ble_eq_true rfl)
  rw [show entryFrame m args 2 = F0 m 0 ls [] by rw [ha]; exact he]
  have hl : xL ls 2 [(0, .inr (.inl (some h0))), (1, .inl x1)] := hl
  have h := hf
  unfold f_Mod_noFace at h
  suffices hmain : ∀ (H : Heap) (locs : List Loc), xhd G vwCl w H → xS G s H locs → H.size = sz → (H = s.heap ∧ locs = []) → W p l e R s m args below meth c H locs 0 0 Q (F0 m 0 ls []) from hmain _ _ hH hS hz ⟨rfl, rfl⟩
  clear hH hS hz
  intro H locs hH hS hz hP0
  refine x_aload_n C0 hl 0 d_Mod_noFace_0 rfl rfl ?_
  refine x_iload_n C0 hl 1 d_Mod_noFace_1 rfl rfl ?_
  refine xj1 h (fun J_2 eJ_2 h => ?_)
  have kJ_2 : ∀ (x_1 : Int32) (ls : Array Slot), xL ls 2 [(0, .inr (.inl (some h0)))] → J_2 x_1 = some res → W p l e R s m args below meth c H locs 0 0 Q (F0 m 18 ls [.int x_1, va_rf (some h0)]) := by
    intro x_1 ls hl h
    rw [eJ_2] at h
    refine x_put C0 hE hH hS (ci := 5) rfl i_Mod t_Mod t_Mod_ok n_Mod 0 (by decide) kw_4_79 rfl rfl rfl d_Mod_noFace_18 h (fun w_3 H locs hH hS hz9 h => ?_)
    have hz := hz9.trans hz
    refine x_aload_n C0 hl 0 d_Mod_noFace_21 rfl rfl ?_
    refine x_getI C0 hE hH (ci := 5) rfl i_Mod 0 (by decide) kw_4_79 d_Mod_noFace_22 h (fun v_4 h => ?_)
    refine x_if_le C0 32 d_Mod_noFace_25 (by decide) h (fun h => ?_) (fun h => ?_)
    · refine lv_iconst (v := 0) C0.1 C0.2.1 d_Mod_noFace_32 (by decide) ?_
      cases h
      rw [hQ]
      exact x_zret (v := (0 : Int32)) C0 hr hlocks hH hS hz rfl d_Mod_noFace_33
    · refine lv_iconst (v := 1) C0.1 C0.2.1 d_Mod_noFace_28 (by decide) ?_
      refine x_goto C0 33 d_Mod_noFace_29 (by decide) ?_
      cases h
      rw [hQ]
      exact x_zret (v := (1 : Int32)) C0 hr hlocks hH hS hz rfl d_Mod_noFace_33
  refine x_if_lt C0 13 d_Mod_noFace_2 (by decide) h (fun h => ?_) (fun h => ?_)
  · refine lv_iconst (v := 1) C0.1 C0.2.1 d_Mod_noFace_13 (by decide) ?_
    refine x_goto C0 18 d_Mod_noFace_14 (by decide) ?_
    exact kJ_2 _ ls (x_sub hl [0] rfl) h
  · refine x_iload_n C0 hl 1 d_Mod_noFace_5 rfl rfl ?_
    refine x_aload_n C0 hl 0 d_Mod_noFace_6 rfl rfl ?_
    refine x_getI C0 hE hH (ci := 5) rfl i_Mod 9 (by decide) kw_4_88 d_Mod_noFace_7 h (fun v_5 h => ?_)
    refine x_icmp_lt C0 17 d_Mod_noFace_10 (by decide) h (fun h => ?_) (fun h => ?_)
    · refine lv_iconst (v := 0) C0.1 C0.2.1 d_Mod_noFace_17 (by decide) ?_
      exact kJ_2 _ ls (x_sub hl [0] rfl) h
    · refine lv_iconst (v := 1) C0.1 C0.2.1 d_Mod_noFace_13 (by decide) ?_
      refine x_goto C0 18 d_Mod_noFace_14 (by decide) ?_
      exact kJ_2 _ ls (x_sub hl [0] rfl) h
theorem d_Mod_apart_0 : decode b_Mod_apart 0 = .ok (.aload_n 0, 1) := by decide +kernel
theorem d_Mod_apart_1 : decode b_Mod_apart 1 = .ok (.iload_n 1, 1) := by decide +kernel
theorem d_Mod_apart_2 : decode b_Mod_apart 2 = .ok (.invokevirtual 84, 3) := by decide +kernel
theorem d_Mod_apart_5 : decode b_Mod_apart 5 = .ok (.ifCond .eq 5, 3) := by decide +kernel
theorem d_Mod_apart_8 : decode b_Mod_apart 8 = .ok (.iconst 0, 1) := by decide +kernel
theorem d_Mod_apart_9 : decode b_Mod_apart 9 = .ok (.ireturn, 1) := by decide +kernel
theorem d_Mod_apart_10 : decode b_Mod_apart 10 = .ok (.iconst 0, 1) := by decide +kernel
theorem d_Mod_apart_11 : decode b_Mod_apart 11 = .ok (.istore_n 2, 1) := by decide +kernel
theorem d_Mod_apart_12 : decode b_Mod_apart 12 = .ok (.iload_n 2, 1) := by decide +kernel
theorem d_Mod_apart_13 : decode b_Mod_apart 13 = .ok (.aload_n 0, 1) := by decide +kernel
theorem d_Mod_apart_14 : decode b_Mod_apart 14 = .ok (.getfield 35, 3) := by decide +kernel
theorem d_Mod_apart_17 : decode b_Mod_apart 17 = .ok (.iload_n 1, 1) := by decide +kernel
theorem d_Mod_apart_18 : decode b_Mod_apart 18 = .ok (.iaload, 1) := by decide +kernel
theorem d_Mod_apart_19 : decode b_Mod_apart 19 = .ok (.if_icmp .ge 26, 3) := by decide +kernel
theorem d_Mod_apart_22 : decode b_Mod_apart 22 = .ok (.aload_n 0, 1) := by decide +kernel
theorem d_Mod_apart_23 : decode b_Mod_apart 23 = .ok (.getfield 25, 3) := by decide +kernel
theorem d_Mod_apart_26 : decode b_Mod_apart 26 = .ok (.aload_n 0, 1) := by decide +kernel
theorem d_Mod_apart_27 : decode b_Mod_apart 27 = .ok (.getfield 38, 3) := by decide +kernel
theorem d_Mod_apart_30 : decode b_Mod_apart 30 = .ok (.bipush 8, 2) := by decide +kernel
theorem d_Mod_apart_32 : decode b_Mod_apart 32 = .ok (.iload_n 1, 1) := by decide +kernel
theorem d_Mod_apart_33 : decode b_Mod_apart 33 = .ok (.imul, 1) := by decide +kernel
theorem d_Mod_apart_34 : decode b_Mod_apart 34 = .ok (.iload_n 2, 1) := by decide +kernel
theorem d_Mod_apart_35 : decode b_Mod_apart 35 = .ok (.iadd, 1) := by decide +kernel
theorem d_Mod_apart_36 : decode b_Mod_apart 36 = .ok (.iaload, 1) := by decide +kernel
theorem d_Mod_apart_37 : decode b_Mod_apart 37 = .ok (.iconst 0, 1) := by decide +kernel
theorem d_Mod_apart_38 : decode b_Mod_apart 38 = .ok (.bastore, 1) := by decide +kernel
theorem d_Mod_apart_39 : decode b_Mod_apart 39 = .ok (.iinc 2 1, 3) := by decide +kernel
theorem d_Mod_apart_42 : decode b_Mod_apart 42 = .ok (.goto (-30), 3) := by decide +kernel
theorem d_Mod_apart_45 : decode b_Mod_apart 45 = .ok (.iload_n 1, 1) := by decide +kernel
theorem d_Mod_apart_46 : decode b_Mod_apart 46 = .ok (.iconst 1, 1) := by decide +kernel
theorem d_Mod_apart_47 : decode b_Mod_apart 47 = .ok (.iadd, 1) := by decide +kernel
theorem d_Mod_apart_48 : decode b_Mod_apart 48 = .ok (.istore_n 2, 1) := by decide +kernel
theorem d_Mod_apart_49 : decode b_Mod_apart 49 = .ok (.iload_n 2, 1) := by decide +kernel
theorem d_Mod_apart_50 : decode b_Mod_apart 50 = .ok (.aload_n 0, 1) := by decide +kernel
theorem d_Mod_apart_51 : decode b_Mod_apart 51 = .ok (.getfield 81, 3) := by decide +kernel
theorem d_Mod_apart_54 : decode b_Mod_apart 54 = .ok (.if_icmp .ge 76, 3) := by decide +kernel
theorem d_Mod_apart_57 : decode b_Mod_apart 57 = .ok (.aload_n 0, 1) := by decide +kernel
theorem d_Mod_apart_58 : decode b_Mod_apart 58 = .ok (.getfield 32, 3) := by decide +kernel
theorem d_Mod_apart_61 : decode b_Mod_apart 61 = .ok (.iload_n 2, 1) := by decide +kernel
theorem d_Mod_apart_62 : decode b_Mod_apart 62 = .ok (.iconst 1, 1) := by decide +kernel
theorem d_Mod_apart_63 : decode b_Mod_apart 63 = .ok (.isub, 1) := by decide +kernel
theorem d_Mod_apart_64 : decode b_Mod_apart 64 = .ok (.aload_n 0, 1) := by decide +kernel
theorem d_Mod_apart_65 : decode b_Mod_apart 65 = .ok (.getfield 32, 3) := by decide +kernel
theorem d_Mod_apart_68 : decode b_Mod_apart 68 = .ok (.iload_n 2, 1) := by decide +kernel
theorem d_Mod_apart_69 : decode b_Mod_apart 69 = .ok (.iaload, 1) := by decide +kernel
theorem d_Mod_apart_70 : decode b_Mod_apart 70 = .ok (.iastore, 1) := by decide +kernel
theorem d_Mod_apart_71 : decode b_Mod_apart 71 = .ok (.aload_n 0, 1) := by decide +kernel
theorem d_Mod_apart_72 : decode b_Mod_apart 72 = .ok (.getfield 35, 3) := by decide +kernel
theorem d_Mod_apart_75 : decode b_Mod_apart 75 = .ok (.iload_n 2, 1) := by decide +kernel
theorem d_Mod_apart_76 : decode b_Mod_apart 76 = .ok (.iconst 1, 1) := by decide +kernel
theorem d_Mod_apart_77 : decode b_Mod_apart 77 = .ok (.isub, 1) := by decide +kernel
theorem d_Mod_apart_78 : decode b_Mod_apart 78 = .ok (.aload_n 0, 1) := by decide +kernel
theorem d_Mod_apart_79 : decode b_Mod_apart 79 = .ok (.getfield 35, 3) := by decide +kernel
theorem d_Mod_apart_82 : decode b_Mod_apart 82 = .ok (.iload_n 2, 1) := by decide +kernel
theorem d_Mod_apart_83 : decode b_Mod_apart 83 = .ok (.iaload, 1) := by decide +kernel
theorem d_Mod_apart_84 : decode b_Mod_apart 84 = .ok (.iastore, 1) := by decide +kernel
theorem d_Mod_apart_85 : decode b_Mod_apart 85 = .ok (.iconst 0, 1) := by decide +kernel
theorem d_Mod_apart_86 : decode b_Mod_apart 86 = .ok (.istore_n 3, 1) := by decide +kernel
theorem d_Mod_apart_87 : decode b_Mod_apart 87 = .ok (.iload_n 3, 1) := by decide +kernel
theorem d_Mod_apart_88 : decode b_Mod_apart 88 = .ok (.bipush 8, 2) := by decide +kernel
theorem d_Mod_apart_90 : decode b_Mod_apart 90 = .ok (.if_icmp .ge 34, 3) := by decide +kernel
theorem d_Mod_apart_93 : decode b_Mod_apart 93 = .ok (.aload_n 0, 1) := by decide +kernel
theorem d_Mod_apart_94 : decode b_Mod_apart 94 = .ok (.getfield 38, 3) := by decide +kernel
theorem d_Mod_apart_97 : decode b_Mod_apart 97 = .ok (.bipush 8, 2) := by decide +kernel
theorem d_Mod_apart_99 : decode b_Mod_apart 99 = .ok (.iload_n 2, 1) := by decide +kernel
theorem d_Mod_apart_100 : decode b_Mod_apart 100 = .ok (.imul, 1) := by decide +kernel
theorem d_Mod_apart_101 : decode b_Mod_apart 101 = .ok (.bipush 8, 2) := by decide +kernel
theorem d_Mod_apart_103 : decode b_Mod_apart 103 = .ok (.isub, 1) := by decide +kernel
theorem d_Mod_apart_104 : decode b_Mod_apart 104 = .ok (.iload_n 3, 1) := by decide +kernel
theorem d_Mod_apart_105 : decode b_Mod_apart 105 = .ok (.iadd, 1) := by decide +kernel
theorem d_Mod_apart_106 : decode b_Mod_apart 106 = .ok (.aload_n 0, 1) := by decide +kernel
theorem d_Mod_apart_107 : decode b_Mod_apart 107 = .ok (.getfield 38, 3) := by decide +kernel
theorem d_Mod_apart_110 : decode b_Mod_apart 110 = .ok (.bipush 8, 2) := by decide +kernel
theorem d_Mod_apart_112 : decode b_Mod_apart 112 = .ok (.iload_n 2, 1) := by decide +kernel
theorem d_Mod_apart_113 : decode b_Mod_apart 113 = .ok (.imul, 1) := by decide +kernel
theorem d_Mod_apart_114 : decode b_Mod_apart 114 = .ok (.iload_n 3, 1) := by decide +kernel
theorem d_Mod_apart_115 : decode b_Mod_apart 115 = .ok (.iadd, 1) := by decide +kernel
theorem d_Mod_apart_116 : decode b_Mod_apart 116 = .ok (.iaload, 1) := by decide +kernel
theorem d_Mod_apart_117 : decode b_Mod_apart 117 = .ok (.iastore, 1) := by decide +kernel
theorem d_Mod_apart_118 : decode b_Mod_apart 118 = .ok (.iinc 3 1, 3) := by decide +kernel
theorem d_Mod_apart_121 : decode b_Mod_apart 121 = .ok (.goto (-34), 3) := by decide +kernel
theorem d_Mod_apart_124 : decode b_Mod_apart 124 = .ok (.iinc 2 1, 3) := by decide +kernel
theorem d_Mod_apart_127 : decode b_Mod_apart 127 = .ok (.goto (-78), 3) := by decide +kernel
theorem d_Mod_apart_130 : decode b_Mod_apart 130 = .ok (.aload_n 0, 1) := by decide +kernel
theorem d_Mod_apart_131 : decode b_Mod_apart 131 = .ok (.dup, 1) := by decide +kernel
theorem d_Mod_apart_132 : decode b_Mod_apart 132 = .ok (.getfield 81, 3) := by decide +kernel
theorem d_Mod_apart_135 : decode b_Mod_apart 135 = .ok (.iconst 1, 1) := by decide +kernel
theorem d_Mod_apart_136 : decode b_Mod_apart 136 = .ok (.isub, 1) := by decide +kernel
theorem d_Mod_apart_137 : decode b_Mod_apart 137 = .ok (.putfield 81, 3) := by decide +kernel
theorem d_Mod_apart_140 : decode b_Mod_apart 140 = .ok (.aload_n 0, 1) := by decide +kernel
theorem d_Mod_apart_141 : decode b_Mod_apart 141 = .ok (.iconst 0, 1) := by decide +kernel
theorem d_Mod_apart_142 : decode b_Mod_apart 142 = .ok (.putfield 70, 3) := by decide +kernel
theorem d_Mod_apart_145 : decode b_Mod_apart 145 = .ok (.aload_n 0, 1) := by decide +kernel
theorem d_Mod_apart_146 : decode b_Mod_apart 146 = .ok (.getfield 81, 3) := by decide +kernel
theorem d_Mod_apart_149 : decode b_Mod_apart 149 = .ok (.ireturn, 1) := by decide +kernel
def f_Mod_apart_L12 (h0 : Nat) (x1 : Int32) : Nat → Int32 → Mp → Option (Nat × Int32 × Mp)
  | 0, _, _ => none
  | n + 1, x2, w => (gR w (some h0) 5 11).bind fun v_3 => (aI w v_3 0 x1).bind fun v_4 => if v_4 ≤ x2 then (some (0, x2, w)) else ((gR w (some h0) 5 7).bind fun v_5 => (gR w (some h0) 5 12).bind fun v_6 => (aI w v_6 0 (((8 : Int32) * x1) + x2)).bind fun v_7 => (sI w v_5 4 v_7 (vp_nar .boolean (0 : Int32))).bind fun w_8 => f_Mod_apart_L12 h0 x1 n (x2 + 1) w_8)
set_option maxHeartbeats 4000000 in
set_option maxRecDepth 100000 in
theorem w_Mod_apart_L12 {p : Program} {l : Launch} {e : Env} {R : Room} {s : State} {m : MethodId} {args : Array Value} {below : List Frame} {meth : Method} {c : Code} {Q : State → Prop} {cells slots sz : Nat} {G : Gx} {h0 : Nat} {x1 : Int32} (C0 : CallFix p m c b_Mod_apart 4 s args wA R_Mod) (hE : xE G vwCl xaty s) (hR1 : 1 ≤ R.frames) (hR2 : 21 ≤ R.locals) (hR3 : cells ≤ R.cells) (hR4 : slots ≤ R.slots) : ∀ (n : Nat) (x2 : Int32) (w : Mp) (H : Heap) (locs : List Loc) (q : Nat × Int32 × Mp) (ls : Array Slot), xhd G vwCl w H → xS G s H locs → H.size = sz → xL ls 4 [(0, .inr (.inl (some h0))), (1, .inl x1), (2, .inl x2)] → f_Mod_apart_L12 h0 x1 n x2 w = some q → (∀ (H : Heap) (locs : List Loc) (ls : Array Slot), xhd G vwCl q.2.2 H → xS G s H locs → H.size = sz → xL ls 4 [(0, .inr (.inl (some h0))), (1, .inl x1), (2, .inl q.2.1)] → W p l e R s m args below meth c H locs cells slots Q (F0 m 45 ls [])) → W p l e R s m args below meth c H locs cells slots Q (F0 m 12 ls []) := by
  intro n
  induction n with
  | zero => intro _ _ _ _ q ls hH hS hz hl h; cases h
  | succ n ih =>
    intro x2 w H locs q ls hH hS hz hl h K
    rw [f_Mod_apart_L12] at h
    refine x_iload_n C0 hl 2 d_Mod_apart_12 rfl rfl ?_
    refine x_aload_n C0 hl 0 d_Mod_apart_13 rfl rfl ?_
    refine x_getR C0 hE hH (ci := 5) rfl i_Mod 11 (by decide) kw_4_90 d_Mod_apart_14 h (fun v_3 h => ?_)
    refine x_iload_n C0 hl 1 d_Mod_apart_17 rfl rfl ?_
    refine x_iald C0 hE hH (t := 0) rfl d_Mod_apart_18 h (fun v_4 h => ?_)
    refine x_icmp_ge C0 45 d_Mod_apart_19 (by decide) h (fun h => ?_) (fun h => ?_)
    · cases h
      exact K _ _ ls hH hS hz (x_sub hl [0, 1, 2] rfl)
    · refine x_aload_n C0 hl 0 d_Mod_apart_22 rfl rfl ?_
      refine x_getR C0 hE hH (ci := 5) rfl i_Mod 7 (by decide) kw_4_86 d_Mod_apart_23 h (fun v_5 h => ?_)
      refine x_aload_n C0 hl 0 d_Mod_apart_26 rfl rfl ?_
      refine x_getR C0 hE hH (ci := 5) rfl i_Mod 12 (by decide) kw_4_91 d_Mod_apart_27 h (fun v_6 h => ?_)
      refine lv_bipush (v := 8) C0.1 C0.2.1 d_Mod_apart_30 (by decide) ?_
      refine x_iload_n C0 hl 1 d_Mod_apart_32 rfl rfl ?_
      refine lv_imul C0.1 C0.2.1 d_Mod_apart_33 ?_
      refine x_iload_n C0 hl 2 d_Mod_apart_34 rfl rfl ?_
      refine lv_iadd C0.1 C0.2.1 d_Mod_apart_35 ?_
      refine x_iald C0 hE hH (t := 0) rfl d_Mod_apart_36 h (fun v_7 h => ?_)
      refine lv_iconst (v := 0) C0.1 C0.2.1 d_Mod_apart_37 (by decide) ?_
      refine x_zast C0 hE hH hS (t := 4) rfl d_Mod_apart_38 h (fun w_8 H locs hH hS hz9 h => ?_)
      have hz := hz9.trans hz
      refine x_iinc (v := 1) (lv' := [(2, .inl (x2 + 1)), (0, .inr (.inl (some h0))), (1, .inl x1)]) C0 hl 2 d_Mod_apart_39 rfl (by decide) (by decide) rfl (fun ls hl => ?_)
      refine x_goto C0 12 d_Mod_apart_42 (by decide) ?_
      exact ih _ _ _ _ q ls hH hS hz (x_sub hl [1, 2, 0] rfl) h K
def f_Mod_apart_L87 (h0 : Nat) (x2 : Int32) : Nat → Int32 → Mp → Option (Nat × Int32 × Mp)
  | 0, _, _ => none
  | n + 1, x3, w => if (8 : Int32) ≤ x3 then (some (0, x3, w)) else ((gR w (some h0) 5 12).bind fun v_19 => (gR w (some h0) 5 12).bind fun v_20 => (aI w v_20 0 (((8 : Int32) * x2) + x3)).bind fun v_21 => (sI w v_19 0 ((((8 : Int32) * x2) - (8 : Int32)) + x3) v_21).bind fun w_22 => f_Mod_apart_L87 h0 x2 n (x3 + 1) w_22)
set_option maxHeartbeats 4000000 in
set_option maxRecDepth 100000 in
theorem w_Mod_apart_L87 {p : Program} {l : Launch} {e : Env} {R : Room} {s : State} {m : MethodId} {args : Array Value} {below : List Frame} {meth : Method} {c : Code} {Q : State → Prop} {cells slots sz : Nat} {G : Gx} {h0 : Nat} {x2 : Int32} (C0 : CallFix p m c b_Mod_apart 4 s args wA R_Mod) (hE : xE G vwCl xaty s) (hR1 : 1 ≤ R.frames) (hR2 : 21 ≤ R.locals) (hR3 : cells ≤ R.cells) (hR4 : slots ≤ R.slots) : ∀ (n : Nat) (x3 : Int32) (w : Mp) (H : Heap) (locs : List Loc) (q : Nat × Int32 × Mp) (ls : Array Slot), xhd G vwCl w H → xS G s H locs → H.size = sz → xL ls 4 [(0, .inr (.inl (some h0))), (2, .inl x2), (3, .inl x3)] → f_Mod_apart_L87 h0 x2 n x3 w = some q → (∀ (H : Heap) (locs : List Loc) (ls : Array Slot), xhd G vwCl q.2.2 H → xS G s H locs → H.size = sz → xL ls 4 [(0, .inr (.inl (some h0))), (2, .inl x2), (3, .inl q.2.1)] → W p l e R s m args below meth c H locs cells slots Q (F0 m 124 ls [])) → W p l e R s m args below meth c H locs cells slots Q (F0 m 87 ls []) := by
  intro n
  induction n with
  | zero => intro _ _ _ _ q ls hH hS hz hl h; cases h
  | succ n ih =>
    intro x3 w H locs q ls hH hS hz hl h K
    rw [f_Mod_apart_L87] at h
    refine x_iload_n C0 hl 2 d_Mod_apart_87 rfl rfl ?_
    refine lv_bipush (v := 8) C0.1 C0.2.1 d_Mod_apart_88 (by decide) ?_
    refine x_icmp_ge C0 124 d_Mod_apart_90 (by decide) h (fun h => ?_) (fun h => ?_)
    · cases h
      exact K _ _ ls hH hS hz (x_sub hl [0, 1, 2] rfl)
    · refine x_aload_n C0 hl 0 d_Mod_apart_93 rfl rfl ?_
      refine x_getR C0 hE hH (ci := 5) rfl i_Mod 12 (by decide) kw_4_91 d_Mod_apart_94 h (fun v_19 h => ?_)
      refine lv_bipush (v := 8) C0.1 C0.2.1 d_Mod_apart_97 (by decide) ?_
      refine x_iload_n C0 hl 1 d_Mod_apart_99 rfl rfl ?_
      refine lv_imul C0.1 C0.2.1 d_Mod_apart_100 ?_
      refine lv_bipush (v := 8) C0.1 C0.2.1 d_Mod_apart_101 (by decide) ?_
      refine lv_isub C0.1 C0.2.1 d_Mod_apart_103 ?_
      refine x_iload_n C0 hl 2 d_Mod_apart_104 rfl rfl ?_
      refine lv_iadd C0.1 C0.2.1 d_Mod_apart_105 ?_
      refine x_aload_n C0 hl 0 d_Mod_apart_106 rfl rfl ?_
      refine x_getR C0 hE hH (ci := 5) rfl i_Mod 12 (by decide) kw_4_91 d_Mod_apart_107 h (fun v_20 h => ?_)
      refine lv_bipush (v := 8) C0.1 C0.2.1 d_Mod_apart_110 (by decide) ?_
      refine x_iload_n C0 hl 1 d_Mod_apart_112 rfl rfl ?_
      refine lv_imul C0.1 C0.2.1 d_Mod_apart_113 ?_
      refine x_iload_n C0 hl 2 d_Mod_apart_114 rfl rfl ?_
      refine lv_iadd C0.1 C0.2.1 d_Mod_apart_115 ?_
      refine x_iald C0 hE hH (t := 0) rfl d_Mod_apart_116 h (fun v_21 h => ?_)
      refine x_iast C0 hE hH hS (t := 0) rfl d_Mod_apart_117 h (fun w_22 H locs hH hS hz9 h => ?_)
      have hz := hz9.trans hz
      refine x_iinc (v := 1) (lv' := [(3, .inl (x3 + 1)), (0, .inr (.inl (some h0))), (2, .inl x2)]) C0 hl 2 d_Mod_apart_118 rfl (by decide) (by decide) rfl (fun ls hl => ?_)
      refine x_goto C0 87 d_Mod_apart_121 (by decide) ?_
      exact ih _ _ _ _ q ls hH hS hz (x_sub hl [1, 2, 0] rfl) h K
def f_Mod_apart_L49 (h0 : Nat) : Nat → Int32 → Mp → Option (Nat × Int32 × Mp)
  | 0, _, _ => none
  | n + 1, x2, w => (gI w (some h0) 5 9).bind fun v_10 => if v_10 ≤ x2 then (some (0, x2, w)) else ((gR w (some h0) 5 10).bind fun v_11 => (gR w (some h0) 5 10).bind fun v_12 => (aI w v_12 0 x2).bind fun v_13 => (sI w v_11 0 (x2 - (1 : Int32)) v_13).bind fun w_14 => (gR w_14 (some h0) 5 11).bind fun v_15 => (gR w_14 (some h0) 5 11).bind fun v_16 => (aI w_14 v_16 0 x2).bind fun v_17 => (sI w_14 v_15 0 (x2 - (1 : Int32)) v_17).bind fun w_18 => (f_Mod_apart_L87 h0 x2 100000 (0 : Int32) w_18).bind fun q_23 => f_Mod_apart_L49 h0 n (x2 + 1) q_23.2.2)
set_option maxHeartbeats 4000000 in
set_option maxRecDepth 100000 in
theorem w_Mod_apart_L49 {p : Program} {l : Launch} {e : Env} {R : Room} {s : State} {m : MethodId} {args : Array Value} {below : List Frame} {meth : Method} {c : Code} {Q : State → Prop} {cells slots sz : Nat} {G : Gx} {h0 : Nat} (C0 : CallFix p m c b_Mod_apart 4 s args wA R_Mod) (hE : xE G vwCl xaty s) (hR1 : 1 ≤ R.frames) (hR2 : 21 ≤ R.locals) (hR3 : cells ≤ R.cells) (hR4 : slots ≤ R.slots) : ∀ (n : Nat) (x2 : Int32) (w : Mp) (H : Heap) (locs : List Loc) (q : Nat × Int32 × Mp) (ls : Array Slot), xhd G vwCl w H → xS G s H locs → H.size = sz → xL ls 4 [(0, .inr (.inl (some h0))), (2, .inl x2)] → f_Mod_apart_L49 h0 n x2 w = some q → (∀ (H : Heap) (locs : List Loc) (ls : Array Slot), xhd G vwCl q.2.2 H → xS G s H locs → H.size = sz → xL ls 4 [(0, .inr (.inl (some h0))), (2, .inl q.2.1)] → W p l e R s m args below meth c H locs cells slots Q (F0 m 130 ls [])) → W p l e R s m args below meth c H locs cells slots Q (F0 m 49 ls []) := by
  intro n
  induction n with
  | zero => intro _ _ _ _ q ls hH hS hz hl h; cases h
  | succ n ih =>
    intro x2 w H locs q ls hH hS hz hl h K
    rw [f_Mod_apart_L49] at h
    refine x_iload_n C0 hl 1 d_Mod_apart_49 rfl rfl ?_
    refine x_aload_n C0 hl 0 d_Mod_apart_50 rfl rfl ?_
    refine x_getI C0 hE hH (ci := 5) rfl i_Mod 9 (by decide) kw_4_88 d_Mod_apart_51 h (fun v_10 h => ?_)
    refine x_icmp_ge C0 130 d_Mod_apart_54 (by decide) h (fun h => ?_) (fun h => ?_)
    · cases h
      exact K _ _ ls hH hS hz (x_sub hl [0, 1] rfl)
    · refine x_aload_n C0 hl 0 d_Mod_apart_57 rfl rfl ?_
      refine x_getR C0 hE hH (ci := 5) rfl i_Mod 10 (by decide) kw_4_89 d_Mod_apart_58 h (fun v_11 h => ?_)
      refine x_iload_n C0 hl 1 d_Mod_apart_61 rfl rfl ?_
      refine lv_iconst (v := 1) C0.1 C0.2.1 d_Mod_apart_62 (by decide) ?_
      refine lv_isub C0.1 C0.2.1 d_Mod_apart_63 ?_
      refine x_aload_n C0 hl 0 d_Mod_apart_64 rfl rfl ?_
      refine x_getR C0 hE hH (ci := 5) rfl i_Mod 10 (by decide) kw_4_89 d_Mod_apart_65 h (fun v_12 h => ?_)
      refine x_iload_n C0 hl 1 d_Mod_apart_68 rfl rfl ?_
      refine x_iald C0 hE hH (t := 0) rfl d_Mod_apart_69 h (fun v_13 h => ?_)
      refine x_iast C0 hE hH hS (t := 0) rfl d_Mod_apart_70 h (fun w_14 H locs hH hS hz9 h => ?_)
      have hz := hz9.trans hz
      refine x_aload_n C0 hl 0 d_Mod_apart_71 rfl rfl ?_
      refine x_getR C0 hE hH (ci := 5) rfl i_Mod 11 (by decide) kw_4_90 d_Mod_apart_72 h (fun v_15 h => ?_)
      refine x_iload_n C0 hl 1 d_Mod_apart_75 rfl rfl ?_
      refine lv_iconst (v := 1) C0.1 C0.2.1 d_Mod_apart_76 (by decide) ?_
      refine lv_isub C0.1 C0.2.1 d_Mod_apart_77 ?_
      refine x_aload_n C0 hl 0 d_Mod_apart_78 rfl rfl ?_
      refine x_getR C0 hE hH (ci := 5) rfl i_Mod 11 (by decide) kw_4_90 d_Mod_apart_79 h (fun v_16 h => ?_)
      refine x_iload_n C0 hl 1 d_Mod_apart_82 rfl rfl ?_
      refine x_iald C0 hE hH (t := 0) rfl d_Mod_apart_83 h (fun v_17 h => ?_)
      refine x_iast C0 hE hH hS (t := 0) rfl d_Mod_apart_84 h (fun w_18 H locs hH hS hz9 h => ?_)
      have hz := hz9.trans hz
      refine lv_iconst (v := 0) C0.1 C0.2.1 d_Mod_apart_85 (by decide) ?_
      refine x_istore_n (lv' := [(3, .inl (0 : Int32)), (0, .inr (.inl (some h0))), (2, .inl x2)]) C0 hl d_Mod_apart_86 rfl (by decide) rfl (fun ls hl => ?_)
      obtain ⟨q_23, e9, h⟩ := Option.bind_eq_some_iff.mp h
      refine w_Mod_apart_L87 C0 hE hR1 hR2 hR3 hR4 100000 _ _ _ _ q_23 ls hH hS hz (x_sub hl [1, 2, 0] rfl) e9 (fun H locs ls hH hS hz hl => ?_)
      refine x_iinc (v := 1) (lv' := [(2, .inl (x2 + 1)), (0, .inr (.inl (some h0))), (3, .inl q_23.2.1)]) C0 hl 1 d_Mod_apart_124 rfl (by decide) (by decide) rfl (fun ls hl => ?_)
      refine x_goto C0 49 d_Mod_apart_127 (by decide) ?_
      exact ih _ _ _ _ q ls hH hS hz (x_sub hl [1, 0] rfl) h K
def f_Mod_apart (w : Mp) (h0 : Nat) (x1 : Int32) : Option (Int32 × Mp) := (xo w (some h0) 5).bind fun b_2 => (f_Mod_noFace w b_2 x1).bind fun q_1 => if q_1.1 = 0 then ((f_Mod_apart_L12 h0 x1 100000 (0 : Int32) q_1.2).bind fun q_9 => (f_Mod_apart_L49 h0 100000 (x1 + (1 : Int32)) q_9.2.2).bind fun q_24 => (gI q_24.2.2 (some h0) 5 9).bind fun v_25 => (pF q_24.2.2 (some h0) 5 9 (.int (v_25 - (1 : Int32)))).bind fun w_26 => (pF w_26 (some h0) 5 15 (.int (0 : Int32))).bind fun w_27 => (gI w_27 (some h0) 5 9).bind fun v_28 => some (v_28, w_27)) else (some ((0 : Int32), q_1.2))
set_option maxHeartbeats 4000000 in
set_option maxRecDepth 100000 in
theorem c_Mod_apart (l : Launch) (G : Gx) (w : Mp) (sz : Nat) (h0 : Nat) (x1 : Int32) (res : Int32 × Mp) (hf : f_Mod_apart w h0 x1 = some res) : Met l y_Mod_apart (xws y_Mod_apart b_Mod_apart 4 (some .int)) { frames := 1, cells := 0, slots := 0, locals := 21 } (xPc G vwCl xaty w sz [va_rf (some h0), .int x1]) (xQ G vwCl (some (.int res.1)) res.2 sz) (0) (0) (xA G) := by
  refine Met.ofW (cc := b_Mod_apart) (maxL := 4) (ret := (some .int)) (by decide) rfl ?_
  intro p e s m args below meth c s₁ B hml hv
  obtain ⟨ha, hE, hH, hz⟩ := hv
  have C0 : CallFix p m c b_Mod_apart 4 s args wA R_Mod := ⟨B.exec, B.bytes, hml, findClass_of_methodNamed B.named, fun w hw => atoms_spec (ws := xws y_Mod_apart b_Mod_apart 4 (some .int)) B.pre w (List.mem_cons_of_mem _ hw)⟩
  have hr := B.returns
  have hlocks := B.notSynchronized
  obtain ⟨R, hR⟩ : ∃ R, R = (headSpec (xws y_Mod_apart b_Mod_apart 4 (some .int)) { frames := 1, cells := 0, slots := 0, locals := 21 }).room := ⟨_, rfl⟩
  have hR1 : 1 ≤ R.frames := by rw [hR]; exact Nat.le_of_ble_eq_true rfl
  have hR2 : 21 ≤ R.locals := by rw [hR]; exact Nat.le_of_ble_eq_true rfl
  have hR3 : 0 ≤ R.cells := by rw [hR]; exact Nat.le_refl _
  have hR4 : 0 ≤ R.slots := by rw [hR]; exact Nat.le_refl _
  rw [← hR]
  obtain ⟨Q, hQ⟩ : ∃ Q, Q = MQ below (xQ G vwCl (some (.int res.1)) res.2 sz) args s (0) (0) (xA G) := ⟨_, rfl⟩
  rw [← hQ]
  have hS : xS G s s.heap [] := va_S.rf
  obtain ⟨ls, he, hl⟩ := x_entry m [.inr (.inl (some h0)), .inl x1] 4 (Nat.le_of_ble_eq_true rfl)
  rw [show entryFrame m args 4 = F0 m 0 ls [] by rw [ha]; exact he]
  have hl : xL ls 4 [(0, .inr (.inl (some h0))), (1, .inl x1)] := hl
  have h := hf
  unfold f_Mod_apart at h
  suffices hmain : ∀ (H : Heap) (locs : List Loc), xhd G vwCl w H → xS G s H locs → H.size = sz → (H = s.heap ∧ locs = []) → W p l e R s m args below meth c H locs 0 0 Q (F0 m 0 ls []) from hmain _ _ hH hS hz ⟨rfl, rfl⟩
  clear hH hS hz
  intro H locs hH hS hz hP0
  refine x_aload_n C0 hl 0 d_Mod_apart_0 rfl rfl ?_
  refine x_iload_n C0 hl 1 d_Mod_apart_1 rfl rfl ?_
  obtain ⟨b_2, e9, h⟩ := Option.bind_eq_some_iff.mp h
  obtain ⟨e8, fs9, hb9⟩ := xo_inv e9
  obtain ⟨q_1, e9, h⟩ := Option.bind_eq_some_iff.mp h
  refine x_call0 hS (va_runV (As := [.int x1]) (rest := []) C0 (c_Mod_noFace l G w _ b_2 x1 q_1 e9) (x_cwV 1 C0 kw_4_178 kw_4_181 kw_1_3 kw_4_180 kw_0_16 (by decide +kernel) (x_rm hR1 hR2 (Nat.le_of_ble_eq_true rfl) (Nat.le_of_ble_eq_true rfl))) (x_preV hE hH hS (ci := 5) rfl hb9) rfl rfl hl.1 (by rw [e8]; rfl) (lv_room (by first | exact Nat.le_of_ble_eq_true rfl | simp only [List.map_cons, List.map_nil, List.sum_cons, List.sum_nil, va_rf_cat, x_catI, x_catL, x_catA] <;> decide)) d_Mod_apart_2 (x_le0 hR3 hR4)) (fun H locs hH hS hz9 => ?_)
  have hz := hz9.trans hz
  refine x_if_eq C0 10 d_Mod_apart_5 (by decide) h (fun h => ?_) (fun h => ?_)
  · refine lv_iconst (v := 0) C0.1 C0.2.1 d_Mod_apart_10 (by decide) ?_
    refine x_istore_n (lv' := [(2, .inl (0 : Int32)), (0, .inr (.inl (some h0))), (1, .inl x1)]) C0 hl d_Mod_apart_11 rfl (by decide) rfl (fun ls hl => ?_)
    obtain ⟨q_9, e9, h⟩ := Option.bind_eq_some_iff.mp h
    refine w_Mod_apart_L12 C0 hE hR1 hR2 hR3 hR4 100000 _ _ _ _ q_9 ls hH hS hz (x_sub hl [1, 2, 0] rfl) e9 (fun H locs ls hH hS hz hl => ?_)
    refine x_iload_n C0 hl 1 d_Mod_apart_45 rfl rfl ?_
    refine lv_iconst (v := 1) C0.1 C0.2.1 d_Mod_apart_46 (by decide) ?_
    refine lv_iadd C0.1 C0.2.1 d_Mod_apart_47 ?_
    refine x_istore_n (lv' := [(2, .inl (x1 + (1 : Int32))), (0, .inr (.inl (some h0))), (1, .inl x1)]) C0 hl d_Mod_apart_48 rfl (by decide) rfl (fun ls hl => ?_)
    obtain ⟨q_24, e9, h⟩ := Option.bind_eq_some_iff.mp h
    refine w_Mod_apart_L49 C0 hE hR1 hR2 hR3 hR4 100000 _ _ _ _ q_24 ls hH hS hz (x_sub hl [1, 0] rfl) e9 (fun H locs ls hH hS hz hl => ?_)
    refine x_aload_n C0 hl 0 d_Mod_apart_130 rfl rfl ?_
    refine lv_dup C0.1 C0.2.1 d_Mod_apart_131 (va_rf_cat _) ?_
    refine x_getI C0 hE hH (ci := 5) rfl i_Mod 9 (by decide) kw_4_88 d_Mod_apart_132 h (fun v_25 h => ?_)
    refine lv_iconst (v := 1) C0.1 C0.2.1 d_Mod_apart_135 (by decide) ?_
    refine lv_isub C0.1 C0.2.1 d_Mod_apart_136 ?_
    refine x_put C0 hE hH hS (ci := 5) rfl i_Mod t_Mod t_Mod_ok n_Mod 9 (by decide) kw_4_88 rfl rfl rfl d_Mod_apart_137 h (fun w_26 H locs hH hS hz9 h => ?_)
    have hz := hz9.trans hz
    refine x_aload_n C0 hl 0 d_Mod_apart_140 rfl rfl ?_
    refine lv_iconst (v := 0) C0.1 C0.2.1 d_Mod_apart_141 (by decide) ?_
    refine x_put C0 hE hH hS (ci := 5) rfl i_Mod t_Mod t_Mod_ok n_Mod 15 (by decide) kw_4_94 rfl rfl rfl d_Mod_apart_142 h (fun w_27 H locs hH hS hz9 h => ?_)
    have hz := hz9.trans hz
    refine x_aload_n C0 hl 0 d_Mod_apart_145 rfl rfl ?_
    refine x_getI C0 hE hH (ci := 5) rfl i_Mod 9 (by decide) kw_4_88 d_Mod_apart_146 h (fun v_28 h => ?_)
    cases h
    rw [hQ]
    exact x_iret C0 hr hlocks hH hS hz d_Mod_apart_149
  · refine lv_iconst (v := 0) C0.1 C0.2.1 d_Mod_apart_8 (by decide) ?_
    cases h
    rw [hQ]
    exact x_iret C0 hr hlocks hH hS hz d_Mod_apart_9
theorem d_Mod_noPiece_0 : decode b_Mod_noPiece 0 = .ok (.aload_n 0, 1) := by decide +kernel
theorem d_Mod_noPiece_1 : decode b_Mod_noPiece 1 = .ok (.iload_n 1, 1) := by decide +kernel
theorem d_Mod_noPiece_2 : decode b_Mod_noPiece 2 = .ok (.ifCond .lt 25, 3) := by decide +kernel
theorem d_Mod_noPiece_5 : decode b_Mod_noPiece 5 = .ok (.iload_n 1, 1) := by decide +kernel
theorem d_Mod_noPiece_6 : decode b_Mod_noPiece 6 = .ok (.aload_n 0, 1) := by decide +kernel
theorem d_Mod_noPiece_7 : decode b_Mod_noPiece 7 = .ok (.getfield 81, 3) := by decide +kernel
theorem d_Mod_noPiece_10 : decode b_Mod_noPiece 10 = .ok (.if_icmp .ge 17, 3) := by decide +kernel
theorem d_Mod_noPiece_13 : decode b_Mod_noPiece 13 = .ok (.iload_n 2, 1) := by decide +kernel
theorem d_Mod_noPiece_14 : decode b_Mod_noPiece 14 = .ok (.ifCond .lt 13, 3) := by decide +kernel
theorem d_Mod_noPiece_17 : decode b_Mod_noPiece 17 = .ok (.iload_n 2, 1) := by decide +kernel
theorem d_Mod_noPiece_18 : decode b_Mod_noPiece 18 = .ok (.aload_n 0, 1) := by decide +kernel
theorem d_Mod_noPiece_19 : decode b_Mod_noPiece 19 = .ok (.getfield 35, 3) := by decide +kernel
theorem d_Mod_noPiece_22 : decode b_Mod_noPiece 22 = .ok (.iload_n 1, 1) := by decide +kernel
theorem d_Mod_noPiece_23 : decode b_Mod_noPiece 23 = .ok (.iaload, 1) := by decide +kernel
theorem d_Mod_noPiece_24 : decode b_Mod_noPiece 24 = .ok (.if_icmp .lt 7, 3) := by decide +kernel
theorem d_Mod_noPiece_27 : decode b_Mod_noPiece 27 = .ok (.iconst 1, 1) := by decide +kernel
theorem d_Mod_noPiece_28 : decode b_Mod_noPiece 28 = .ok (.goto 4, 3) := by decide +kernel
theorem d_Mod_noPiece_31 : decode b_Mod_noPiece 31 = .ok (.iconst 0, 1) := by decide +kernel
theorem d_Mod_noPiece_32 : decode b_Mod_noPiece 32 = .ok (.putfield 59, 3) := by decide +kernel
theorem d_Mod_noPiece_35 : decode b_Mod_noPiece 35 = .ok (.aload_n 0, 1) := by decide +kernel
theorem d_Mod_noPiece_36 : decode b_Mod_noPiece 36 = .ok (.getfield 59, 3) := by decide +kernel
theorem d_Mod_noPiece_39 : decode b_Mod_noPiece 39 = .ok (.ifCond .le 7, 3) := by decide +kernel
theorem d_Mod_noPiece_42 : decode b_Mod_noPiece 42 = .ok (.iconst 1, 1) := by decide +kernel
theorem d_Mod_noPiece_43 : decode b_Mod_noPiece 43 = .ok (.goto 4, 3) := by decide +kernel
theorem d_Mod_noPiece_46 : decode b_Mod_noPiece 46 = .ok (.iconst 0, 1) := by decide +kernel
theorem d_Mod_noPiece_47 : decode b_Mod_noPiece 47 = .ok (.ireturn, 1) := by decide +kernel
def f_Mod_noPiece (w : Mp) (h0 : Nat) (x1 : Int32) (x2 : Int32) : Option (Int32 × Mp) := xJ1 (fun (x_1 : Int32) => (pF w (some h0) 5 0 (.int x_1)).bind fun w_3 => (gI w_3 (some h0) 5 0).bind fun v_4 => if v_4 ≤ 0 then (some ((0 : Int32), w_3)) else (some ((1 : Int32), w_3))) fun J_2 => if x1 < 0 then (J_2 (1 : Int32)) else ((gI w (some h0) 5 9).bind fun v_5 => if v_5 ≤ x1 then (J_2 (1 : Int32)) else (if x2 < 0 then (J_2 (1 : Int32)) else ((gR w (some h0) 5 11).bind fun v_6 => (aI w v_6 0 x1).bind fun v_7 => if x2 < v_7 then (J_2 (0 : Int32)) else (J_2 (1 : Int32)))))
set_option maxHeartbeats 4000000 in
set_option maxRecDepth 100000 in
theorem c_Mod_noPiece (l : Launch) (G : Gx) (w : Mp) (sz : Nat) (h0 : Nat) (x1 : Int32) (x2 : Int32) (res : Int32 × Mp) (hf : f_Mod_noPiece w h0 x1 x2 = some res) : Met l y_Mod_noPiece (xws y_Mod_noPiece b_Mod_noPiece 3 (some .boolean)) { frames := 0, cells := 0, slots := 0, locals := 0 } (xPc G vwCl xaty w sz [va_rf (some h0), .int x1, .int x2]) (xQ G vwCl (some (.int res.1)) res.2 sz) (0) (0) (xA G) := by
  refine Met.ofW (cc := b_Mod_noPiece) (maxL := 3) (ret := (some .boolean)) (by decide) rfl ?_
  intro p e s m args below meth c s₁ B hml hv
  obtain ⟨ha, hE, hH, hz⟩ := hv
  have C0 : CallFix p m c b_Mod_noPiece 3 s args wA R_Mod := ⟨B.exec, B.bytes, hml, findClass_of_methodNamed B.named, fun w hw => atoms_spec (ws := xws y_Mod_noPiece b_Mod_noPiece 3 (some .boolean)) B.pre w (List.mem_cons_of_mem _ hw)⟩
  have hr := B.returns
  have hlocks := B.notSynchronized
  obtain ⟨R, hR⟩ : ∃ R, R = (headSpec (xws y_Mod_noPiece b_Mod_noPiece 3 (some .boolean)) { frames := 0, cells := 0, slots := 0, locals := 0 }).room := ⟨_, rfl⟩
  have hR1 : 0 ≤ R.frames := by rw [hR]; exact Nat.le_of_ble_eq_true rfl
  have hR2 : 0 ≤ R.locals := by rw [hR]; exact Nat.le_of_ble_eq_true rfl
  have hR3 : 0 ≤ R.cells := by rw [hR]; exact Nat.le_refl _
  have hR4 : 0 ≤ R.slots := by rw [hR]; exact Nat.le_refl _
  rw [← hR]
  obtain ⟨Q, hQ⟩ : ∃ Q, Q = MQ below (xQ G vwCl (some (.int res.1)) res.2 sz) args s (0) (0) (xA G) := ⟨_, rfl⟩
  rw [← hQ]
  have hS : xS G s s.heap [] := va_S.rf
  obtain ⟨ls, he, hl⟩ := x_entry m [.inr (.inl (some h0)), .inl x1, .inl x2] 3 (Nat.le_of_ble_eq_true rfl)
  rw [show entryFrame m args 3 = F0 m 0 ls [] by rw [ha]; exact he]
  have hl : xL ls 3 [(0, .inr (.inl (some h0))), (1, .inl x1), (2, .inl x2)] := hl
  have h := hf
  unfold f_Mod_noPiece at h
  suffices hmain : ∀ (H : Heap) (locs : List Loc), xhd G vwCl w H → xS G s H locs → H.size = sz → (H = s.heap ∧ locs = []) → W p l e R s m args below meth c H locs 0 0 Q (F0 m 0 ls []) from hmain _ _ hH hS hz ⟨rfl, rfl⟩
  clear hH hS hz
  intro H locs hH hS hz hP0
  refine x_aload_n C0 hl 0 d_Mod_noPiece_0 rfl rfl ?_
  refine x_iload_n C0 hl 1 d_Mod_noPiece_1 rfl rfl ?_
  refine xj1 h (fun J_2 eJ_2 h => ?_)
  have kJ_2 : ∀ (x_1 : Int32) (ls : Array Slot), xL ls 3 [(0, .inr (.inl (some h0)))] → J_2 x_1 = some res → W p l e R s m args below meth c H locs 0 0 Q (F0 m 32 ls [.int x_1, va_rf (some h0)]) := by
    intro x_1 ls hl h
    rw [eJ_2] at h
    refine x_put C0 hE hH hS (ci := 5) rfl i_Mod t_Mod t_Mod_ok n_Mod 0 (by decide) kw_4_79 rfl rfl rfl d_Mod_noPiece_32 h (fun w_3 H locs hH hS hz9 h => ?_)
    have hz := hz9.trans hz
    refine x_aload_n C0 hl 0 d_Mod_noPiece_35 rfl rfl ?_
    refine x_getI C0 hE hH (ci := 5) rfl i_Mod 0 (by decide) kw_4_79 d_Mod_noPiece_36 h (fun v_4 h => ?_)
    refine x_if_le C0 46 d_Mod_noPiece_39 (by decide) h (fun h => ?_) (fun h => ?_)
    · refine lv_iconst (v := 0) C0.1 C0.2.1 d_Mod_noPiece_46 (by decide) ?_
      cases h
      rw [hQ]
      exact x_zret (v := (0 : Int32)) C0 hr hlocks hH hS hz rfl d_Mod_noPiece_47
    · refine lv_iconst (v := 1) C0.1 C0.2.1 d_Mod_noPiece_42 (by decide) ?_
      refine x_goto C0 47 d_Mod_noPiece_43 (by decide) ?_
      cases h
      rw [hQ]
      exact x_zret (v := (1 : Int32)) C0 hr hlocks hH hS hz rfl d_Mod_noPiece_47
  refine x_if_lt C0 27 d_Mod_noPiece_2 (by decide) h (fun h => ?_) (fun h => ?_)
  · refine lv_iconst (v := 1) C0.1 C0.2.1 d_Mod_noPiece_27 (by decide) ?_
    refine x_goto C0 32 d_Mod_noPiece_28 (by decide) ?_
    exact kJ_2 _ ls (x_sub hl [0] rfl) h
  · refine x_iload_n C0 hl 1 d_Mod_noPiece_5 rfl rfl ?_
    refine x_aload_n C0 hl 0 d_Mod_noPiece_6 rfl rfl ?_
    refine x_getI C0 hE hH (ci := 5) rfl i_Mod 9 (by decide) kw_4_88 d_Mod_noPiece_7 h (fun v_5 h => ?_)
    refine x_icmp_ge C0 27 d_Mod_noPiece_10 (by decide) h (fun h => ?_) (fun h => ?_)
    · refine lv_iconst (v := 1) C0.1 C0.2.1 d_Mod_noPiece_27 (by decide) ?_
      refine x_goto C0 32 d_Mod_noPiece_28 (by decide) ?_
      exact kJ_2 _ ls (x_sub hl [0] rfl) h
    · refine x_iload_n C0 hl 2 d_Mod_noPiece_13 rfl rfl ?_
      refine x_if_lt C0 27 d_Mod_noPiece_14 (by decide) h (fun h => ?_) (fun h => ?_)
      · refine lv_iconst (v := 1) C0.1 C0.2.1 d_Mod_noPiece_27 (by decide) ?_
        refine x_goto C0 32 d_Mod_noPiece_28 (by decide) ?_
        exact kJ_2 _ ls (x_sub hl [0] rfl) h
      · refine x_iload_n C0 hl 2 d_Mod_noPiece_17 rfl rfl ?_
        refine x_aload_n C0 hl 0 d_Mod_noPiece_18 rfl rfl ?_
        refine x_getR C0 hE hH (ci := 5) rfl i_Mod 11 (by decide) kw_4_90 d_Mod_noPiece_19 h (fun v_6 h => ?_)
        refine x_iload_n C0 hl 1 d_Mod_noPiece_22 rfl rfl ?_
        refine x_iald C0 hE hH (t := 0) rfl d_Mod_noPiece_23 h (fun v_7 h => ?_)
        refine x_icmp_lt C0 31 d_Mod_noPiece_24 (by decide) h (fun h => ?_) (fun h => ?_)
        · refine lv_iconst (v := 0) C0.1 C0.2.1 d_Mod_noPiece_31 (by decide) ?_
          exact kJ_2 _ ls (x_sub hl [0] rfl) h
        · refine lv_iconst (v := 1) C0.1 C0.2.1 d_Mod_noPiece_27 (by decide) ?_
          refine x_goto C0 32 d_Mod_noPiece_28 (by decide) ?_
          exact kJ_2 _ ls (x_sub hl [0] rfl) h
theorem d_Mod_place_0 : decode b_Mod_place 0 = .ok (.aload_n 0, 1) := by decide +kernel
theorem d_Mod_place_1 : decode b_Mod_place 1 = .ok (.iload_n 1, 1) := by decide +kernel
theorem d_Mod_place_2 : decode b_Mod_place 2 = .ok (.iload_n 2, 1) := by decide +kernel
theorem d_Mod_place_3 : decode b_Mod_place 3 = .ok (.invokevirtual 119, 3) := by decide +kernel
theorem d_Mod_place_6 : decode b_Mod_place 6 = .ok (.ifCond .eq 5, 3) := by decide +kernel
theorem d_Mod_place_9 : decode b_Mod_place 9 = .ok (.iconst 0, 1) := by decide +kernel
theorem d_Mod_place_10 : decode b_Mod_place 10 = .ok (.ireturn, 1) := by decide +kernel
theorem d_Mod_place_11 : decode b_Mod_place 11 = .ok (.aload_n 0, 1) := by decide +kernel
theorem d_Mod_place_12 : decode b_Mod_place 12 = .ok (.iload_n 3, 1) := by decide +kernel
theorem d_Mod_place_13 : decode b_Mod_place 13 = .ok (.iconst 0, 1) := by decide +kernel
theorem d_Mod_place_14 : decode b_Mod_place 14 = .ok (.iconst 4, 1) := by decide +kernel
theorem d_Mod_place_15 : decode b_Mod_place 15 = .ok (.invokestatic 66, 3) := by decide +kernel
theorem d_Mod_place_18 : decode b_Mod_place 18 = .ok (.ifCond .eq 7, 3) := by decide +kernel
theorem d_Mod_place_21 : decode b_Mod_place 21 = .ok (.iconst 0, 1) := by decide +kernel
theorem d_Mod_place_22 : decode b_Mod_place 22 = .ok (.goto 4, 3) := by decide +kernel
theorem d_Mod_place_25 : decode b_Mod_place 25 = .ok (.iconst 2, 1) := by decide +kernel
theorem d_Mod_place_26 : decode b_Mod_place 26 = .ok (.putfield 59, 3) := by decide +kernel
theorem d_Mod_place_29 : decode b_Mod_place 29 = .ok (.aload_n 0, 1) := by decide +kernel
theorem d_Mod_place_30 : decode b_Mod_place 30 = .ok (.getfield 59, 3) := by decide +kernel
theorem d_Mod_place_33 : decode b_Mod_place 33 = .ok (.ifCond .le 5, 3) := by decide +kernel
theorem d_Mod_place_36 : decode b_Mod_place 36 = .ok (.iconst 0, 1) := by decide +kernel
theorem d_Mod_place_37 : decode b_Mod_place 37 = .ok (.ireturn, 1) := by decide +kernel
theorem d_Mod_place_38 : decode b_Mod_place 38 = .ok (.iload_n 3, 1) := by decide +kernel
theorem d_Mod_place_39 : decode b_Mod_place 39 = .ok (.ifCond .ne 17, 3) := by decide +kernel
theorem d_Mod_place_42 : decode b_Mod_place 42 = .ok (.aload_n 0, 1) := by decide +kernel
theorem d_Mod_place_43 : decode b_Mod_place 43 = .ok (.getfield 38, 3) := by decide +kernel
theorem d_Mod_place_46 : decode b_Mod_place 46 = .ok (.bipush 8, 2) := by decide +kernel
theorem d_Mod_place_48 : decode b_Mod_place 48 = .ok (.iload_n 1, 1) := by decide +kernel
theorem d_Mod_place_49 : decode b_Mod_place 49 = .ok (.imul, 1) := by decide +kernel
theorem d_Mod_place_50 : decode b_Mod_place 50 = .ok (.iload_n 2, 1) := by decide +kernel
theorem d_Mod_place_51 : decode b_Mod_place 51 = .ok (.iadd, 1) := by decide +kernel
theorem d_Mod_place_52 : decode b_Mod_place 52 = .ok (.iaload, 1) := by decide +kernel
theorem d_Mod_place_53 : decode b_Mod_place 53 = .ok (.goto 67, 3) := by decide +kernel
theorem d_Mod_place_56 : decode b_Mod_place 56 = .ok (.iload_n 3, 1) := by decide +kernel
theorem d_Mod_place_57 : decode b_Mod_place 57 = .ok (.iconst 1, 1) := by decide +kernel
theorem d_Mod_place_58 : decode b_Mod_place 58 = .ok (.if_icmp .ne 20, 3) := by decide +kernel
theorem d_Mod_place_61 : decode b_Mod_place 61 = .ok (.aload_n 0, 1) := by decide +kernel
theorem d_Mod_place_62 : decode b_Mod_place 62 = .ok (.iload_n 1, 1) := by decide +kernel
theorem d_Mod_place_63 : decode b_Mod_place 63 = .ok (.iload_n 2, 1) := by decide +kernel
theorem d_Mod_place_64 : decode b_Mod_place 64 = .ok (.invokevirtual 88, 3) := by decide +kernel
theorem d_Mod_place_67 : decode b_Mod_place 67 = .ok (.ifCond .eq 7, 3) := by decide +kernel
theorem d_Mod_place_70 : decode b_Mod_place 70 = .ok (.iconst 1, 1) := by decide +kernel
theorem d_Mod_place_71 : decode b_Mod_place 71 = .ok (.goto 49, 3) := by decide +kernel
theorem d_Mod_place_74 : decode b_Mod_place 74 = .ok (.iconst 0, 1) := by decide +kernel
theorem d_Mod_place_75 : decode b_Mod_place 75 = .ok (.goto 45, 3) := by decide +kernel
theorem d_Mod_place_78 : decode b_Mod_place 78 = .ok (.iload_n 3, 1) := by decide +kernel
theorem d_Mod_place_79 : decode b_Mod_place 79 = .ok (.iconst 2, 1) := by decide +kernel
theorem d_Mod_place_80 : decode b_Mod_place 80 = .ok (.if_icmp .ne 20, 3) := by decide +kernel
theorem d_Mod_place_83 : decode b_Mod_place 83 = .ok (.aload_n 0, 1) := by decide +kernel
theorem d_Mod_place_84 : decode b_Mod_place 84 = .ok (.iload_n 1, 1) := by decide +kernel
theorem d_Mod_place_85 : decode b_Mod_place 85 = .ok (.iload_n 2, 1) := by decide +kernel
theorem d_Mod_place_86 : decode b_Mod_place 86 = .ok (.invokevirtual 92, 3) := by decide +kernel
theorem d_Mod_place_89 : decode b_Mod_place 89 = .ok (.ifCond .eq 7, 3) := by decide +kernel
theorem d_Mod_place_92 : decode b_Mod_place 92 = .ok (.iconst 1, 1) := by decide +kernel
theorem d_Mod_place_93 : decode b_Mod_place 93 = .ok (.goto 27, 3) := by decide +kernel
theorem d_Mod_place_96 : decode b_Mod_place 96 = .ok (.iconst 0, 1) := by decide +kernel
theorem d_Mod_place_97 : decode b_Mod_place 97 = .ok (.goto 23, 3) := by decide +kernel
theorem d_Mod_place_100 : decode b_Mod_place 100 = .ok (.iload_n 3, 1) := by decide +kernel
theorem d_Mod_place_101 : decode b_Mod_place 101 = .ok (.iconst 3, 1) := by decide +kernel
theorem d_Mod_place_102 : decode b_Mod_place 102 = .ok (.if_icmp .ne 12, 3) := by decide +kernel
theorem d_Mod_place_105 : decode b_Mod_place 105 = .ok (.aload_n 0, 1) := by decide +kernel
theorem d_Mod_place_106 : decode b_Mod_place 106 = .ok (.iload_n 1, 1) := by decide +kernel
theorem d_Mod_place_107 : decode b_Mod_place 107 = .ok (.iload_n 2, 1) := by decide +kernel
theorem d_Mod_place_108 : decode b_Mod_place 108 = .ok (.invokevirtual 122, 3) := by decide +kernel
theorem d_Mod_place_111 : decode b_Mod_place 111 = .ok (.goto 9, 3) := by decide +kernel
theorem d_Mod_place_114 : decode b_Mod_place 114 = .ok (.aload_n 0, 1) := by decide +kernel
theorem d_Mod_place_115 : decode b_Mod_place 115 = .ok (.iload_n 1, 1) := by decide +kernel
theorem d_Mod_place_116 : decode b_Mod_place 116 = .ok (.iload_n 2, 1) := by decide +kernel
theorem d_Mod_place_117 : decode b_Mod_place 117 = .ok (.invokevirtual 116, 3) := by decide +kernel
theorem d_Mod_place_120 : decode b_Mod_place 120 = .ok (.ireturn, 1) := by decide +kernel
def f_Mod_place (w : Mp) (h0 : Nat) (x1 : Int32) (x2 : Int32) (x3 : Int32) : Option (Int32 × Mp) := (xo w (some h0) 5).bind fun b_2 => (f_Mod_noPiece w b_2 x1 x2).bind fun q_1 => if q_1.1 = 0 then ((f_Mod_isIn q_1.2 x3 (0 : Int32) (4 : Int32)).bind fun q_3 => xJ1 (fun (x_4 : Int32) => (pF q_1.2 (some h0) 5 0 (.int x_4)).bind fun w_6 => (gI w_6 (some h0) 5 0).bind fun v_7 => if v_7 ≤ 0 then (if x3 = 0 then ((gR w_6 (some h0) 5 12).bind fun v_16 => (aI w_6 v_16 0 (((8 : Int32) * x1) + x2)).bind fun v_17 => some (v_17, w_6)) else (if x3 = (1 : Int32) then ((xo w_6 (some h0) 5).bind fun b_15 => (f_Mod_isMirrored w_6 b_15 x1 x2).bind fun q_14 => if q_14 = 0 then (some ((0 : Int32), w_6)) else (some ((1 : Int32), w_6))) else (if x3 = (2 : Int32) then ((xo w_6 (some h0) 5).bind fun b_13 => (f_Mod_isTurned w_6 b_13 x1 x2).bind fun q_12 => if q_12 = 0 then (some ((0 : Int32), w_6)) else (some ((1 : Int32), w_6))) else (if x3 = (3 : Int32) then ((xo w_6 (some h0) 5).bind fun b_11 => (f_Mod_across w_6 b_11 x1 x2).bind fun q_10 => some (q_10, w_6)) else ((xo w_6 (some h0) 5).bind fun b_9 => (f_Mod_topOf w_6 b_9 x1 x2).bind fun q_8 => some (q_8, w_6)))))) else (some ((0 : Int32), w_6))) fun J_5 => if q_3 = 0 then (J_5 (2 : Int32)) else (J_5 (0 : Int32))) else (some ((0 : Int32), q_1.2))
set_option maxHeartbeats 4000000 in
set_option maxRecDepth 100000 in
theorem c_Mod_place (l : Launch) (G : Gx) (w : Mp) (sz : Nat) (h0 : Nat) (x1 : Int32) (x2 : Int32) (x3 : Int32) (res : Int32 × Mp) (hf : f_Mod_place w h0 x1 x2 x3 = some res) : Met l y_Mod_place (xws y_Mod_place b_Mod_place 4 (some .int)) { frames := 5, cells := 0, slots := 0, locals := 129 } (xPc G vwCl xaty w sz [va_rf (some h0), .int x1, .int x2, .int x3]) (xQ G vwCl (some (.int res.1)) res.2 sz) (0) (0) (xA G) := by
  refine Met.ofW (cc := b_Mod_place) (maxL := 4) (ret := (some .int)) (by decide) rfl ?_
  intro p e s m args below meth c s₁ B hml hv
  obtain ⟨ha, hE, hH, hz⟩ := hv
  have C0 : CallFix p m c b_Mod_place 4 s args wA R_Mod := ⟨B.exec, B.bytes, hml, findClass_of_methodNamed B.named, fun w hw => atoms_spec (ws := xws y_Mod_place b_Mod_place 4 (some .int)) B.pre w (List.mem_cons_of_mem _ hw)⟩
  have hr := B.returns
  have hlocks := B.notSynchronized
  obtain ⟨R, hR⟩ : ∃ R, R = (headSpec (xws y_Mod_place b_Mod_place 4 (some .int)) { frames := 5, cells := 0, slots := 0, locals := 129 }).room := ⟨_, rfl⟩
  have hR1 : 5 ≤ R.frames := by rw [hR]; exact Nat.le_of_ble_eq_true rfl
  have hR2 : 129 ≤ R.locals := by rw [hR]; exact Nat.le_of_ble_eq_true rfl
  have hR3 : 0 ≤ R.cells := by rw [hR]; exact Nat.le_refl _
  have hR4 : 0 ≤ R.slots := by rw [hR]; exact Nat.le_refl _
  rw [← hR]
  obtain ⟨Q, hQ⟩ : ∃ Q, Q = MQ below (xQ G vwCl (some (.int res.1)) res.2 sz) args s (0) (0) (xA G) := ⟨_, rfl⟩
  rw [← hQ]
  have hS : xS G s s.heap [] := va_S.rf
  obtain ⟨ls, he, hl⟩ := x_entry m [.inr (.inl (some h0)), .inl x1, .inl x2, .inl x3] 4 (Nat.le_of_ble_eq_true rfl)
  rw [show entryFrame m args 4 = F0 m 0 ls [] by rw [ha]; exact he]
  have hl : xL ls 4 [(0, .inr (.inl (some h0))), (1, .inl x1), (2, .inl x2), (3, .inl x3)] := hl
  have h := hf
  unfold f_Mod_place at h
  suffices hmain : ∀ (H : Heap) (locs : List Loc), xhd G vwCl w H → xS G s H locs → H.size = sz → (H = s.heap ∧ locs = []) → W p l e R s m args below meth c H locs 0 0 Q (F0 m 0 ls []) from hmain _ _ hH hS hz ⟨rfl, rfl⟩
  clear hH hS hz
  intro H locs hH hS hz hP0
  refine x_aload_n C0 hl 0 d_Mod_place_0 rfl rfl ?_
  refine x_iload_n C0 hl 1 d_Mod_place_1 rfl rfl ?_
  refine x_iload_n C0 hl 2 d_Mod_place_2 rfl rfl ?_
  obtain ⟨b_2, e9, h⟩ := Option.bind_eq_some_iff.mp h
  obtain ⟨e8, fs9, hb9⟩ := xo_inv e9
  obtain ⟨q_1, e9, h⟩ := Option.bind_eq_some_iff.mp h
  refine x_call0 hS (va_runV (As := [.int x1, .int x2]) (rest := []) C0 (c_Mod_noPiece l G w _ b_2 x1 x2 q_1 e9) (x_cwV 2 C0 kw_4_186 kw_4_189 kw_1_3 kw_4_188 kw_0_17 (by decide +kernel) (x_rm hR1 hR2 (Nat.le_of_ble_eq_true rfl) (Nat.le_of_ble_eq_true rfl))) (x_preV hE hH hS (ci := 5) rfl hb9) rfl rfl hl.1 (by rw [e8]; rfl) (lv_room (by first | exact Nat.le_of_ble_eq_true rfl | simp only [List.map_cons, List.map_nil, List.sum_cons, List.sum_nil, va_rf_cat, x_catI, x_catL, x_catA] <;> decide)) d_Mod_place_3 (x_le0 hR3 hR4)) (fun H locs hH hS hz9 => ?_)
  have hz := hz9.trans hz
  refine x_if_eq C0 11 d_Mod_place_6 (by decide) h (fun h => ?_) (fun h => ?_)
  · refine x_aload_n C0 hl 0 d_Mod_place_11 rfl rfl ?_
    refine x_iload_n C0 hl 3 d_Mod_place_12 rfl rfl ?_
    refine lv_iconst (v := 0) C0.1 C0.2.1 d_Mod_place_13 (by decide) ?_
    refine lv_iconst (v := 4) C0.1 C0.2.1 d_Mod_place_14 (by decide) ?_
    obtain ⟨q_3, e9, h⟩ := Option.bind_eq_some_iff.mp h
    refine x_callP (va_runS (As := [.int x3, .int (0 : Int32), .int (4 : Int32)]) (rest := [va_rf (some h0)]) C0 (c_Mod_isIn l G q_1.2 _ x3 (0 : Int32) (4 : Int32) q_3 e9) (x_cwS 3 C0 kw_4_155 kw_4_157 kw_1_3 kw_4_156 (by decide +kernel) (x_rm hR1 hR2 (Nat.le_of_ble_eq_true rfl) (Nat.le_of_ble_eq_true rfl))) (x_preS hE hH hS) rfl rfl hl.1 rfl (lv_room (by first | exact Nat.le_of_ble_eq_true rfl | simp only [List.map_cons, List.map_nil, List.sum_cons, List.sum_nil, va_rf_cat, x_catI, x_catL, x_catA] <;> decide)) d_Mod_place_15 (x_le0 hR3 hR4)) ?_
    refine xj1 h (fun J_5 eJ_5 h => ?_)
    have kJ_5 : ∀ (x_4 : Int32) (ls : Array Slot), xL ls 4 [(0, .inr (.inl (some h0))), (1, .inl x1), (2, .inl x2), (3, .inl x3)] → J_5 x_4 = some res → W p l e R s m args below meth c H locs 0 0 Q (F0 m 26 ls [.int x_4, va_rf (some h0)]) := by
      intro x_4 ls hl h
      rw [eJ_5] at h
      refine x_put C0 hE hH hS (ci := 5) rfl i_Mod t_Mod t_Mod_ok n_Mod 0 (by decide) kw_4_79 rfl rfl rfl d_Mod_place_26 h (fun w_6 H locs hH hS hz9 h => ?_)
      have hz := hz9.trans hz
      refine x_aload_n C0 hl 0 d_Mod_place_29 rfl rfl ?_
      refine x_getI C0 hE hH (ci := 5) rfl i_Mod 0 (by decide) kw_4_79 d_Mod_place_30 h (fun v_7 h => ?_)
      refine x_if_le C0 38 d_Mod_place_33 (by decide) h (fun h => ?_) (fun h => ?_)
      · refine x_iload_n C0 hl 3 d_Mod_place_38 rfl rfl ?_
        refine x_if_ne C0 56 d_Mod_place_39 (by decide) h (fun h => ?_) (fun h => ?_)
        · refine x_iload_n C0 hl 3 d_Mod_place_56 rfl rfl ?_
          refine lv_iconst (v := 1) C0.1 C0.2.1 d_Mod_place_57 (by decide) ?_
          refine x_icmp_ne C0 78 d_Mod_place_58 (by decide) h (fun h => ?_) (fun h => ?_)
          · refine x_iload_n C0 hl 3 d_Mod_place_78 rfl rfl ?_
            refine lv_iconst (v := 2) C0.1 C0.2.1 d_Mod_place_79 (by decide) ?_
            refine x_icmp_ne C0 100 d_Mod_place_80 (by decide) h (fun h => ?_) (fun h => ?_)
            · refine x_iload_n C0 hl 3 d_Mod_place_100 rfl rfl ?_
              refine lv_iconst (v := 3) C0.1 C0.2.1 d_Mod_place_101 (by decide) ?_
              refine x_icmp_ne C0 114 d_Mod_place_102 (by decide) h (fun h => ?_) (fun h => ?_)
              · refine x_aload_n C0 hl 0 d_Mod_place_114 rfl rfl ?_
                refine x_iload_n C0 hl 1 d_Mod_place_115 rfl rfl ?_
                refine x_iload_n C0 hl 2 d_Mod_place_116 rfl rfl ?_
                obtain ⟨b_9, e9, h⟩ := Option.bind_eq_some_iff.mp h
                obtain ⟨e8, fs9, hb9⟩ := xo_inv e9
                obtain ⟨q_8, e9, h⟩ := Option.bind_eq_some_iff.mp h
                refine x_callP (va_runV (As := [.int x1, .int x2]) (rest := []) C0 (c_Mod_topOf l G w_6 _ b_9 x1 x2 q_8 e9) (x_cwV 2 C0 kw_4_206 kw_4_209 kw_1_3 kw_4_208 kw_0_22 (by decide +kernel) (x_rm hR1 hR2 (Nat.le_of_ble_eq_true rfl) (Nat.le_of_ble_eq_true rfl))) (x_preV hE hH hS (ci := 5) rfl hb9) rfl rfl hl.1 (by rw [e8]; rfl) (lv_room (by first | exact Nat.le_of_ble_eq_true rfl | simp only [List.map_cons, List.map_nil, List.sum_cons, List.sum_nil, va_rf_cat, x_catI, x_catL, x_catA] <;> decide)) d_Mod_place_117 (x_le0 hR3 hR4)) ?_
                cases h
                rw [hQ]
                exact x_iret C0 hr hlocks hH hS hz d_Mod_place_120
              · refine x_aload_n C0 hl 0 d_Mod_place_105 rfl rfl ?_
                refine x_iload_n C0 hl 1 d_Mod_place_106 rfl rfl ?_
                refine x_iload_n C0 hl 2 d_Mod_place_107 rfl rfl ?_
                obtain ⟨b_11, e9, h⟩ := Option.bind_eq_some_iff.mp h
                obtain ⟨e8, fs9, hb9⟩ := xo_inv e9
                obtain ⟨q_10, e9, h⟩ := Option.bind_eq_some_iff.mp h
                refine x_callP (va_runV (As := [.int x1, .int x2]) (rest := []) C0 (c_Mod_across l G w_6 _ b_11 x1 x2 q_10 e9) (x_cwV 2 C0 kw_4_198 kw_4_201 kw_1_3 kw_4_200 kw_0_20 (by decide +kernel) (x_rm hR1 hR2 (Nat.le_of_ble_eq_true rfl) (Nat.le_of_ble_eq_true rfl))) (x_preV hE hH hS (ci := 5) rfl hb9) rfl rfl hl.1 (by rw [e8]; rfl) (lv_room (by first | exact Nat.le_of_ble_eq_true rfl | simp only [List.map_cons, List.map_nil, List.sum_cons, List.sum_nil, va_rf_cat, x_catI, x_catL, x_catA] <;> decide)) d_Mod_place_108 (x_le0 hR3 hR4)) ?_
                refine x_goto C0 120 d_Mod_place_111 (by decide) ?_
                cases h
                rw [hQ]
                exact x_iret C0 hr hlocks hH hS hz d_Mod_place_120
            · refine x_aload_n C0 hl 0 d_Mod_place_83 rfl rfl ?_
              refine x_iload_n C0 hl 1 d_Mod_place_84 rfl rfl ?_
              refine x_iload_n C0 hl 2 d_Mod_place_85 rfl rfl ?_
              obtain ⟨b_13, e9, h⟩ := Option.bind_eq_some_iff.mp h
              obtain ⟨e8, fs9, hb9⟩ := xo_inv e9
              obtain ⟨q_12, e9, h⟩ := Option.bind_eq_some_iff.mp h
              refine x_callP (va_runV (As := [.int x1, .int x2]) (rest := []) C0 (c_Mod_isTurned l G w_6 _ b_13 x1 x2 q_12 e9) (x_cwV 2 C0 kw_4_194 kw_4_197 kw_1_3 kw_4_196 kw_0_19 (by decide +kernel) (x_rm hR1 hR2 (Nat.le_of_ble_eq_true rfl) (Nat.le_of_ble_eq_true rfl))) (x_preV hE hH hS (ci := 5) rfl hb9) rfl rfl hl.1 (by rw [e8]; rfl) (lv_room (by first | exact Nat.le_of_ble_eq_true rfl | simp only [List.map_cons, List.map_nil, List.sum_cons, List.sum_nil, va_rf_cat, x_catI, x_catL, x_catA] <;> decide)) d_Mod_place_86 (x_le0 hR3 hR4)) ?_
              refine x_if_eq C0 96 d_Mod_place_89 (by decide) h (fun h => ?_) (fun h => ?_)
              · refine lv_iconst (v := 0) C0.1 C0.2.1 d_Mod_place_96 (by decide) ?_
                refine x_goto C0 120 d_Mod_place_97 (by decide) ?_
                cases h
                rw [hQ]
                exact x_iret C0 hr hlocks hH hS hz d_Mod_place_120
              · refine lv_iconst (v := 1) C0.1 C0.2.1 d_Mod_place_92 (by decide) ?_
                refine x_goto C0 120 d_Mod_place_93 (by decide) ?_
                cases h
                rw [hQ]
                exact x_iret C0 hr hlocks hH hS hz d_Mod_place_120
          · refine x_aload_n C0 hl 0 d_Mod_place_61 rfl rfl ?_
            refine x_iload_n C0 hl 1 d_Mod_place_62 rfl rfl ?_
            refine x_iload_n C0 hl 2 d_Mod_place_63 rfl rfl ?_
            obtain ⟨b_15, e9, h⟩ := Option.bind_eq_some_iff.mp h
            obtain ⟨e8, fs9, hb9⟩ := xo_inv e9
            obtain ⟨q_14, e9, h⟩ := Option.bind_eq_some_iff.mp h
            refine x_callP (va_runV (As := [.int x1, .int x2]) (rest := []) C0 (c_Mod_isMirrored l G w_6 _ b_15 x1 x2 q_14 e9) (x_cwV 2 C0 kw_4_190 kw_4_193 kw_1_3 kw_4_192 kw_0_18 (by decide +kernel) (x_rm hR1 hR2 (Nat.le_of_ble_eq_true rfl) (Nat.le_of_ble_eq_true rfl))) (x_preV hE hH hS (ci := 5) rfl hb9) rfl rfl hl.1 (by rw [e8]; rfl) (lv_room (by first | exact Nat.le_of_ble_eq_true rfl | simp only [List.map_cons, List.map_nil, List.sum_cons, List.sum_nil, va_rf_cat, x_catI, x_catL, x_catA] <;> decide)) d_Mod_place_64 (x_le0 hR3 hR4)) ?_
            refine x_if_eq C0 74 d_Mod_place_67 (by decide) h (fun h => ?_) (fun h => ?_)
            · refine lv_iconst (v := 0) C0.1 C0.2.1 d_Mod_place_74 (by decide) ?_
              refine x_goto C0 120 d_Mod_place_75 (by decide) ?_
              cases h
              rw [hQ]
              exact x_iret C0 hr hlocks hH hS hz d_Mod_place_120
            · refine lv_iconst (v := 1) C0.1 C0.2.1 d_Mod_place_70 (by decide) ?_
              refine x_goto C0 120 d_Mod_place_71 (by decide) ?_
              cases h
              rw [hQ]
              exact x_iret C0 hr hlocks hH hS hz d_Mod_place_120
        · refine x_aload_n C0 hl 0 d_Mod_place_42 rfl rfl ?_
          refine x_getR C0 hE hH (ci := 5) rfl i_Mod 12 (by decide) kw_4_91 d_Mod_place_43 h (fun v_16 h => ?_)
          refine lv_bipush (v := 8) C0.1 C0.2.1 d_Mod_place_46 (by decide) ?_
          refine x_iload_n C0 hl 1 d_Mod_place_48 rfl rfl ?_
          refine lv_imul C0.1 C0.2.1 d_Mod_place_49 ?_
          refine x_iload_n C0 hl 2 d_Mod_place_50 rfl rfl ?_
          refine lv_iadd C0.1 C0.2.1 d_Mod_place_51 ?_
          refine x_iald C0 hE hH (t := 0) rfl d_Mod_place_52 h (fun v_17 h => ?_)
          refine x_goto C0 120 d_Mod_place_53 (by decide) ?_
          cases h
          rw [hQ]
          exact x_iret C0 hr hlocks hH hS hz d_Mod_place_120
      · refine lv_iconst (v := 0) C0.1 C0.2.1 d_Mod_place_36 (by decide) ?_
        cases h
        rw [hQ]
        exact x_iret C0 hr hlocks hH hS hz d_Mod_place_37
    refine x_if_eq C0 25 d_Mod_place_18 (by decide) h (fun h => ?_) (fun h => ?_)
    · refine lv_iconst (v := 2) C0.1 C0.2.1 d_Mod_place_25 (by decide) ?_
      exact kJ_5 _ ls (x_sub hl [0, 1, 2, 3] rfl) h
    · refine lv_iconst (v := 0) C0.1 C0.2.1 d_Mod_place_21 (by decide) ?_
      refine x_goto C0 26 d_Mod_place_22 (by decide) ?_
      exact kJ_5 _ ls (x_sub hl [0, 1, 2, 3] rfl) h
  · refine lv_iconst (v := 0) C0.1 C0.2.1 d_Mod_place_9 (by decide) ?_
    cases h
    rw [hQ]
    exact x_iret C0 hr hlocks hH hS hz d_Mod_place_10
theorem d_Mod_at_0 : decode b_Mod_at 0 = .ok (.aload_n 0, 1) := by decide +kernel
theorem d_Mod_at_1 : decode b_Mod_at 1 = .ok (.iload_n 1, 1) := by decide +kernel
theorem d_Mod_at_2 : decode b_Mod_at 2 = .ok (.invokevirtual 84, 3) := by decide +kernel
theorem d_Mod_at_5 : decode b_Mod_at 5 = .ok (.ifCond .eq 5, 3) := by decide +kernel
theorem d_Mod_at_8 : decode b_Mod_at 8 = .ok (.iconst 0, 1) := by decide +kernel
theorem d_Mod_at_9 : decode b_Mod_at 9 = .ok (.ireturn, 1) := by decide +kernel
theorem d_Mod_at_10 : decode b_Mod_at 10 = .ok (.iload_n 3, 1) := by decide +kernel
theorem d_Mod_at_11 : decode b_Mod_at 11 = .ok (.i2l, 1) := by decide +kernel
theorem d_Mod_at_12 : decode b_Mod_at 12 = .ok (.aload_n 0, 1) := by decide +kernel
theorem d_Mod_at_13 : decode b_Mod_at 13 = .ok (.iload_n 1, 1) := by decide +kernel
theorem d_Mod_at_14 : decode b_Mod_at 14 = .ok (.invokevirtual 125, 3) := by decide +kernel
theorem d_Mod_at_17 : decode b_Mod_at 17 = .ok (.i2l, 1) := by decide +kernel
theorem d_Mod_at_18 : decode b_Mod_at 18 = .ok (.ladd, 1) := by decide +kernel
theorem d_Mod_at_19 : decode b_Mod_at 19 = .ok (.lstore 4, 2) := by decide +kernel
theorem d_Mod_at_21 : decode b_Mod_at 21 = .ok (.iconst 0, 1) := by decide +kernel
theorem d_Mod_at_22 : decode b_Mod_at 22 = .ok (.istore 6, 2) := by decide +kernel
theorem d_Mod_at_24 : decode b_Mod_at 24 = .ok (.iload 6, 2) := by decide +kernel
theorem d_Mod_at_26 : decode b_Mod_at 26 = .ok (.aload_n 0, 1) := by decide +kernel
theorem d_Mod_at_27 : decode b_Mod_at 27 = .ok (.getfield 35, 3) := by decide +kernel
theorem d_Mod_at_30 : decode b_Mod_at 30 = .ok (.iload_n 1, 1) := by decide +kernel
theorem d_Mod_at_31 : decode b_Mod_at 31 = .ok (.iaload, 1) := by decide +kernel
theorem d_Mod_at_32 : decode b_Mod_at 32 = .ok (.if_icmp .ge 91, 3) := by decide +kernel
theorem d_Mod_at_35 : decode b_Mod_at 35 = .ok (.iload_n 2, 1) := by decide +kernel
theorem d_Mod_at_36 : decode b_Mod_at 36 = .ok (.i2l, 1) := by decide +kernel
theorem d_Mod_at_37 : decode b_Mod_at 37 = .ok (.aload_n 0, 1) := by decide +kernel
theorem d_Mod_at_38 : decode b_Mod_at 38 = .ok (.iload_n 1, 1) := by decide +kernel
theorem d_Mod_at_39 : decode b_Mod_at 39 = .ok (.iload 6, 2) := by decide +kernel
theorem d_Mod_at_41 : decode b_Mod_at 41 = .ok (.invokevirtual 122, 3) := by decide +kernel
theorem d_Mod_at_44 : decode b_Mod_at 44 = .ok (.i2l, 1) := by decide +kernel
theorem d_Mod_at_45 : decode b_Mod_at 45 = .ok (.lsub, 1) := by decide +kernel
theorem d_Mod_at_46 : decode b_Mod_at 46 = .ok (.lstore 7, 2) := by decide +kernel
theorem d_Mod_at_48 : decode b_Mod_at 48 = .ok (.lload 4, 2) := by decide +kernel
theorem d_Mod_at_50 : decode b_Mod_at 50 = .ok (.aload_n 0, 1) := by decide +kernel
theorem d_Mod_at_51 : decode b_Mod_at 51 = .ok (.iload_n 1, 1) := by decide +kernel
theorem d_Mod_at_52 : decode b_Mod_at 52 = .ok (.iload 6, 2) := by decide +kernel
theorem d_Mod_at_54 : decode b_Mod_at 54 = .ok (.invokevirtual 116, 3) := by decide +kernel
theorem d_Mod_at_57 : decode b_Mod_at 57 = .ok (.i2l, 1) := by decide +kernel
theorem d_Mod_at_58 : decode b_Mod_at 58 = .ok (.lsub, 1) := by decide +kernel
theorem d_Mod_at_59 : decode b_Mod_at 59 = .ok (.lstore 9, 2) := by decide +kernel
theorem d_Mod_at_61 : decode b_Mod_at 61 = .ok (.lload 7, 2) := by decide +kernel
theorem d_Mod_at_63 : decode b_Mod_at 63 = .ok (.lconst 0, 1) := by decide +kernel
theorem d_Mod_at_64 : decode b_Mod_at 64 = .ok (.lcmp, 1) := by decide +kernel
theorem d_Mod_at_65 : decode b_Mod_at 65 = .ok (.ifCond .lt 52, 3) := by decide +kernel
theorem d_Mod_at_68 : decode b_Mod_at 68 = .ok (.lload 7, 2) := by decide +kernel
theorem d_Mod_at_70 : decode b_Mod_at 70 = .ok (.aload_n 0, 1) := by decide +kernel
theorem d_Mod_at_71 : decode b_Mod_at 71 = .ok (.iload_n 1, 1) := by decide +kernel
theorem d_Mod_at_72 : decode b_Mod_at 72 = .ok (.iload 6, 2) := by decide +kernel
theorem d_Mod_at_74 : decode b_Mod_at 74 = .ok (.invokevirtual 102, 3) := by decide +kernel
theorem d_Mod_at_77 : decode b_Mod_at 77 = .ok (.i2l, 1) := by decide +kernel
theorem d_Mod_at_78 : decode b_Mod_at 78 = .ok (.lcmp, 1) := by decide +kernel
theorem d_Mod_at_79 : decode b_Mod_at 79 = .ok (.ifCond .ge 38, 3) := by decide +kernel
theorem d_Mod_at_82 : decode b_Mod_at 82 = .ok (.lload 9, 2) := by decide +kernel
theorem d_Mod_at_84 : decode b_Mod_at 84 = .ok (.lconst 0, 1) := by decide +kernel
theorem d_Mod_at_85 : decode b_Mod_at 85 = .ok (.lcmp, 1) := by decide +kernel
theorem d_Mod_at_86 : decode b_Mod_at 86 = .ok (.ifCond .lt 31, 3) := by decide +kernel
theorem d_Mod_at_89 : decode b_Mod_at 89 = .ok (.lload 9, 2) := by decide +kernel
theorem d_Mod_at_91 : decode b_Mod_at 91 = .ok (.aload_n 0, 1) := by decide +kernel
theorem d_Mod_at_92 : decode b_Mod_at 92 = .ok (.iload_n 1, 1) := by decide +kernel
theorem d_Mod_at_93 : decode b_Mod_at 93 = .ok (.iload 6, 2) := by decide +kernel
theorem d_Mod_at_95 : decode b_Mod_at 95 = .ok (.invokevirtual 99, 3) := by decide +kernel
theorem d_Mod_at_98 : decode b_Mod_at 98 = .ok (.i2l, 1) := by decide +kernel
theorem d_Mod_at_99 : decode b_Mod_at 99 = .ok (.lcmp, 1) := by decide +kernel
theorem d_Mod_at_100 : decode b_Mod_at 100 = .ok (.ifCond .ge 17, 3) := by decide +kernel
theorem d_Mod_at_103 : decode b_Mod_at 103 = .ok (.aload_n 0, 1) := by decide +kernel
theorem d_Mod_at_104 : decode b_Mod_at 104 = .ok (.iload_n 1, 1) := by decide +kernel
theorem d_Mod_at_105 : decode b_Mod_at 105 = .ok (.iload 6, 2) := by decide +kernel
theorem d_Mod_at_107 : decode b_Mod_at 107 = .ok (.lload 7, 2) := by decide +kernel
theorem d_Mod_at_109 : decode b_Mod_at 109 = .ok (.l2i, 1) := by decide +kernel
theorem d_Mod_at_110 : decode b_Mod_at 110 = .ok (.lload 9, 2) := by decide +kernel
theorem d_Mod_at_112 : decode b_Mod_at 112 = .ok (.l2i, 1) := by decide +kernel
theorem d_Mod_at_113 : decode b_Mod_at 113 = .ok (.invokevirtual 105, 3) := by decide +kernel
theorem d_Mod_at_116 : decode b_Mod_at 116 = .ok (.ireturn, 1) := by decide +kernel
theorem d_Mod_at_117 : decode b_Mod_at 117 = .ok (.iinc 6 1, 3) := by decide +kernel
theorem d_Mod_at_120 : decode b_Mod_at 120 = .ok (.goto (-96), 3) := by decide +kernel
theorem d_Mod_at_123 : decode b_Mod_at 123 = .ok (.iconst (-1), 1) := by decide +kernel
theorem d_Mod_at_124 : decode b_Mod_at 124 = .ok (.ireturn, 1) := by decide +kernel
def f_Mod_at_L24 (w : Mp) (h0 : Nat) (x1 : Int32) (x2 : Int32) (y4 : Int64) : Nat → Int32 → Option (Nat × Int32 × Int64 × Int64)
  | 0, _ => none
  | n + 1, x6 => (gR w (some h0) 5 11).bind fun v_5 => (aI w v_5 0 x1).bind fun v_6 => if v_6 ≤ x6 then (some (0, x6, 0, 0)) else ((xo w (some h0) 5).bind fun b_8 => (f_Mod_across w b_8 x1 x6).bind fun q_7 => (xo w (some h0) 5).bind fun b_10 => (f_Mod_topOf w b_10 x1 x6).bind fun q_9 => if (lg_cmp (x2.toInt64 - q_7.toInt64) (0 : Int64)) < 0 then (f_Mod_at_L24 w h0 x1 x2 y4 n (x6 + 1)) else ((xo w (some h0) 5).bind fun b_12 => (f_Mod_wide w b_12 x1 x6).bind fun q_11 => if 0 ≤ (lg_cmp (x2.toInt64 - q_7.toInt64) q_11.toInt64) then (f_Mod_at_L24 w h0 x1 x2 y4 n (x6 + 1)) else (if (lg_cmp (y4 - q_9.toInt64) (0 : Int64)) < 0 then (f_Mod_at_L24 w h0 x1 x2 y4 n (x6 + 1)) else ((xo w (some h0) 5).bind fun b_14 => (f_Mod_high w b_14 x1 x6).bind fun q_13 => if 0 ≤ (lg_cmp (y4 - q_9.toInt64) q_13.toInt64) then (f_Mod_at_L24 w h0 x1 x2 y4 n (x6 + 1)) else (some (1, x6, x2.toInt64 - q_7.toInt64, y4 - q_9.toInt64))))))
set_option maxHeartbeats 4000000 in
set_option maxRecDepth 100000 in
theorem w_Mod_at_L24 {p : Program} {l : Launch} {e : Env} {R : Room} {s : State} {m : MethodId} {args : Array Value} {below : List Frame} {meth : Method} {c : Code} {Q : State → Prop} {cells slots sz : Nat} {G : Gx} {h0 : Nat} {x1 : Int32} {x2 : Int32} {y4 : Int64} (C0 : CallFix p m c b_Mod_at 11 s args wA R_Mod) (hE : xE G vwCl xaty s) (hR1 : 6 ≤ R.frames) (hR2 : 153 ≤ R.locals) (hR3 : cells ≤ R.cells) (hR4 : slots ≤ R.slots) {w : Mp} {H : Heap} {locs : List Loc} (hH : xhd G vwCl w H) (hS : xS G s H locs) (hz : H.size = sz) : ∀ (n : Nat) (x6 : Int32) (q : Nat × Int32 × Int64 × Int64) (ls : Array Slot), xL ls 11 [(0, .inr (.inl (some h0))), (1, .inl x1), (2, .inl x2), (4, .inr (.inr y4)), (6, .inl x6)] → f_Mod_at_L24 w h0 x1 x2 y4 n x6 = some q → ((q.1 = 0 → ∀ (ls : Array Slot), xL ls 11 [(0, .inr (.inl (some h0))), (1, .inl x1), (2, .inl x2), (4, .inr (.inr y4)), (6, .inl q.2.1)] → W p l e R s m args below meth c H locs cells slots Q (F0 m 123 ls [])) ∧ (q.1 = 1 → ∀ (ls : Array Slot), xL ls 11 [(0, .inr (.inl (some h0))), (1, .inl x1), (2, .inl x2), (4, .inr (.inr y4)), (6, .inl q.2.1), (7, .inr (.inr q.2.2.1)), (9, .inr (.inr q.2.2.2))] → W p l e R s m args below meth c H locs cells slots Q (F0 m 103 ls []))) → W p l e R s m args below meth c H locs cells slots Q (F0 m 24 ls []) := by
  intro n
  induction n with
  | zero => intro _ q ls hl h; cases h
  | succ n ih =>
    intro x6 q ls hl h K
    rw [f_Mod_at_L24] at h
    refine x_iload C0 hl 4 d_Mod_at_24 rfl ?_
    refine x_aload_n C0 hl 0 d_Mod_at_26 rfl rfl ?_
    refine x_getR C0 hE hH (ci := 5) rfl i_Mod 11 (by decide) kw_4_90 d_Mod_at_27 h (fun v_5 h => ?_)
    refine x_iload_n C0 hl 1 d_Mod_at_30 rfl rfl ?_
    refine x_iald C0 hE hH (t := 0) rfl d_Mod_at_31 h (fun v_6 h => ?_)
    refine x_icmp_ge C0 123 d_Mod_at_32 (by decide) h (fun h => ?_) (fun h => ?_)
    · cases h
      exact K.1 rfl ls (x_sub hl [0, 1, 2, 3, 4] rfl)
    · refine x_iload_n C0 hl 2 d_Mod_at_35 rfl rfl ?_
      refine lv_i2l C0.1 C0.2.1 d_Mod_at_36 rfl ?_
      refine x_aload_n C0 hl 0 d_Mod_at_37 rfl rfl ?_
      refine x_iload_n C0 hl 1 d_Mod_at_38 rfl rfl ?_
      refine x_iload C0 hl 4 d_Mod_at_39 rfl ?_
      obtain ⟨b_8, e9, h⟩ := Option.bind_eq_some_iff.mp h
      obtain ⟨e8, fs9, hb9⟩ := xo_inv e9
      obtain ⟨q_7, e9, h⟩ := Option.bind_eq_some_iff.mp h
      refine x_callP (va_runV (As := [.int x1, .int x6]) (rest := [.long x2.toInt64]) C0 (c_Mod_across l G w _ b_8 x1 x6 q_7 e9) (x_cwV 2 C0 kw_4_198 kw_4_201 kw_1_3 kw_4_200 kw_0_20 (by decide +kernel) (x_rm hR1 hR2 (Nat.le_of_ble_eq_true rfl) (Nat.le_of_ble_eq_true rfl))) (x_preV hE hH hS (ci := 5) rfl hb9) rfl rfl hl.1 (by rw [e8]; rfl) (lv_room (by first | exact Nat.le_of_ble_eq_true rfl | simp only [List.map_cons, List.map_nil, List.sum_cons, List.sum_nil, va_rf_cat, x_catI, x_catL, x_catA] <;> decide)) d_Mod_at_41 (x_le0 hR3 hR4)) ?_
      refine lv_i2l C0.1 C0.2.1 d_Mod_at_44 rfl ?_
      refine lv_lsub C0.1 C0.2.1 d_Mod_at_45 ?_
      refine x_lstore (lv' := [(7, .inr (.inr (x2.toInt64 - q_7.toInt64))), (0, .inr (.inl (some h0))), (1, .inl x1), (2, .inl x2), (4, .inr (.inr y4)), (6, .inl x6)]) C0 hl d_Mod_at_46 (by decide) rfl (fun ls hl => ?_)
      refine x_lload C0 hl 4 d_Mod_at_48 rfl ?_
      refine x_aload_n C0 hl 1 d_Mod_at_50 rfl rfl ?_
      refine x_iload_n C0 hl 2 d_Mod_at_51 rfl rfl ?_
      refine x_iload C0 hl 5 d_Mod_at_52 rfl ?_
      obtain ⟨b_10, e9, h⟩ := Option.bind_eq_some_iff.mp h
      obtain ⟨e8, fs9, hb9⟩ := xo_inv e9
      obtain ⟨q_9, e9, h⟩ := Option.bind_eq_some_iff.mp h
      refine x_callP (va_runV (As := [.int x1, .int x6]) (rest := [.long y4]) C0 (c_Mod_topOf l G w _ b_10 x1 x6 q_9 e9) (x_cwV 2 C0 kw_4_206 kw_4_209 kw_1_3 kw_4_208 kw_0_22 (by decide +kernel) (x_rm hR1 hR2 (Nat.le_of_ble_eq_true rfl) (Nat.le_of_ble_eq_true rfl))) (x_preV hE hH hS (ci := 5) rfl hb9) rfl rfl hl.1 (by rw [e8]; rfl) (lv_room (by first | exact Nat.le_of_ble_eq_true rfl | simp only [List.map_cons, List.map_nil, List.sum_cons, List.sum_nil, va_rf_cat, x_catI, x_catL, x_catA] <;> decide)) d_Mod_at_54 (x_le0 hR3 hR4)) ?_
      refine lv_i2l C0.1 C0.2.1 d_Mod_at_57 rfl ?_
      refine lv_lsub C0.1 C0.2.1 d_Mod_at_58 ?_
      refine x_lstore (lv' := [(9, .inr (.inr (y4 - q_9.toInt64))), (7, .inr (.inr (x2.toInt64 - q_7.toInt64))), (0, .inr (.inl (some h0))), (1, .inl x1), (2, .inl x2), (4, .inr (.inr y4)), (6, .inl x6)]) C0 hl d_Mod_at_59 (by decide) rfl (fun ls hl => ?_)
      refine x_lload C0 hl 1 d_Mod_at_61 rfl ?_
      refine lv_lconst (v := 0) C0.1 C0.2.1 d_Mod_at_63 (by decide) ?_
      refine W.lcmp C0.1 C0.2.1 d_Mod_at_64 ?_
      refine x_if_lt C0 117 d_Mod_at_65 (by decide) h (fun h => ?_) (fun h => ?_)
      · refine x_iinc (v := 1) (lv' := [(6, .inl (x6 + 1)), (9, .inr (.inr (y4 - q_9.toInt64))), (7, .inr (.inr (x2.toInt64 - q_7.toInt64))), (0, .inr (.inl (some h0))), (1, .inl x1), (2, .inl x2), (4, .inr (.inr y4))]) C0 hl 6 d_Mod_at_117 rfl (by decide) (by decide) rfl (fun ls hl => ?_)
        refine x_goto C0 24 d_Mod_at_120 (by decide) ?_
        exact ih _ q ls (x_sub hl [3, 4, 5, 6, 0] rfl) h K
      · refine x_lload C0 hl 1 d_Mod_at_68 rfl ?_
        refine x_aload_n C0 hl 2 d_Mod_at_70 rfl rfl ?_
        refine x_iload_n C0 hl 3 d_Mod_at_71 rfl rfl ?_
        refine x_iload C0 hl 6 d_Mod_at_72 rfl ?_
        obtain ⟨b_12, e9, h⟩ := Option.bind_eq_some_iff.mp h
        obtain ⟨e8, fs9, hb9⟩ := xo_inv e9
        obtain ⟨q_11, e9, h⟩ := Option.bind_eq_some_iff.mp h
        refine x_callP (va_runV (As := [.int x1, .int x6]) (rest := [.long (x2.toInt64 - q_7.toInt64)]) C0 (c_Mod_wide l G w _ b_12 x1 x6 q_11 e9) (x_cwV 2 C0 kw_4_202 kw_4_205 kw_1_3 kw_4_204 kw_0_21 (by decide +kernel) (x_rm hR1 hR2 (Nat.le_of_ble_eq_true rfl) (Nat.le_of_ble_eq_true rfl))) (x_preV hE hH hS (ci := 5) rfl hb9) rfl rfl hl.1 (by rw [e8]; rfl) (lv_room (by first | exact Nat.le_of_ble_eq_true rfl | simp only [List.map_cons, List.map_nil, List.sum_cons, List.sum_nil, va_rf_cat, x_catI, x_catL, x_catA] <;> decide)) d_Mod_at_74 (x_le0 hR3 hR4)) ?_
        refine lv_i2l C0.1 C0.2.1 d_Mod_at_77 rfl ?_
        refine W.lcmp C0.1 C0.2.1 d_Mod_at_78 ?_
        refine x_if_ge C0 117 d_Mod_at_79 (by decide) h (fun h => ?_) (fun h => ?_)
        · refine x_iinc (v := 1) (lv' := [(6, .inl (x6 + 1)), (9, .inr (.inr (y4 - q_9.toInt64))), (7, .inr (.inr (x2.toInt64 - q_7.toInt64))), (0, .inr (.inl (some h0))), (1, .inl x1), (2, .inl x2), (4, .inr (.inr y4))]) C0 hl 6 d_Mod_at_117 rfl (by decide) (by decide) rfl (fun ls hl => ?_)
          refine x_goto C0 24 d_Mod_at_120 (by decide) ?_
          exact ih _ q ls (x_sub hl [3, 4, 5, 6, 0] rfl) h K
        · refine x_lload C0 hl 0 d_Mod_at_82 rfl ?_
          refine lv_lconst (v := 0) C0.1 C0.2.1 d_Mod_at_84 (by decide) ?_
          refine W.lcmp C0.1 C0.2.1 d_Mod_at_85 ?_
          refine x_if_lt C0 117 d_Mod_at_86 (by decide) h (fun h => ?_) (fun h => ?_)
          · refine x_iinc (v := 1) (lv' := [(6, .inl (x6 + 1)), (9, .inr (.inr (y4 - q_9.toInt64))), (7, .inr (.inr (x2.toInt64 - q_7.toInt64))), (0, .inr (.inl (some h0))), (1, .inl x1), (2, .inl x2), (4, .inr (.inr y4))]) C0 hl 6 d_Mod_at_117 rfl (by decide) (by decide) rfl (fun ls hl => ?_)
            refine x_goto C0 24 d_Mod_at_120 (by decide) ?_
            exact ih _ q ls (x_sub hl [3, 4, 5, 6, 0] rfl) h K
          · refine x_lload C0 hl 0 d_Mod_at_89 rfl ?_
            refine x_aload_n C0 hl 2 d_Mod_at_91 rfl rfl ?_
            refine x_iload_n C0 hl 3 d_Mod_at_92 rfl rfl ?_
            refine x_iload C0 hl 6 d_Mod_at_93 rfl ?_
            obtain ⟨b_14, e9, h⟩ := Option.bind_eq_some_iff.mp h
            obtain ⟨e8, fs9, hb9⟩ := xo_inv e9
            obtain ⟨q_13, e9, h⟩ := Option.bind_eq_some_iff.mp h
            refine x_callP (va_runV (As := [.int x1, .int x6]) (rest := [.long (y4 - q_9.toInt64)]) C0 (c_Mod_high l G w _ b_14 x1 x6 q_13 e9) (x_cwV 2 C0 kw_4_210 kw_4_213 kw_1_3 kw_4_212 kw_0_23 (by decide +kernel) (x_rm hR1 hR2 (Nat.le_of_ble_eq_true rfl) (Nat.le_of_ble_eq_true rfl))) (x_preV hE hH hS (ci := 5) rfl hb9) rfl rfl hl.1 (by rw [e8]; rfl) (lv_room (by first | exact Nat.le_of_ble_eq_true rfl | simp only [List.map_cons, List.map_nil, List.sum_cons, List.sum_nil, va_rf_cat, x_catI, x_catL, x_catA] <;> decide)) d_Mod_at_95 (x_le0 hR3 hR4)) ?_
            refine lv_i2l C0.1 C0.2.1 d_Mod_at_98 rfl ?_
            refine W.lcmp C0.1 C0.2.1 d_Mod_at_99 ?_
            refine x_if_ge C0 117 d_Mod_at_100 (by decide) h (fun h => ?_) (fun h => ?_)
            · refine x_iinc (v := 1) (lv' := [(6, .inl (x6 + 1)), (9, .inr (.inr (y4 - q_9.toInt64))), (7, .inr (.inr (x2.toInt64 - q_7.toInt64))), (0, .inr (.inl (some h0))), (1, .inl x1), (2, .inl x2), (4, .inr (.inr y4))]) C0 hl 6 d_Mod_at_117 rfl (by decide) (by decide) rfl (fun ls hl => ?_)
              refine x_goto C0 24 d_Mod_at_120 (by decide) ?_
              exact ih _ q ls (x_sub hl [3, 4, 5, 6, 0] rfl) h K
            · cases h
              exact K.2 rfl ls (x_sub hl [2, 3, 4, 5, 6, 1, 0] rfl)
def f_Mod_at (w : Mp) (h0 : Nat) (x1 : Int32) (x2 : Int32) (x3 : Int32) : Option (Int32 × Mp) := (xo w (some h0) 5).bind fun b_2 => (f_Mod_noFace w b_2 x1).bind fun q_1 => if q_1.1 = 0 then ((xo q_1.2 (some h0) 5).bind fun b_4 => (f_Mod_leastTop q_1.2 b_4 x1).bind fun q_3 => (f_Mod_at_L24 q_1.2 h0 x1 x2 (x3.toInt64 + q_3.toInt64) 100000 (0 : Int32)).bind fun q_15 => if q_15.1 = 0 then (some ((-1 : Int32), q_1.2)) else (if q_15.1 = 1 then ((xo q_1.2 (some h0) 5).bind fun b_17 => (f_Mod_grey q_1.2 b_17 x1 q_15.2.1 q_15.2.2.1.toInt32 q_15.2.2.2.toInt32).bind fun q_16 => some (q_16, q_1.2)) else (none))) else (some ((0 : Int32), q_1.2))
set_option maxHeartbeats 4000000 in
set_option maxRecDepth 100000 in
theorem c_Mod_at (l : Launch) (G : Gx) (w : Mp) (sz : Nat) (h0 : Nat) (x1 : Int32) (x2 : Int32) (x3 : Int32) (res : Int32 × Mp) (hf : f_Mod_at w h0 x1 x2 x3 = some res) : Met l y_Mod_at (xws y_Mod_at b_Mod_at 11 (some .int)) { frames := 6, cells := 0, slots := 0, locals := 153 } (xPc G vwCl xaty w sz [va_rf (some h0), .int x1, .int x2, .int x3]) (xQ G vwCl (some (.int res.1)) res.2 sz) (0) (0) (xA G) := by
  refine Met.ofW (cc := b_Mod_at) (maxL := 11) (ret := (some .int)) (by decide) rfl ?_
  intro p e s m args below meth c s₁ B hml hv
  obtain ⟨ha, hE, hH, hz⟩ := hv
  have C0 : CallFix p m c b_Mod_at 11 s args wA R_Mod := ⟨B.exec, B.bytes, hml, findClass_of_methodNamed B.named, fun w hw => atoms_spec (ws := xws y_Mod_at b_Mod_at 11 (some .int)) B.pre w (List.mem_cons_of_mem _ hw)⟩
  have hr := B.returns
  have hlocks := B.notSynchronized
  obtain ⟨R, hR⟩ : ∃ R, R = (headSpec (xws y_Mod_at b_Mod_at 11 (some .int)) { frames := 6, cells := 0, slots := 0, locals := 153 }).room := ⟨_, rfl⟩
  have hR1 : 6 ≤ R.frames := by rw [hR]; exact Nat.le_of_ble_eq_true rfl
  have hR2 : 153 ≤ R.locals := by rw [hR]; exact Nat.le_of_ble_eq_true rfl
  have hR3 : 0 ≤ R.cells := by rw [hR]; exact Nat.le_refl _
  have hR4 : 0 ≤ R.slots := by rw [hR]; exact Nat.le_refl _
  rw [← hR]
  obtain ⟨Q, hQ⟩ : ∃ Q, Q = MQ below (xQ G vwCl (some (.int res.1)) res.2 sz) args s (0) (0) (xA G) := ⟨_, rfl⟩
  rw [← hQ]
  have hS : xS G s s.heap [] := va_S.rf
  obtain ⟨ls, he, hl⟩ := x_entry m [.inr (.inl (some h0)), .inl x1, .inl x2, .inl x3] 11 (Nat.le_of_ble_eq_true rfl)
  rw [show entryFrame m args 11 = F0 m 0 ls [] by rw [ha]; exact he]
  have hl : xL ls 11 [(0, .inr (.inl (some h0))), (1, .inl x1), (2, .inl x2), (3, .inl x3)] := hl
  have h := hf
  unfold f_Mod_at at h
  suffices hmain : ∀ (H : Heap) (locs : List Loc), xhd G vwCl w H → xS G s H locs → H.size = sz → (H = s.heap ∧ locs = []) → W p l e R s m args below meth c H locs 0 0 Q (F0 m 0 ls []) from hmain _ _ hH hS hz ⟨rfl, rfl⟩
  clear hH hS hz
  intro H locs hH hS hz hP0
  refine x_aload_n C0 hl 0 d_Mod_at_0 rfl rfl ?_
  refine x_iload_n C0 hl 1 d_Mod_at_1 rfl rfl ?_
  obtain ⟨b_2, e9, h⟩ := Option.bind_eq_some_iff.mp h
  obtain ⟨e8, fs9, hb9⟩ := xo_inv e9
  obtain ⟨q_1, e9, h⟩ := Option.bind_eq_some_iff.mp h
  refine x_call0 hS (va_runV (As := [.int x1]) (rest := []) C0 (c_Mod_noFace l G w _ b_2 x1 q_1 e9) (x_cwV 1 C0 kw_4_178 kw_4_181 kw_1_3 kw_4_180 kw_0_16 (by decide +kernel) (x_rm hR1 hR2 (Nat.le_of_ble_eq_true rfl) (Nat.le_of_ble_eq_true rfl))) (x_preV hE hH hS (ci := 5) rfl hb9) rfl rfl hl.1 (by rw [e8]; rfl) (lv_room (by first | exact Nat.le_of_ble_eq_true rfl | simp only [List.map_cons, List.map_nil, List.sum_cons, List.sum_nil, va_rf_cat, x_catI, x_catL, x_catA] <;> decide)) d_Mod_at_2 (x_le0 hR3 hR4)) (fun H locs hH hS hz9 => ?_)
  have hz := hz9.trans hz
  refine x_if_eq C0 10 d_Mod_at_5 (by decide) h (fun h => ?_) (fun h => ?_)
  · refine x_iload_n C0 hl 3 d_Mod_at_10 rfl rfl ?_
    refine lv_i2l C0.1 C0.2.1 d_Mod_at_11 rfl ?_
    refine x_aload_n C0 hl 0 d_Mod_at_12 rfl rfl ?_
    refine x_iload_n C0 hl 1 d_Mod_at_13 rfl rfl ?_
    obtain ⟨b_4, e9, h⟩ := Option.bind_eq_some_iff.mp h
    obtain ⟨e8, fs9, hb9⟩ := xo_inv e9
    obtain ⟨q_3, e9, h⟩ := Option.bind_eq_some_iff.mp h
    refine x_callP (va_runV (As := [.int x1]) (rest := [.long x3.toInt64]) C0 (c_Mod_leastTop l G q_1.2 _ b_4 x1 q_3 e9) (x_cwV 1 C0 kw_4_234 kw_4_237 kw_1_3 kw_4_236 kw_0_28 (by decide +kernel) (x_rm hR1 hR2 (Nat.le_of_ble_eq_true rfl) (Nat.le_of_ble_eq_true rfl))) (x_preV hE hH hS (ci := 5) rfl hb9) rfl rfl hl.1 (by rw [e8]; rfl) (lv_room (by first | exact Nat.le_of_ble_eq_true rfl | simp only [List.map_cons, List.map_nil, List.sum_cons, List.sum_nil, va_rf_cat, x_catI, x_catL, x_catA] <;> decide)) d_Mod_at_14 (x_le0 hR3 hR4)) ?_
    refine lv_i2l C0.1 C0.2.1 d_Mod_at_17 rfl ?_
    refine lv_ladd C0.1 C0.2.1 d_Mod_at_18 ?_
    refine x_lstore (lv' := [(4, .inr (.inr (x3.toInt64 + q_3.toInt64))), (0, .inr (.inl (some h0))), (1, .inl x1), (2, .inl x2), (3, .inl x3)]) C0 hl d_Mod_at_19 (by decide) rfl (fun ls hl => ?_)
    refine lv_iconst (v := 0) C0.1 C0.2.1 d_Mod_at_21 (by decide) ?_
    refine x_istore (lv' := [(6, .inl (0 : Int32)), (4, .inr (.inr (x3.toInt64 + q_3.toInt64))), (0, .inr (.inl (some h0))), (1, .inl x1), (2, .inl x2), (3, .inl x3)]) C0 hl d_Mod_at_22 (by decide) rfl (fun ls hl => ?_)
    obtain ⟨q_15, e9, h⟩ := Option.bind_eq_some_iff.mp h
    refine w_Mod_at_L24 C0 hE hR1 hR2 hR3 hR4 hH hS hz 100000 _ q_15 ls (x_sub hl [2, 3, 4, 1, 0] rfl) e9 ⟨fun z9 ls hl => ?_, fun z9 ls hl => ?_⟩
    · rw [if_pos z9] at h
      refine lv_iconst (v := -1) C0.1 C0.2.1 d_Mod_at_123 (by decide) ?_
      cases h
      rw [hQ]
      exact x_iret C0 hr hlocks hH hS hz d_Mod_at_124
    · rw [if_neg (by rw [z9]; decide), if_pos z9] at h
      refine x_aload_n C0 hl 0 d_Mod_at_103 rfl rfl ?_
      refine x_iload_n C0 hl 1 d_Mod_at_104 rfl rfl ?_
      refine x_iload C0 hl 4 d_Mod_at_105 rfl ?_
      refine x_lload C0 hl 5 d_Mod_at_107 rfl ?_
      refine lv_l2i C0.1 C0.2.1 d_Mod_at_109 rfl ?_
      refine x_lload C0 hl 6 d_Mod_at_110 rfl ?_
      refine lv_l2i C0.1 C0.2.1 d_Mod_at_112 rfl ?_
      obtain ⟨b_17, e9, h⟩ := Option.bind_eq_some_iff.mp h
      obtain ⟨e8, fs9, hb9⟩ := xo_inv e9
      obtain ⟨q_16, e9, h⟩ := Option.bind_eq_some_iff.mp h
      refine x_callP (va_runV (As := [.int x1, .int q_15.2.1, .int q_15.2.2.1.toInt32, .int q_15.2.2.2.toInt32]) (rest := []) C0 (c_Mod_grey l G q_1.2 _ b_17 x1 q_15.2.1 q_15.2.2.1.toInt32 q_15.2.2.2.toInt32 q_16 e9) (x_cwV 4 C0 kw_4_226 kw_4_229 kw_1_3 kw_4_228 kw_0_27 (by decide +kernel) (x_rm hR1 hR2 (Nat.le_of_ble_eq_true rfl) (Nat.le_of_ble_eq_true rfl))) (x_preV hE hH hS (ci := 5) rfl hb9) rfl rfl hl.1 (by rw [e8]; rfl) (lv_room (by first | exact Nat.le_of_ble_eq_true rfl | simp only [List.map_cons, List.map_nil, List.sum_cons, List.sum_nil, va_rf_cat, x_catI, x_catL, x_catA] <;> decide)) d_Mod_at_113 (x_le0 hR3 hR4)) ?_
      cases h
      rw [hQ]
      exact x_iret C0 hr hlocks hH hS hz d_Mod_at_116
  · refine lv_iconst (v := 0) C0.1 C0.2.1 d_Mod_at_8 (by decide) ?_
    cases h
    rw [hQ]
    exact x_iret C0 hr hlocks hH hS hz d_Mod_at_9
theorem d_Mod_about_0 : decode b_Mod_about 0 = .ok (.aload_n 0, 1) := by decide +kernel
theorem d_Mod_about_1 : decode b_Mod_about 1 = .ok (.iload_n 1, 1) := by decide +kernel
theorem d_Mod_about_2 : decode b_Mod_about 2 = .ok (.invokevirtual 84, 3) := by decide +kernel
theorem d_Mod_about_5 : decode b_Mod_about 5 = .ok (.ifCond .eq 5, 3) := by decide +kernel
theorem d_Mod_about_8 : decode b_Mod_about 8 = .ok (.iconst 0, 1) := by decide +kernel
theorem d_Mod_about_9 : decode b_Mod_about 9 = .ok (.ireturn, 1) := by decide +kernel
theorem d_Mod_about_10 : decode b_Mod_about 10 = .ok (.aload_n 0, 1) := by decide +kernel
theorem d_Mod_about_11 : decode b_Mod_about 11 = .ok (.iload_n 2, 1) := by decide +kernel
theorem d_Mod_about_12 : decode b_Mod_about 12 = .ok (.iconst 0, 1) := by decide +kernel
theorem d_Mod_about_13 : decode b_Mod_about 13 = .ok (.iconst 3, 1) := by decide +kernel
theorem d_Mod_about_14 : decode b_Mod_about 14 = .ok (.invokestatic 66, 3) := by decide +kernel
theorem d_Mod_about_17 : decode b_Mod_about 17 = .ok (.ifCond .eq 7, 3) := by decide +kernel
theorem d_Mod_about_20 : decode b_Mod_about 20 = .ok (.iconst 0, 1) := by decide +kernel
theorem d_Mod_about_21 : decode b_Mod_about 21 = .ok (.goto 4, 3) := by decide +kernel
theorem d_Mod_about_24 : decode b_Mod_about 24 = .ok (.iconst 2, 1) := by decide +kernel
theorem d_Mod_about_25 : decode b_Mod_about 25 = .ok (.putfield 59, 3) := by decide +kernel
theorem d_Mod_about_28 : decode b_Mod_about 28 = .ok (.aload_n 0, 1) := by decide +kernel
theorem d_Mod_about_29 : decode b_Mod_about 29 = .ok (.getfield 59, 3) := by decide +kernel
theorem d_Mod_about_32 : decode b_Mod_about 32 = .ok (.ifCond .le 5, 3) := by decide +kernel
theorem d_Mod_about_35 : decode b_Mod_about 35 = .ok (.iconst 0, 1) := by decide +kernel
theorem d_Mod_about_36 : decode b_Mod_about 36 = .ok (.ireturn, 1) := by decide +kernel
theorem d_Mod_about_37 : decode b_Mod_about 37 = .ok (.ldc 129, 2) := by decide +kernel
theorem d_Mod_about_39 : decode b_Mod_about 39 = .ok (.istore_n 3, 1) := by decide +kernel
theorem d_Mod_about_40 : decode b_Mod_about 40 = .ok (.iconst 0, 1) := by decide +kernel
theorem d_Mod_about_41 : decode b_Mod_about 41 = .ok (.istore 4, 2) := by decide +kernel
theorem d_Mod_about_43 : decode b_Mod_about 43 = .ok (.iload 4, 2) := by decide +kernel
theorem d_Mod_about_45 : decode b_Mod_about 45 = .ok (.aload_n 0, 1) := by decide +kernel
theorem d_Mod_about_46 : decode b_Mod_about 46 = .ok (.getfield 35, 3) := by decide +kernel
theorem d_Mod_about_49 : decode b_Mod_about 49 = .ok (.iload_n 1, 1) := by decide +kernel
theorem d_Mod_about_50 : decode b_Mod_about 50 = .ok (.iaload, 1) := by decide +kernel
theorem d_Mod_about_51 : decode b_Mod_about 51 = .ok (.if_icmp .ge 39, 3) := by decide +kernel
theorem d_Mod_about_54 : decode b_Mod_about 54 = .ok (.aload_n 0, 1) := by decide +kernel
theorem d_Mod_about_55 : decode b_Mod_about 55 = .ok (.iload_n 1, 1) := by decide +kernel
theorem d_Mod_about_56 : decode b_Mod_about 56 = .ok (.iload 4, 2) := by decide +kernel
theorem d_Mod_about_58 : decode b_Mod_about 58 = .ok (.invokevirtual 116, 3) := by decide +kernel
theorem d_Mod_about_61 : decode b_Mod_about 61 = .ok (.aload_n 0, 1) := by decide +kernel
theorem d_Mod_about_62 : decode b_Mod_about 62 = .ok (.iload_n 1, 1) := by decide +kernel
theorem d_Mod_about_63 : decode b_Mod_about 63 = .ok (.iload 4, 2) := by decide +kernel
theorem d_Mod_about_65 : decode b_Mod_about 65 = .ok (.invokevirtual 99, 3) := by decide +kernel
theorem d_Mod_about_68 : decode b_Mod_about 68 = .ok (.iadd, 1) := by decide +kernel
theorem d_Mod_about_69 : decode b_Mod_about 69 = .ok (.istore 5, 2) := by decide +kernel
theorem d_Mod_about_71 : decode b_Mod_about 71 = .ok (.iload 5, 2) := by decide +kernel
theorem d_Mod_about_73 : decode b_Mod_about 73 = .ok (.iload_n 3, 1) := by decide +kernel
theorem d_Mod_about_74 : decode b_Mod_about 74 = .ok (.if_icmp .le 8, 3) := by decide +kernel
theorem d_Mod_about_77 : decode b_Mod_about 77 = .ok (.iload 5, 2) := by decide +kernel
theorem d_Mod_about_79 : decode b_Mod_about 79 = .ok (.goto 4, 3) := by decide +kernel
theorem d_Mod_about_82 : decode b_Mod_about 82 = .ok (.iload_n 3, 1) := by decide +kernel
theorem d_Mod_about_83 : decode b_Mod_about 83 = .ok (.istore_n 3, 1) := by decide +kernel
theorem d_Mod_about_84 : decode b_Mod_about 84 = .ok (.iinc 4 1, 3) := by decide +kernel
theorem d_Mod_about_87 : decode b_Mod_about 87 = .ok (.goto (-44), 3) := by decide +kernel
theorem d_Mod_about_90 : decode b_Mod_about 90 = .ok (.iload_n 2, 1) := by decide +kernel
theorem d_Mod_about_91 : decode b_Mod_about 91 = .ok (.ifCond .ne 11, 3) := by decide +kernel
theorem d_Mod_about_94 : decode b_Mod_about 94 = .ok (.aload_n 0, 1) := by decide +kernel
theorem d_Mod_about_95 : decode b_Mod_about 95 = .ok (.iload_n 1, 1) := by decide +kernel
theorem d_Mod_about_96 : decode b_Mod_about 96 = .ok (.invokevirtual 130, 3) := by decide +kernel
theorem d_Mod_about_99 : decode b_Mod_about 99 = .ok (.goto 38, 3) := by decide +kernel
theorem d_Mod_about_102 : decode b_Mod_about 102 = .ok (.iload_n 2, 1) := by decide +kernel
theorem d_Mod_about_103 : decode b_Mod_about 103 = .ok (.iconst 1, 1) := by decide +kernel
theorem d_Mod_about_104 : decode b_Mod_about 104 = .ok (.if_icmp .ne 13, 3) := by decide +kernel
theorem d_Mod_about_107 : decode b_Mod_about 107 = .ok (.iload_n 3, 1) := by decide +kernel
theorem d_Mod_about_108 : decode b_Mod_about 108 = .ok (.aload_n 0, 1) := by decide +kernel
theorem d_Mod_about_109 : decode b_Mod_about 109 = .ok (.iload_n 1, 1) := by decide +kernel
theorem d_Mod_about_110 : decode b_Mod_about 110 = .ok (.invokevirtual 125, 3) := by decide +kernel
theorem d_Mod_about_113 : decode b_Mod_about 113 = .ok (.isub, 1) := by decide +kernel
theorem d_Mod_about_114 : decode b_Mod_about 114 = .ok (.goto 23, 3) := by decide +kernel
theorem d_Mod_about_117 : decode b_Mod_about 117 = .ok (.iload_n 2, 1) := by decide +kernel
theorem d_Mod_about_118 : decode b_Mod_about 118 = .ok (.iconst 2, 1) := by decide +kernel
theorem d_Mod_about_119 : decode b_Mod_about 119 = .ok (.if_icmp .ne 12, 3) := by decide +kernel
theorem d_Mod_about_122 : decode b_Mod_about 122 = .ok (.aload_n 0, 1) := by decide +kernel
theorem d_Mod_about_123 : decode b_Mod_about 123 = .ok (.getfield 35, 3) := by decide +kernel
theorem d_Mod_about_126 : decode b_Mod_about 126 = .ok (.iload_n 1, 1) := by decide +kernel
theorem d_Mod_about_127 : decode b_Mod_about 127 = .ok (.iaload, 1) := by decide +kernel
theorem d_Mod_about_128 : decode b_Mod_about 128 = .ok (.goto 9, 3) := by decide +kernel
theorem d_Mod_about_131 : decode b_Mod_about 131 = .ok (.aload_n 0, 1) := by decide +kernel
theorem d_Mod_about_132 : decode b_Mod_about 132 = .ok (.getfield 32, 3) := by decide +kernel
theorem d_Mod_about_135 : decode b_Mod_about 135 = .ok (.iload_n 1, 1) := by decide +kernel
theorem d_Mod_about_136 : decode b_Mod_about 136 = .ok (.iaload, 1) := by decide +kernel
theorem d_Mod_about_137 : decode b_Mod_about 137 = .ok (.ireturn, 1) := by decide +kernel
def f_Mod_about_L43 (w : Mp) (h0 : Nat) (x1 : Int32) (x2 : Int32) : Nat → Int32 → Int32 → Option (Nat × Int32 × Int32)
  | 0, _, _ => none
  | n + 1, x3, x4 => (gR w (some h0) 5 11).bind fun v_8 => (aI w v_8 0 x1).bind fun v_9 => if v_9 ≤ x4 then (some (0, x3, x4)) else ((xo w (some h0) 5).bind fun b_11 => (f_Mod_topOf w b_11 x1 x4).bind fun q_10 => (xo w (some h0) 5).bind fun b_13 => (f_Mod_high w b_13 x1 x4).bind fun q_12 => if (q_10 + q_12) ≤ x3 then (f_Mod_about_L43 w h0 x1 x2 n x3 (x4 + 1)) else (f_Mod_about_L43 w h0 x1 x2 n (q_10 + q_12) (x4 + 1)))
set_option maxHeartbeats 4000000 in
set_option maxRecDepth 100000 in
theorem w_Mod_about_L43 {p : Program} {l : Launch} {e : Env} {R : Room} {s : State} {m : MethodId} {args : Array Value} {below : List Frame} {meth : Method} {c : Code} {Q : State → Prop} {cells slots sz : Nat} {G : Gx} {h0 : Nat} {x1 : Int32} {x2 : Int32} (C0 : CallFix p m c b_Mod_about 6 s args wA R_Mod) (hE : xE G vwCl xaty s) (hR1 : 6 ≤ R.frames) (hR2 : 153 ≤ R.locals) (hR3 : cells ≤ R.cells) (hR4 : slots ≤ R.slots) {w : Mp} {H : Heap} {locs : List Loc} (hH : xhd G vwCl w H) (hS : xS G s H locs) (hz : H.size = sz) : ∀ (n : Nat) (x3 : Int32) (x4 : Int32) (q : Nat × Int32 × Int32) (ls : Array Slot), xL ls 6 [(0, .inr (.inl (some h0))), (1, .inl x1), (2, .inl x2), (3, .inl x3), (4, .inl x4)] → f_Mod_about_L43 w h0 x1 x2 n x3 x4 = some q → (∀ (ls : Array Slot), xL ls 6 [(0, .inr (.inl (some h0))), (1, .inl x1), (2, .inl x2), (3, .inl q.2.1), (4, .inl q.2.2)] → W p l e R s m args below meth c H locs cells slots Q (F0 m 90 ls [])) → W p l e R s m args below meth c H locs cells slots Q (F0 m 43 ls []) := by
  intro n
  induction n with
  | zero => intro _ _ q ls hl h; cases h
  | succ n ih =>
    intro x3 x4 q ls hl h K
    rw [f_Mod_about_L43] at h
    refine x_iload C0 hl 4 d_Mod_about_43 rfl ?_
    refine x_aload_n C0 hl 0 d_Mod_about_45 rfl rfl ?_
    refine x_getR C0 hE hH (ci := 5) rfl i_Mod 11 (by decide) kw_4_90 d_Mod_about_46 h (fun v_8 h => ?_)
    refine x_iload_n C0 hl 1 d_Mod_about_49 rfl rfl ?_
    refine x_iald C0 hE hH (t := 0) rfl d_Mod_about_50 h (fun v_9 h => ?_)
    refine x_icmp_ge C0 90 d_Mod_about_51 (by decide) h (fun h => ?_) (fun h => ?_)
    · cases h
      exact K ls (x_sub hl [0, 1, 2, 3, 4] rfl)
    · refine x_aload_n C0 hl 0 d_Mod_about_54 rfl rfl ?_
      refine x_iload_n C0 hl 1 d_Mod_about_55 rfl rfl ?_
      refine x_iload C0 hl 4 d_Mod_about_56 rfl ?_
      obtain ⟨b_11, e9, h⟩ := Option.bind_eq_some_iff.mp h
      obtain ⟨e8, fs9, hb9⟩ := xo_inv e9
      obtain ⟨q_10, e9, h⟩ := Option.bind_eq_some_iff.mp h
      refine x_callP (va_runV (As := [.int x1, .int x4]) (rest := []) C0 (c_Mod_topOf l G w _ b_11 x1 x4 q_10 e9) (x_cwV 2 C0 kw_4_206 kw_4_209 kw_1_3 kw_4_208 kw_0_22 (by decide +kernel) (x_rm hR1 hR2 (Nat.le_of_ble_eq_true rfl) (Nat.le_of_ble_eq_true rfl))) (x_preV hE hH hS (ci := 5) rfl hb9) rfl rfl hl.1 (by rw [e8]; rfl) (lv_room (by first | exact Nat.le_of_ble_eq_true rfl | simp only [List.map_cons, List.map_nil, List.sum_cons, List.sum_nil, va_rf_cat, x_catI, x_catL, x_catA] <;> decide)) d_Mod_about_58 (x_le0 hR3 hR4)) ?_
      refine x_aload_n C0 hl 0 d_Mod_about_61 rfl rfl ?_
      refine x_iload_n C0 hl 1 d_Mod_about_62 rfl rfl ?_
      refine x_iload C0 hl 4 d_Mod_about_63 rfl ?_
      obtain ⟨b_13, e9, h⟩ := Option.bind_eq_some_iff.mp h
      obtain ⟨e8, fs9, hb9⟩ := xo_inv e9
      obtain ⟨q_12, e9, h⟩ := Option.bind_eq_some_iff.mp h
      refine x_callP (va_runV (As := [.int x1, .int x4]) (rest := [.int q_10]) C0 (c_Mod_high l G w _ b_13 x1 x4 q_12 e9) (x_cwV 2 C0 kw_4_210 kw_4_213 kw_1_3 kw_4_212 kw_0_23 (by decide +kernel) (x_rm hR1 hR2 (Nat.le_of_ble_eq_true rfl) (Nat.le_of_ble_eq_true rfl))) (x_preV hE hH hS (ci := 5) rfl hb9) rfl rfl hl.1 (by rw [e8]; rfl) (lv_room (by first | exact Nat.le_of_ble_eq_true rfl | simp only [List.map_cons, List.map_nil, List.sum_cons, List.sum_nil, va_rf_cat, x_catI, x_catL, x_catA] <;> decide)) d_Mod_about_65 (x_le0 hR3 hR4)) ?_
      refine lv_iadd C0.1 C0.2.1 d_Mod_about_68 ?_
      refine x_istore (lv' := [(5, .inl (q_10 + q_12)), (0, .inr (.inl (some h0))), (1, .inl x1), (2, .inl x2), (3, .inl x3), (4, .inl x4)]) C0 hl d_Mod_about_69 (by decide) rfl (fun ls hl => ?_)
      refine x_iload C0 hl 0 d_Mod_about_71 rfl ?_
      refine x_iload_n C0 hl 4 d_Mod_about_73 rfl rfl ?_
      refine x_icmp_le C0 82 d_Mod_about_74 (by decide) h (fun h => ?_) (fun h => ?_)
      · refine x_iload_n C0 hl 4 d_Mod_about_82 rfl rfl ?_
        refine x_istore_n (lv' := [(3, .inl x3), (5, .inl (q_10 + q_12)), (0, .inr (.inl (some h0))), (1, .inl x1), (2, .inl x2), (4, .inl x4)]) C0 hl d_Mod_about_83 rfl (by decide) rfl (fun ls hl => ?_)
        refine x_iinc (v := 1) (lv' := [(4, .inl (x4 + 1)), (3, .inl x3), (5, .inl (q_10 + q_12)), (0, .inr (.inl (some h0))), (1, .inl x1), (2, .inl x2)]) C0 hl 5 d_Mod_about_84 rfl (by decide) (by decide) rfl (fun ls hl => ?_)
        refine x_goto C0 43 d_Mod_about_87 (by decide) ?_
        exact ih _ _ q ls (x_sub hl [3, 4, 5, 1, 0] rfl) h K
      · refine x_iload C0 hl 0 d_Mod_about_77 rfl ?_
        refine x_goto C0 83 d_Mod_about_79 (by decide) ?_
        refine x_istore_n (lv' := [(3, .inl (q_10 + q_12)), (5, .inl (q_10 + q_12)), (0, .inr (.inl (some h0))), (1, .inl x1), (2, .inl x2), (4, .inl x4)]) C0 hl d_Mod_about_83 rfl (by decide) rfl (fun ls hl => ?_)
        refine x_iinc (v := 1) (lv' := [(4, .inl (x4 + 1)), (3, .inl (q_10 + q_12)), (5, .inl (q_10 + q_12)), (0, .inr (.inl (some h0))), (1, .inl x1), (2, .inl x2)]) C0 hl 5 d_Mod_about_84 rfl (by decide) (by decide) rfl (fun ls hl => ?_)
        refine x_goto C0 43 d_Mod_about_87 (by decide) ?_
        exact ih _ _ q ls (x_sub hl [3, 4, 5, 1, 0] rfl) h K
def f_Mod_about (w : Mp) (h0 : Nat) (x1 : Int32) (x2 : Int32) : Option (Int32 × Mp) := (xo w (some h0) 5).bind fun b_2 => (f_Mod_noFace w b_2 x1).bind fun q_1 => if q_1.1 = 0 then ((f_Mod_isIn q_1.2 x2 (0 : Int32) (3 : Int32)).bind fun q_3 => xJ1 (fun (x_4 : Int32) => (pF q_1.2 (some h0) 5 0 (.int x_4)).bind fun w_6 => (gI w_6 (some h0) 5 0).bind fun v_7 => if v_7 ≤ 0 then ((f_Mod_about_L43 w_6 h0 x1 x2 100000 (-1000000 : Int32) (0 : Int32)).bind fun q_14 => if x2 = 0 then ((xo w_6 (some h0) 5).bind fun b_22 => (f_Mod_wideOf w_6 b_22 x1).bind fun q_21 => some (q_21, w_6)) else (if x2 = (1 : Int32) then ((xo w_6 (some h0) 5).bind fun b_20 => (f_Mod_leastTop w_6 b_20 x1).bind fun q_19 => some (q_14.2.1 - q_19, w_6)) else (if x2 = (2 : Int32) then ((gR w_6 (some h0) 5 11).bind fun v_17 => (aI w_6 v_17 0 x1).bind fun v_18 => some (v_18, w_6)) else ((gR w_6 (some h0) 5 10).bind fun v_15 => (aI w_6 v_15 0 x1).bind fun v_16 => some (v_16, w_6))))) else (some ((0 : Int32), w_6))) fun J_5 => if q_3 = 0 then (J_5 (2 : Int32)) else (J_5 (0 : Int32))) else (some ((0 : Int32), q_1.2))
set_option maxHeartbeats 4000000 in
set_option maxRecDepth 100000 in
theorem c_Mod_about (l : Launch) (G : Gx) (w : Mp) (sz : Nat) (h0 : Nat) (x1 : Int32) (x2 : Int32) (res : Int32 × Mp) (hf : f_Mod_about w h0 x1 x2 = some res) : Met l y_Mod_about (xws y_Mod_about b_Mod_about 6 (some .int)) { frames := 6, cells := 0, slots := 0, locals := 153 } (xPc G vwCl xaty w sz [va_rf (some h0), .int x1, .int x2]) (xQ G vwCl (some (.int res.1)) res.2 sz) (0) (0) (xA G) := by
  refine Met.ofW (cc := b_Mod_about) (maxL := 6) (ret := (some .int)) (by decide) rfl ?_
  intro p e s m args below meth c s₁ B hml hv
  obtain ⟨ha, hE, hH, hz⟩ := hv
  have C0 : CallFix p m c b_Mod_about 6 s args wA R_Mod := ⟨B.exec, B.bytes, hml, findClass_of_methodNamed B.named, fun w hw => atoms_spec (ws := xws y_Mod_about b_Mod_about 6 (some .int)) B.pre w (List.mem_cons_of_mem _ hw)⟩
  have hr := B.returns
  have hlocks := B.notSynchronized
  obtain ⟨R, hR⟩ : ∃ R, R = (headSpec (xws y_Mod_about b_Mod_about 6 (some .int)) { frames := 6, cells := 0, slots := 0, locals := 153 }).room := ⟨_, rfl⟩
  have hR1 : 6 ≤ R.frames := by rw [hR]; exact Nat.le_of_ble_eq_true rfl
  have hR2 : 153 ≤ R.locals := by rw [hR]; exact Nat.le_of_ble_eq_true rfl
  have hR3 : 0 ≤ R.cells := by rw [hR]; exact Nat.le_refl _
  have hR4 : 0 ≤ R.slots := by rw [hR]; exact Nat.le_refl _
  rw [← hR]
  obtain ⟨Q, hQ⟩ : ∃ Q, Q = MQ below (xQ G vwCl (some (.int res.1)) res.2 sz) args s (0) (0) (xA G) := ⟨_, rfl⟩
  rw [← hQ]
  have hS : xS G s s.heap [] := va_S.rf
  obtain ⟨ls, he, hl⟩ := x_entry m [.inr (.inl (some h0)), .inl x1, .inl x2] 6 (Nat.le_of_ble_eq_true rfl)
  rw [show entryFrame m args 6 = F0 m 0 ls [] by rw [ha]; exact he]
  have hl : xL ls 6 [(0, .inr (.inl (some h0))), (1, .inl x1), (2, .inl x2)] := hl
  have h := hf
  unfold f_Mod_about at h
  suffices hmain : ∀ (H : Heap) (locs : List Loc), xhd G vwCl w H → xS G s H locs → H.size = sz → (H = s.heap ∧ locs = []) → W p l e R s m args below meth c H locs 0 0 Q (F0 m 0 ls []) from hmain _ _ hH hS hz ⟨rfl, rfl⟩
  clear hH hS hz
  intro H locs hH hS hz hP0
  refine x_aload_n C0 hl 0 d_Mod_about_0 rfl rfl ?_
  refine x_iload_n C0 hl 1 d_Mod_about_1 rfl rfl ?_
  obtain ⟨b_2, e9, h⟩ := Option.bind_eq_some_iff.mp h
  obtain ⟨e8, fs9, hb9⟩ := xo_inv e9
  obtain ⟨q_1, e9, h⟩ := Option.bind_eq_some_iff.mp h
  refine x_call0 hS (va_runV (As := [.int x1]) (rest := []) C0 (c_Mod_noFace l G w _ b_2 x1 q_1 e9) (x_cwV 1 C0 kw_4_178 kw_4_181 kw_1_3 kw_4_180 kw_0_16 (by decide +kernel) (x_rm hR1 hR2 (Nat.le_of_ble_eq_true rfl) (Nat.le_of_ble_eq_true rfl))) (x_preV hE hH hS (ci := 5) rfl hb9) rfl rfl hl.1 (by rw [e8]; rfl) (lv_room (by first | exact Nat.le_of_ble_eq_true rfl | simp only [List.map_cons, List.map_nil, List.sum_cons, List.sum_nil, va_rf_cat, x_catI, x_catL, x_catA] <;> decide)) d_Mod_about_2 (x_le0 hR3 hR4)) (fun H locs hH hS hz9 => ?_)
  have hz := hz9.trans hz
  refine x_if_eq C0 10 d_Mod_about_5 (by decide) h (fun h => ?_) (fun h => ?_)
  · refine x_aload_n C0 hl 0 d_Mod_about_10 rfl rfl ?_
    refine x_iload_n C0 hl 2 d_Mod_about_11 rfl rfl ?_
    refine lv_iconst (v := 0) C0.1 C0.2.1 d_Mod_about_12 (by decide) ?_
    refine lv_iconst (v := 3) C0.1 C0.2.1 d_Mod_about_13 (by decide) ?_
    obtain ⟨q_3, e9, h⟩ := Option.bind_eq_some_iff.mp h
    refine x_callP (va_runS (As := [.int x2, .int (0 : Int32), .int (3 : Int32)]) (rest := [va_rf (some h0)]) C0 (c_Mod_isIn l G q_1.2 _ x2 (0 : Int32) (3 : Int32) q_3 e9) (x_cwS 3 C0 kw_4_155 kw_4_157 kw_1_3 kw_4_156 (by decide +kernel) (x_rm hR1 hR2 (Nat.le_of_ble_eq_true rfl) (Nat.le_of_ble_eq_true rfl))) (x_preS hE hH hS) rfl rfl hl.1 rfl (lv_room (by first | exact Nat.le_of_ble_eq_true rfl | simp only [List.map_cons, List.map_nil, List.sum_cons, List.sum_nil, va_rf_cat, x_catI, x_catL, x_catA] <;> decide)) d_Mod_about_14 (x_le0 hR3 hR4)) ?_
    refine xj1 h (fun J_5 eJ_5 h => ?_)
    have kJ_5 : ∀ (x_4 : Int32) (ls : Array Slot), xL ls 6 [(0, .inr (.inl (some h0))), (1, .inl x1), (2, .inl x2)] → J_5 x_4 = some res → W p l e R s m args below meth c H locs 0 0 Q (F0 m 25 ls [.int x_4, va_rf (some h0)]) := by
      intro x_4 ls hl h
      rw [eJ_5] at h
      refine x_put C0 hE hH hS (ci := 5) rfl i_Mod t_Mod t_Mod_ok n_Mod 0 (by decide) kw_4_79 rfl rfl rfl d_Mod_about_25 h (fun w_6 H locs hH hS hz9 h => ?_)
      have hz := hz9.trans hz
      refine x_aload_n C0 hl 0 d_Mod_about_28 rfl rfl ?_
      refine x_getI C0 hE hH (ci := 5) rfl i_Mod 0 (by decide) kw_4_79 d_Mod_about_29 h (fun v_7 h => ?_)
      refine x_if_le C0 37 d_Mod_about_32 (by decide) h (fun h => ?_) (fun h => ?_)
      · refine lv_ldc (v := -1000000) C0.1 C0.2.1 C0.2.2.2.1 (C0.2.2.2.2 _ kw_5_2) d_Mod_about_37 ?_
        refine x_istore_n (lv' := [(3, .inl (-1000000 : Int32)), (0, .inr (.inl (some h0))), (1, .inl x1), (2, .inl x2)]) C0 hl d_Mod_about_39 rfl (by decide) rfl (fun ls hl => ?_)
        refine lv_iconst (v := 0) C0.1 C0.2.1 d_Mod_about_40 (by decide) ?_
        refine x_istore (lv' := [(4, .inl (0 : Int32)), (3, .inl (-1000000 : Int32)), (0, .inr (.inl (some h0))), (1, .inl x1), (2, .inl x2)]) C0 hl d_Mod_about_41 (by decide) rfl (fun ls hl => ?_)
        obtain ⟨q_14, e9, h⟩ := Option.bind_eq_some_iff.mp h
        refine w_Mod_about_L43 C0 hE hR1 hR2 hR3 hR4 hH hS hz 100000 _ _ q_14 ls (x_sub hl [2, 3, 4, 1, 0] rfl) e9 (fun ls hl => ?_)
        refine x_iload_n C0 hl 2 d_Mod_about_90 rfl rfl ?_
        refine x_if_ne C0 102 d_Mod_about_91 (by decide) h (fun h => ?_) (fun h => ?_)
        · refine x_iload_n C0 hl 2 d_Mod_about_102 rfl rfl ?_
          refine lv_iconst (v := 1) C0.1 C0.2.1 d_Mod_about_103 (by decide) ?_
          refine x_icmp_ne C0 117 d_Mod_about_104 (by decide) h (fun h => ?_) (fun h => ?_)
          · refine x_iload_n C0 hl 2 d_Mod_about_117 rfl rfl ?_
            refine lv_iconst (v := 2) C0.1 C0.2.1 d_Mod_about_118 (by decide) ?_
            refine x_icmp_ne C0 131 d_Mod_about_119 (by decide) h (fun h => ?_) (fun h => ?_)
            · refine x_aload_n C0 hl 0 d_Mod_about_131 rfl rfl ?_
              refine x_getR C0 hE hH (ci := 5) rfl i_Mod 10 (by decide) kw_4_89 d_Mod_about_132 h (fun v_15 h => ?_)
              refine x_iload_n C0 hl 1 d_Mod_about_135 rfl rfl ?_
              refine x_iald C0 hE hH (t := 0) rfl d_Mod_about_136 h (fun v_16 h => ?_)
              cases h
              rw [hQ]
              exact x_iret C0 hr hlocks hH hS hz d_Mod_about_137
            · refine x_aload_n C0 hl 0 d_Mod_about_122 rfl rfl ?_
              refine x_getR C0 hE hH (ci := 5) rfl i_Mod 11 (by decide) kw_4_90 d_Mod_about_123 h (fun v_17 h => ?_)
              refine x_iload_n C0 hl 1 d_Mod_about_126 rfl rfl ?_
              refine x_iald C0 hE hH (t := 0) rfl d_Mod_about_127 h (fun v_18 h => ?_)
              refine x_goto C0 137 d_Mod_about_128 (by decide) ?_
              cases h
              rw [hQ]
              exact x_iret C0 hr hlocks hH hS hz d_Mod_about_137
          · refine x_iload_n C0 hl 3 d_Mod_about_107 rfl rfl ?_
            refine x_aload_n C0 hl 0 d_Mod_about_108 rfl rfl ?_
            refine x_iload_n C0 hl 1 d_Mod_about_109 rfl rfl ?_
            obtain ⟨b_20, e9, h⟩ := Option.bind_eq_some_iff.mp h
            obtain ⟨e8, fs9, hb9⟩ := xo_inv e9
            obtain ⟨q_19, e9, h⟩ := Option.bind_eq_some_iff.mp h
            refine x_callP (va_runV (As := [.int x1]) (rest := [.int q_14.2.1]) C0 (c_Mod_leastTop l G w_6 _ b_20 x1 q_19 e9) (x_cwV 1 C0 kw_4_234 kw_4_237 kw_1_3 kw_4_236 kw_0_28 (by decide +kernel) (x_rm hR1 hR2 (Nat.le_of_ble_eq_true rfl) (Nat.le_of_ble_eq_true rfl))) (x_preV hE hH hS (ci := 5) rfl hb9) rfl rfl hl.1 (by rw [e8]; rfl) (lv_room (by first | exact Nat.le_of_ble_eq_true rfl | simp only [List.map_cons, List.map_nil, List.sum_cons, List.sum_nil, va_rf_cat, x_catI, x_catL, x_catA] <;> decide)) d_Mod_about_110 (x_le0 hR3 hR4)) ?_
            refine lv_isub C0.1 C0.2.1 d_Mod_about_113 ?_
            refine x_goto C0 137 d_Mod_about_114 (by decide) ?_
            cases h
            rw [hQ]
            exact x_iret C0 hr hlocks hH hS hz d_Mod_about_137
        · refine x_aload_n C0 hl 0 d_Mod_about_94 rfl rfl ?_
          refine x_iload_n C0 hl 1 d_Mod_about_95 rfl rfl ?_
          obtain ⟨b_22, e9, h⟩ := Option.bind_eq_some_iff.mp h
          obtain ⟨e8, fs9, hb9⟩ := xo_inv e9
          obtain ⟨q_21, e9, h⟩ := Option.bind_eq_some_iff.mp h
          refine x_callP (va_runV (As := [.int x1]) (rest := []) C0 (c_Mod_wideOf l G w_6 _ b_22 x1 q_21 e9) (x_cwV 1 C0 kw_5_3 kw_5_6 kw_1_3 kw_5_5 kw_0_29 (by decide +kernel) (x_rm hR1 hR2 (Nat.le_of_ble_eq_true rfl) (Nat.le_of_ble_eq_true rfl))) (x_preV hE hH hS (ci := 5) rfl hb9) rfl rfl hl.1 (by rw [e8]; rfl) (lv_room (by first | exact Nat.le_of_ble_eq_true rfl | simp only [List.map_cons, List.map_nil, List.sum_cons, List.sum_nil, va_rf_cat, x_catI, x_catL, x_catA] <;> decide)) d_Mod_about_96 (x_le0 hR3 hR4)) ?_
          refine x_goto C0 137 d_Mod_about_99 (by decide) ?_
          cases h
          rw [hQ]
          exact x_iret C0 hr hlocks hH hS hz d_Mod_about_137
      · refine lv_iconst (v := 0) C0.1 C0.2.1 d_Mod_about_35 (by decide) ?_
        cases h
        rw [hQ]
        exact x_iret C0 hr hlocks hH hS hz d_Mod_about_36
    refine x_if_eq C0 24 d_Mod_about_17 (by decide) h (fun h => ?_) (fun h => ?_)
    · refine lv_iconst (v := 2) C0.1 C0.2.1 d_Mod_about_24 (by decide) ?_
      exact kJ_5 _ ls (x_sub hl [0, 1, 2] rfl) h
    · refine lv_iconst (v := 0) C0.1 C0.2.1 d_Mod_about_20 (by decide) ?_
      refine x_goto C0 25 d_Mod_about_21 (by decide) ?_
      exact kJ_5 _ ls (x_sub hl [0, 1, 2] rfl) h
  · refine lv_iconst (v := 0) C0.1 C0.2.1 d_Mod_about_8 (by decide) ?_
    cases h
    rw [hQ]
    exact x_iret C0 hr hlocks hH hS hz d_Mod_about_9
theorem d_Mod_noSeam_0 : decode b_Mod_noSeam 0 = .ok (.aload_n 0, 1) := by decide +kernel
theorem d_Mod_noSeam_1 : decode b_Mod_noSeam 1 = .ok (.iload_n 1, 1) := by decide +kernel
theorem d_Mod_noSeam_2 : decode b_Mod_noSeam 2 = .ok (.ifCond .lt 24, 3) := by decide +kernel
theorem d_Mod_noSeam_5 : decode b_Mod_noSeam 5 = .ok (.iload_n 1, 1) := by decide +kernel
theorem d_Mod_noSeam_6 : decode b_Mod_noSeam 6 = .ok (.aload_n 0, 1) := by decide +kernel
theorem d_Mod_noSeam_7 : decode b_Mod_noSeam 7 = .ok (.getfield 81, 3) := by decide +kernel
theorem d_Mod_noSeam_10 : decode b_Mod_noSeam 10 = .ok (.if_icmp .ge 16, 3) := by decide +kernel
theorem d_Mod_noSeam_13 : decode b_Mod_noSeam 13 = .ok (.iload_n 2, 1) := by decide +kernel
theorem d_Mod_noSeam_14 : decode b_Mod_noSeam 14 = .ok (.ifCond .lt 12, 3) := by decide +kernel
theorem d_Mod_noSeam_17 : decode b_Mod_noSeam 17 = .ok (.iload_n 2, 1) := by decide +kernel
theorem d_Mod_noSeam_18 : decode b_Mod_noSeam 18 = .ok (.aload_n 0, 1) := by decide +kernel
theorem d_Mod_noSeam_19 : decode b_Mod_noSeam 19 = .ok (.iload_n 1, 1) := by decide +kernel
theorem d_Mod_noSeam_20 : decode b_Mod_noSeam 20 = .ok (.invokevirtual 133, 3) := by decide +kernel
theorem d_Mod_noSeam_23 : decode b_Mod_noSeam 23 = .ok (.if_icmp .lt 7, 3) := by decide +kernel
theorem d_Mod_noSeam_26 : decode b_Mod_noSeam 26 = .ok (.iconst 1, 1) := by decide +kernel
theorem d_Mod_noSeam_27 : decode b_Mod_noSeam 27 = .ok (.goto 4, 3) := by decide +kernel
theorem d_Mod_noSeam_30 : decode b_Mod_noSeam 30 = .ok (.iconst 0, 1) := by decide +kernel
theorem d_Mod_noSeam_31 : decode b_Mod_noSeam 31 = .ok (.putfield 59, 3) := by decide +kernel
theorem d_Mod_noSeam_34 : decode b_Mod_noSeam 34 = .ok (.aload_n 0, 1) := by decide +kernel
theorem d_Mod_noSeam_35 : decode b_Mod_noSeam 35 = .ok (.getfield 59, 3) := by decide +kernel
theorem d_Mod_noSeam_38 : decode b_Mod_noSeam 38 = .ok (.ifCond .le 7, 3) := by decide +kernel
theorem d_Mod_noSeam_41 : decode b_Mod_noSeam 41 = .ok (.iconst 1, 1) := by decide +kernel
theorem d_Mod_noSeam_42 : decode b_Mod_noSeam 42 = .ok (.goto 4, 3) := by decide +kernel
theorem d_Mod_noSeam_45 : decode b_Mod_noSeam 45 = .ok (.iconst 0, 1) := by decide +kernel
theorem d_Mod_noSeam_46 : decode b_Mod_noSeam 46 = .ok (.ireturn, 1) := by decide +kernel
def f_Mod_noSeam (w : Mp) (h0 : Nat) (x1 : Int32) (x2 : Int32) : Option (Int32 × Mp) := xJ1 (fun (x_1 : Int32) => (pF w (some h0) 5 0 (.int x_1)).bind fun w_3 => (gI w_3 (some h0) 5 0).bind fun v_4 => if v_4 ≤ 0 then (some ((0 : Int32), w_3)) else (some ((1 : Int32), w_3))) fun J_2 => if x1 < 0 then (J_2 (1 : Int32)) else ((gI w (some h0) 5 9).bind fun v_5 => if v_5 ≤ x1 then (J_2 (1 : Int32)) else (if x2 < 0 then (J_2 (1 : Int32)) else ((xo w (some h0) 5).bind fun b_7 => (f_Mod_seams w b_7 x1).bind fun q_6 => if x2 < q_6 then (J_2 (0 : Int32)) else (J_2 (1 : Int32)))))
set_option maxHeartbeats 4000000 in
set_option maxRecDepth 100000 in
theorem c_Mod_noSeam (l : Launch) (G : Gx) (w : Mp) (sz : Nat) (h0 : Nat) (x1 : Int32) (x2 : Int32) (res : Int32 × Mp) (hf : f_Mod_noSeam w h0 x1 x2 = some res) : Met l y_Mod_noSeam (xws y_Mod_noSeam b_Mod_noSeam 3 (some .boolean)) { frames := 1, cells := 0, slots := 0, locals := 21 } (xPc G vwCl xaty w sz [va_rf (some h0), .int x1, .int x2]) (xQ G vwCl (some (.int res.1)) res.2 sz) (0) (0) (xA G) := by
  refine Met.ofW (cc := b_Mod_noSeam) (maxL := 3) (ret := (some .boolean)) (by decide) rfl ?_
  intro p e s m args below meth c s₁ B hml hv
  obtain ⟨ha, hE, hH, hz⟩ := hv
  have C0 : CallFix p m c b_Mod_noSeam 3 s args wA R_Mod := ⟨B.exec, B.bytes, hml, findClass_of_methodNamed B.named, fun w hw => atoms_spec (ws := xws y_Mod_noSeam b_Mod_noSeam 3 (some .boolean)) B.pre w (List.mem_cons_of_mem _ hw)⟩
  have hr := B.returns
  have hlocks := B.notSynchronized
  obtain ⟨R, hR⟩ : ∃ R, R = (headSpec (xws y_Mod_noSeam b_Mod_noSeam 3 (some .boolean)) { frames := 1, cells := 0, slots := 0, locals := 21 }).room := ⟨_, rfl⟩
  have hR1 : 1 ≤ R.frames := by rw [hR]; exact Nat.le_of_ble_eq_true rfl
  have hR2 : 21 ≤ R.locals := by rw [hR]; exact Nat.le_of_ble_eq_true rfl
  have hR3 : 0 ≤ R.cells := by rw [hR]; exact Nat.le_refl _
  have hR4 : 0 ≤ R.slots := by rw [hR]; exact Nat.le_refl _
  rw [← hR]
  obtain ⟨Q, hQ⟩ : ∃ Q, Q = MQ below (xQ G vwCl (some (.int res.1)) res.2 sz) args s (0) (0) (xA G) := ⟨_, rfl⟩
  rw [← hQ]
  have hS : xS G s s.heap [] := va_S.rf
  obtain ⟨ls, he, hl⟩ := x_entry m [.inr (.inl (some h0)), .inl x1, .inl x2] 3 (Nat.le_of_ble_eq_true rfl)
  rw [show entryFrame m args 3 = F0 m 0 ls [] by rw [ha]; exact he]
  have hl : xL ls 3 [(0, .inr (.inl (some h0))), (1, .inl x1), (2, .inl x2)] := hl
  have h := hf
  unfold f_Mod_noSeam at h
  suffices hmain : ∀ (H : Heap) (locs : List Loc), xhd G vwCl w H → xS G s H locs → H.size = sz → (H = s.heap ∧ locs = []) → W p l e R s m args below meth c H locs 0 0 Q (F0 m 0 ls []) from hmain _ _ hH hS hz ⟨rfl, rfl⟩
  clear hH hS hz
  intro H locs hH hS hz hP0
  refine x_aload_n C0 hl 0 d_Mod_noSeam_0 rfl rfl ?_
  refine x_iload_n C0 hl 1 d_Mod_noSeam_1 rfl rfl ?_
  refine xj1 h (fun J_2 eJ_2 h => ?_)
  have kJ_2 : ∀ (x_1 : Int32) (ls : Array Slot), xL ls 3 [(0, .inr (.inl (some h0)))] → J_2 x_1 = some res → W p l e R s m args below meth c H locs 0 0 Q (F0 m 31 ls [.int x_1, va_rf (some h0)]) := by
    intro x_1 ls hl h
    rw [eJ_2] at h
    refine x_put C0 hE hH hS (ci := 5) rfl i_Mod t_Mod t_Mod_ok n_Mod 0 (by decide) kw_4_79 rfl rfl rfl d_Mod_noSeam_31 h (fun w_3 H locs hH hS hz9 h => ?_)
    have hz := hz9.trans hz
    refine x_aload_n C0 hl 0 d_Mod_noSeam_34 rfl rfl ?_
    refine x_getI C0 hE hH (ci := 5) rfl i_Mod 0 (by decide) kw_4_79 d_Mod_noSeam_35 h (fun v_4 h => ?_)
    refine x_if_le C0 45 d_Mod_noSeam_38 (by decide) h (fun h => ?_) (fun h => ?_)
    · refine lv_iconst (v := 0) C0.1 C0.2.1 d_Mod_noSeam_45 (by decide) ?_
      cases h
      rw [hQ]
      exact x_zret (v := (0 : Int32)) C0 hr hlocks hH hS hz rfl d_Mod_noSeam_46
    · refine lv_iconst (v := 1) C0.1 C0.2.1 d_Mod_noSeam_41 (by decide) ?_
      refine x_goto C0 46 d_Mod_noSeam_42 (by decide) ?_
      cases h
      rw [hQ]
      exact x_zret (v := (1 : Int32)) C0 hr hlocks hH hS hz rfl d_Mod_noSeam_46
  refine x_if_lt C0 26 d_Mod_noSeam_2 (by decide) h (fun h => ?_) (fun h => ?_)
  · refine lv_iconst (v := 1) C0.1 C0.2.1 d_Mod_noSeam_26 (by decide) ?_
    refine x_goto C0 31 d_Mod_noSeam_27 (by decide) ?_
    exact kJ_2 _ ls (x_sub hl [0] rfl) h
  · refine x_iload_n C0 hl 1 d_Mod_noSeam_5 rfl rfl ?_
    refine x_aload_n C0 hl 0 d_Mod_noSeam_6 rfl rfl ?_
    refine x_getI C0 hE hH (ci := 5) rfl i_Mod 9 (by decide) kw_4_88 d_Mod_noSeam_7 h (fun v_5 h => ?_)
    refine x_icmp_ge C0 26 d_Mod_noSeam_10 (by decide) h (fun h => ?_) (fun h => ?_)
    · refine lv_iconst (v := 1) C0.1 C0.2.1 d_Mod_noSeam_26 (by decide) ?_
      refine x_goto C0 31 d_Mod_noSeam_27 (by decide) ?_
      exact kJ_2 _ ls (x_sub hl [0] rfl) h
    · refine x_iload_n C0 hl 2 d_Mod_noSeam_13 rfl rfl ?_
      refine x_if_lt C0 26 d_Mod_noSeam_14 (by decide) h (fun h => ?_) (fun h => ?_)
      · refine lv_iconst (v := 1) C0.1 C0.2.1 d_Mod_noSeam_26 (by decide) ?_
        refine x_goto C0 31 d_Mod_noSeam_27 (by decide) ?_
        exact kJ_2 _ ls (x_sub hl [0] rfl) h
      · refine x_iload_n C0 hl 2 d_Mod_noSeam_17 rfl rfl ?_
        refine x_aload_n C0 hl 0 d_Mod_noSeam_18 rfl rfl ?_
        refine x_iload_n C0 hl 1 d_Mod_noSeam_19 rfl rfl ?_
        obtain ⟨b_7, e9, h⟩ := Option.bind_eq_some_iff.mp h
        obtain ⟨e8, fs9, hb9⟩ := xo_inv e9
        obtain ⟨q_6, e9, h⟩ := Option.bind_eq_some_iff.mp h
        refine x_callP (va_runV (As := [.int x1]) (rest := [.int x2, va_rf (some h0)]) C0 (c_Mod_seams l G w _ b_7 x1 q_6 e9) (x_cwV 1 C0 kw_5_15 kw_5_18 kw_1_3 kw_5_17 kw_0_31 (by decide +kernel) (x_rm hR1 hR2 (Nat.le_of_ble_eq_true rfl) (Nat.le_of_ble_eq_true rfl))) (x_preV hE hH hS (ci := 5) rfl hb9) rfl rfl hl.1 (by rw [e8]; rfl) (lv_room (by first | exact Nat.le_of_ble_eq_true rfl | simp only [List.map_cons, List.map_nil, List.sum_cons, List.sum_nil, va_rf_cat, x_catI, x_catL, x_catA] <;> decide)) d_Mod_noSeam_20 (x_le0 hR3 hR4)) ?_
        refine x_icmp_lt C0 30 d_Mod_noSeam_23 (by decide) h (fun h => ?_) (fun h => ?_)
        · refine lv_iconst (v := 0) C0.1 C0.2.1 d_Mod_noSeam_30 (by decide) ?_
          exact kJ_2 _ ls (x_sub hl [0] rfl) h
        · refine lv_iconst (v := 1) C0.1 C0.2.1 d_Mod_noSeam_26 (by decide) ?_
          refine x_goto C0 31 d_Mod_noSeam_27 (by decide) ?_
          exact kJ_2 _ ls (x_sub hl [0] rfl) h
theorem d_Mod_seam_0 : decode b_Mod_seam 0 = .ok (.aload_n 0, 1) := by decide +kernel
theorem d_Mod_seam_1 : decode b_Mod_seam 1 = .ok (.iload_n 1, 1) := by decide +kernel
theorem d_Mod_seam_2 : decode b_Mod_seam 2 = .ok (.iload_n 2, 1) := by decide +kernel
theorem d_Mod_seam_3 : decode b_Mod_seam 3 = .ok (.invokevirtual 136, 3) := by decide +kernel
theorem d_Mod_seam_6 : decode b_Mod_seam 6 = .ok (.ifCond .eq 7, 3) := by decide +kernel
theorem d_Mod_seam_9 : decode b_Mod_seam 9 = .ok (.iconst 0, 1) := by decide +kernel
theorem d_Mod_seam_10 : decode b_Mod_seam 10 = .ok (.goto 9, 3) := by decide +kernel
theorem d_Mod_seam_13 : decode b_Mod_seam 13 = .ok (.aload_n 0, 1) := by decide +kernel
theorem d_Mod_seam_14 : decode b_Mod_seam 14 = .ok (.iload_n 1, 1) := by decide +kernel
theorem d_Mod_seam_15 : decode b_Mod_seam 15 = .ok (.iload_n 2, 1) := by decide +kernel
theorem d_Mod_seam_16 : decode b_Mod_seam 16 = .ok (.invokevirtual 113, 3) := by decide +kernel
theorem d_Mod_seam_19 : decode b_Mod_seam 19 = .ok (.ireturn, 1) := by decide +kernel
def f_Mod_seam (w : Mp) (h0 : Nat) (x1 : Int32) (x2 : Int32) : Option (Int32 × Mp) := (xo w (some h0) 5).bind fun b_2 => (f_Mod_noSeam w b_2 x1 x2).bind fun q_1 => if q_1.1 = 0 then ((xo q_1.2 (some h0) 5).bind fun b_4 => (f_Mod_shiftOf q_1.2 b_4 x1 x2).bind fun q_3 => some (q_3, q_1.2)) else (some ((0 : Int32), q_1.2))
set_option maxHeartbeats 4000000 in
set_option maxRecDepth 100000 in
theorem c_Mod_seam (l : Launch) (G : Gx) (w : Mp) (sz : Nat) (h0 : Nat) (x1 : Int32) (x2 : Int32) (res : Int32 × Mp) (hf : f_Mod_seam w h0 x1 x2 = some res) : Met l y_Mod_seam (xws y_Mod_seam b_Mod_seam 3 (some .int)) { frames := 4, cells := 0, slots := 0, locals := 105 } (xPc G vwCl xaty w sz [va_rf (some h0), .int x1, .int x2]) (xQ G vwCl (some (.int res.1)) res.2 sz) (0) (0) (xA G) := by
  refine Met.ofW (cc := b_Mod_seam) (maxL := 3) (ret := (some .int)) (by decide) rfl ?_
  intro p e s m args below meth c s₁ B hml hv
  obtain ⟨ha, hE, hH, hz⟩ := hv
  have C0 : CallFix p m c b_Mod_seam 3 s args wA R_Mod := ⟨B.exec, B.bytes, hml, findClass_of_methodNamed B.named, fun w hw => atoms_spec (ws := xws y_Mod_seam b_Mod_seam 3 (some .int)) B.pre w (List.mem_cons_of_mem _ hw)⟩
  have hr := B.returns
  have hlocks := B.notSynchronized
  obtain ⟨R, hR⟩ : ∃ R, R = (headSpec (xws y_Mod_seam b_Mod_seam 3 (some .int)) { frames := 4, cells := 0, slots := 0, locals := 105 }).room := ⟨_, rfl⟩
  have hR1 : 4 ≤ R.frames := by rw [hR]; exact Nat.le_of_ble_eq_true rfl
  have hR2 : 105 ≤ R.locals := by rw [hR]; exact Nat.le_of_ble_eq_true rfl
  have hR3 : 0 ≤ R.cells := by rw [hR]; exact Nat.le_refl _
  have hR4 : 0 ≤ R.slots := by rw [hR]; exact Nat.le_refl _
  rw [← hR]
  obtain ⟨Q, hQ⟩ : ∃ Q, Q = MQ below (xQ G vwCl (some (.int res.1)) res.2 sz) args s (0) (0) (xA G) := ⟨_, rfl⟩
  rw [← hQ]
  have hS : xS G s s.heap [] := va_S.rf
  obtain ⟨ls, he, hl⟩ := x_entry m [.inr (.inl (some h0)), .inl x1, .inl x2] 3 (Nat.le_of_ble_eq_true rfl)
  rw [show entryFrame m args 3 = F0 m 0 ls [] by rw [ha]; exact he]
  have hl : xL ls 3 [(0, .inr (.inl (some h0))), (1, .inl x1), (2, .inl x2)] := hl
  have h := hf
  unfold f_Mod_seam at h
  suffices hmain : ∀ (H : Heap) (locs : List Loc), xhd G vwCl w H → xS G s H locs → H.size = sz → (H = s.heap ∧ locs = []) → W p l e R s m args below meth c H locs 0 0 Q (F0 m 0 ls []) from hmain _ _ hH hS hz ⟨rfl, rfl⟩
  clear hH hS hz
  intro H locs hH hS hz hP0
  refine x_aload_n C0 hl 0 d_Mod_seam_0 rfl rfl ?_
  refine x_iload_n C0 hl 1 d_Mod_seam_1 rfl rfl ?_
  refine x_iload_n C0 hl 2 d_Mod_seam_2 rfl rfl ?_
  obtain ⟨b_2, e9, h⟩ := Option.bind_eq_some_iff.mp h
  obtain ⟨e8, fs9, hb9⟩ := xo_inv e9
  obtain ⟨q_1, e9, h⟩ := Option.bind_eq_some_iff.mp h
  refine x_call0 hS (va_runV (As := [.int x1, .int x2]) (rest := []) C0 (c_Mod_noSeam l G w _ b_2 x1 x2 q_1 e9) (x_cwV 2 C0 kw_5_11 kw_5_14 kw_1_3 kw_5_13 kw_0_30 (by decide +kernel) (x_rm hR1 hR2 (Nat.le_of_ble_eq_true rfl) (Nat.le_of_ble_eq_true rfl))) (x_preV hE hH hS (ci := 5) rfl hb9) rfl rfl hl.1 (by rw [e8]; rfl) (lv_room (by first | exact Nat.le_of_ble_eq_true rfl | simp only [List.map_cons, List.map_nil, List.sum_cons, List.sum_nil, va_rf_cat, x_catI, x_catL, x_catA] <;> decide)) d_Mod_seam_3 (x_le0 hR3 hR4)) (fun H locs hH hS hz9 => ?_)
  have hz := hz9.trans hz
  refine x_if_eq C0 13 d_Mod_seam_6 (by decide) h (fun h => ?_) (fun h => ?_)
  · refine x_aload_n C0 hl 0 d_Mod_seam_13 rfl rfl ?_
    refine x_iload_n C0 hl 1 d_Mod_seam_14 rfl rfl ?_
    refine x_iload_n C0 hl 2 d_Mod_seam_15 rfl rfl ?_
    obtain ⟨b_4, e9, h⟩ := Option.bind_eq_some_iff.mp h
    obtain ⟨e8, fs9, hb9⟩ := xo_inv e9
    obtain ⟨q_3, e9, h⟩ := Option.bind_eq_some_iff.mp h
    refine x_callP (va_runV (As := [.int x1, .int x2]) (rest := []) C0 (c_Mod_shiftOf l G q_1.2 _ b_4 x1 x2 q_3 e9) (x_cwV 2 C0 kw_4_214 kw_4_217 kw_1_3 kw_4_216 kw_0_24 (by decide +kernel) (x_rm hR1 hR2 (Nat.le_of_ble_eq_true rfl) (Nat.le_of_ble_eq_true rfl))) (x_preV hE hH hS (ci := 5) rfl hb9) rfl rfl hl.1 (by rw [e8]; rfl) (lv_room (by first | exact Nat.le_of_ble_eq_true rfl | simp only [List.map_cons, List.map_nil, List.sum_cons, List.sum_nil, va_rf_cat, x_catI, x_catL, x_catA] <;> decide)) d_Mod_seam_16 (x_le0 hR3 hR4)) ?_
    cases h
    rw [hQ]
    exact x_iret C0 hr hlocks hH hS hz d_Mod_seam_19
  · refine lv_iconst (v := 0) C0.1 C0.2.1 d_Mod_seam_9 (by decide) ?_
    refine x_goto C0 19 d_Mod_seam_10 (by decide) ?_
    cases h
    rw [hQ]
    exact x_iret C0 hr hlocks hH hS hz d_Mod_seam_19
theorem d_Mod_sum_0 : decode b_Mod_sum 0 = .ok (.aload_n 0, 1) := by decide +kernel
theorem d_Mod_sum_1 : decode b_Mod_sum 1 = .ok (.iload_n 1, 1) := by decide +kernel
theorem d_Mod_sum_2 : decode b_Mod_sum 2 = .ok (.iload_n 2, 1) := by decide +kernel
theorem d_Mod_sum_3 : decode b_Mod_sum 3 = .ok (.invokevirtual 136, 3) := by decide +kernel
theorem d_Mod_sum_6 : decode b_Mod_sum 6 = .ok (.ifCond .eq 5, 3) := by decide +kernel
theorem d_Mod_sum_9 : decode b_Mod_sum 9 = .ok (.lconst 0, 1) := by decide +kernel
theorem d_Mod_sum_10 : decode b_Mod_sum 10 = .ok (.lreturn, 1) := by decide +kernel
theorem d_Mod_sum_11 : decode b_Mod_sum 11 = .ok (.aload_n 0, 1) := by decide +kernel
theorem d_Mod_sum_12 : decode b_Mod_sum 12 = .ok (.iload_n 3, 1) := by decide +kernel
theorem d_Mod_sum_13 : decode b_Mod_sum 13 = .ok (.bipush (-3), 2) := by decide +kernel
theorem d_Mod_sum_15 : decode b_Mod_sum 15 = .ok (.iconst 3, 1) := by decide +kernel
theorem d_Mod_sum_16 : decode b_Mod_sum 16 = .ok (.invokestatic 66, 3) := by decide +kernel
theorem d_Mod_sum_19 : decode b_Mod_sum 19 = .ok (.ifCond .eq 7, 3) := by decide +kernel
theorem d_Mod_sum_22 : decode b_Mod_sum 22 = .ok (.iconst 0, 1) := by decide +kernel
theorem d_Mod_sum_23 : decode b_Mod_sum 23 = .ok (.goto 4, 3) := by decide +kernel
theorem d_Mod_sum_26 : decode b_Mod_sum 26 = .ok (.iconst 2, 1) := by decide +kernel
theorem d_Mod_sum_27 : decode b_Mod_sum 27 = .ok (.putfield 59, 3) := by decide +kernel
theorem d_Mod_sum_30 : decode b_Mod_sum 30 = .ok (.aload_n 0, 1) := by decide +kernel
theorem d_Mod_sum_31 : decode b_Mod_sum 31 = .ok (.getfield 59, 3) := by decide +kernel
theorem d_Mod_sum_34 : decode b_Mod_sum 34 = .ok (.ifCond .le 7, 3) := by decide +kernel
theorem d_Mod_sum_37 : decode b_Mod_sum 37 = .ok (.lconst 0, 1) := by decide +kernel
theorem d_Mod_sum_38 : decode b_Mod_sum 38 = .ok (.goto 11, 3) := by decide +kernel
theorem d_Mod_sum_41 : decode b_Mod_sum 41 = .ok (.aload_n 0, 1) := by decide +kernel
theorem d_Mod_sum_42 : decode b_Mod_sum 42 = .ok (.iload_n 1, 1) := by decide +kernel
theorem d_Mod_sum_43 : decode b_Mod_sum 43 = .ok (.iload_n 2, 1) := by decide +kernel
theorem d_Mod_sum_44 : decode b_Mod_sum 44 = .ok (.iload_n 3, 1) := by decide +kernel
theorem d_Mod_sum_45 : decode b_Mod_sum 45 = .ok (.invokevirtual 109, 3) := by decide +kernel
theorem d_Mod_sum_48 : decode b_Mod_sum 48 = .ok (.i2l, 1) := by decide +kernel
theorem d_Mod_sum_49 : decode b_Mod_sum 49 = .ok (.lreturn, 1) := by decide +kernel
def f_Mod_sum (w : Mp) (h0 : Nat) (x1 : Int32) (x2 : Int32) (x3 : Int32) : Option (Int64 × Mp) := (xo w (some h0) 5).bind fun b_2 => (f_Mod_noSeam w b_2 x1 x2).bind fun q_1 => if q_1.1 = 0 then ((f_Mod_isIn q_1.2 x3 (-3 : Int32) (3 : Int32)).bind fun q_3 => xJ1 (fun (x_4 : Int32) => (pF q_1.2 (some h0) 5 0 (.int x_4)).bind fun w_6 => (gI w_6 (some h0) 5 0).bind fun v_7 => if v_7 ≤ 0 then ((xo w_6 (some h0) 5).bind fun b_9 => (f_Mod_sumAt w_6 b_9 x1 x2 x3).bind fun q_8 => some (q_8.toInt64, w_6)) else (some ((0 : Int64), w_6))) fun J_5 => if q_3 = 0 then (J_5 (2 : Int32)) else (J_5 (0 : Int32))) else (some ((0 : Int64), q_1.2))
set_option maxHeartbeats 4000000 in
set_option maxRecDepth 100000 in
theorem c_Mod_sum (l : Launch) (G : Gx) (w : Mp) (sz : Nat) (h0 : Nat) (x1 : Int32) (x2 : Int32) (x3 : Int32) (res : Int64 × Mp) (hf : f_Mod_sum w h0 x1 x2 x3 = some res) : Met l y_Mod_sum (xws y_Mod_sum b_Mod_sum 4 (some .long)) { frames := 3, cells := 0, slots := 0, locals := 77 } (xPc G vwCl xaty w sz [va_rf (some h0), .int x1, .int x2, .int x3]) (xQ G vwCl (some (.long res.1)) res.2 sz) (0) (0) (xA G) := by
  refine Met.ofW (cc := b_Mod_sum) (maxL := 4) (ret := (some .long)) (by decide) rfl ?_
  intro p e s m args below meth c s₁ B hml hv
  obtain ⟨ha, hE, hH, hz⟩ := hv
  have C0 : CallFix p m c b_Mod_sum 4 s args wA R_Mod := ⟨B.exec, B.bytes, hml, findClass_of_methodNamed B.named, fun w hw => atoms_spec (ws := xws y_Mod_sum b_Mod_sum 4 (some .long)) B.pre w (List.mem_cons_of_mem _ hw)⟩
  have hr := B.returns
  have hlocks := B.notSynchronized
  obtain ⟨R, hR⟩ : ∃ R, R = (headSpec (xws y_Mod_sum b_Mod_sum 4 (some .long)) { frames := 3, cells := 0, slots := 0, locals := 77 }).room := ⟨_, rfl⟩
  have hR1 : 3 ≤ R.frames := by rw [hR]; exact Nat.le_of_ble_eq_true rfl
  have hR2 : 77 ≤ R.locals := by rw [hR]; exact Nat.le_of_ble_eq_true rfl
  have hR3 : 0 ≤ R.cells := by rw [hR]; exact Nat.le_refl _
  have hR4 : 0 ≤ R.slots := by rw [hR]; exact Nat.le_refl _
  rw [← hR]
  obtain ⟨Q, hQ⟩ : ∃ Q, Q = MQ below (xQ G vwCl (some (.long res.1)) res.2 sz) args s (0) (0) (xA G) := ⟨_, rfl⟩
  rw [← hQ]
  have hS : xS G s s.heap [] := va_S.rf
  obtain ⟨ls, he, hl⟩ := x_entry m [.inr (.inl (some h0)), .inl x1, .inl x2, .inl x3] 4 (Nat.le_of_ble_eq_true rfl)
  rw [show entryFrame m args 4 = F0 m 0 ls [] by rw [ha]; exact he]
  have hl : xL ls 4 [(0, .inr (.inl (some h0))), (1, .inl x1), (2, .inl x2), (3, .inl x3)] := hl
  have h := hf
  unfold f_Mod_sum at h
  suffices hmain : ∀ (H : Heap) (locs : List Loc), xhd G vwCl w H → xS G s H locs → H.size = sz → (H = s.heap ∧ locs = []) → W p l e R s m args below meth c H locs 0 0 Q (F0 m 0 ls []) from hmain _ _ hH hS hz ⟨rfl, rfl⟩
  clear hH hS hz
  intro H locs hH hS hz hP0
  refine x_aload_n C0 hl 0 d_Mod_sum_0 rfl rfl ?_
  refine x_iload_n C0 hl 1 d_Mod_sum_1 rfl rfl ?_
  refine x_iload_n C0 hl 2 d_Mod_sum_2 rfl rfl ?_
  obtain ⟨b_2, e9, h⟩ := Option.bind_eq_some_iff.mp h
  obtain ⟨e8, fs9, hb9⟩ := xo_inv e9
  obtain ⟨q_1, e9, h⟩ := Option.bind_eq_some_iff.mp h
  refine x_call0 hS (va_runV (As := [.int x1, .int x2]) (rest := []) C0 (c_Mod_noSeam l G w _ b_2 x1 x2 q_1 e9) (x_cwV 2 C0 kw_5_11 kw_5_14 kw_1_3 kw_5_13 kw_0_30 (by decide +kernel) (x_rm hR1 hR2 (Nat.le_of_ble_eq_true rfl) (Nat.le_of_ble_eq_true rfl))) (x_preV hE hH hS (ci := 5) rfl hb9) rfl rfl hl.1 (by rw [e8]; rfl) (lv_room (by first | exact Nat.le_of_ble_eq_true rfl | simp only [List.map_cons, List.map_nil, List.sum_cons, List.sum_nil, va_rf_cat, x_catI, x_catL, x_catA] <;> decide)) d_Mod_sum_3 (x_le0 hR3 hR4)) (fun H locs hH hS hz9 => ?_)
  have hz := hz9.trans hz
  refine x_if_eq C0 11 d_Mod_sum_6 (by decide) h (fun h => ?_) (fun h => ?_)
  · refine x_aload_n C0 hl 0 d_Mod_sum_11 rfl rfl ?_
    refine x_iload_n C0 hl 3 d_Mod_sum_12 rfl rfl ?_
    refine lv_bipush (v := -3) C0.1 C0.2.1 d_Mod_sum_13 (by decide) ?_
    refine lv_iconst (v := 3) C0.1 C0.2.1 d_Mod_sum_15 (by decide) ?_
    obtain ⟨q_3, e9, h⟩ := Option.bind_eq_some_iff.mp h
    refine x_callP (va_runS (As := [.int x3, .int (-3 : Int32), .int (3 : Int32)]) (rest := [va_rf (some h0)]) C0 (c_Mod_isIn l G q_1.2 _ x3 (-3 : Int32) (3 : Int32) q_3 e9) (x_cwS 3 C0 kw_4_155 kw_4_157 kw_1_3 kw_4_156 (by decide +kernel) (x_rm hR1 hR2 (Nat.le_of_ble_eq_true rfl) (Nat.le_of_ble_eq_true rfl))) (x_preS hE hH hS) rfl rfl hl.1 rfl (lv_room (by first | exact Nat.le_of_ble_eq_true rfl | simp only [List.map_cons, List.map_nil, List.sum_cons, List.sum_nil, va_rf_cat, x_catI, x_catL, x_catA] <;> decide)) d_Mod_sum_16 (x_le0 hR3 hR4)) ?_
    refine xj1 h (fun J_5 eJ_5 h => ?_)
    have kJ_5 : ∀ (x_4 : Int32) (ls : Array Slot), xL ls 4 [(0, .inr (.inl (some h0))), (1, .inl x1), (2, .inl x2), (3, .inl x3)] → J_5 x_4 = some res → W p l e R s m args below meth c H locs 0 0 Q (F0 m 27 ls [.int x_4, va_rf (some h0)]) := by
      intro x_4 ls hl h
      rw [eJ_5] at h
      refine x_put C0 hE hH hS (ci := 5) rfl i_Mod t_Mod t_Mod_ok n_Mod 0 (by decide) kw_4_79 rfl rfl rfl d_Mod_sum_27 h (fun w_6 H locs hH hS hz9 h => ?_)
      have hz := hz9.trans hz
      refine x_aload_n C0 hl 0 d_Mod_sum_30 rfl rfl ?_
      refine x_getI C0 hE hH (ci := 5) rfl i_Mod 0 (by decide) kw_4_79 d_Mod_sum_31 h (fun v_7 h => ?_)
      refine x_if_le C0 41 d_Mod_sum_34 (by decide) h (fun h => ?_) (fun h => ?_)
      · refine x_aload_n C0 hl 0 d_Mod_sum_41 rfl rfl ?_
        refine x_iload_n C0 hl 1 d_Mod_sum_42 rfl rfl ?_
        refine x_iload_n C0 hl 2 d_Mod_sum_43 rfl rfl ?_
        refine x_iload_n C0 hl 3 d_Mod_sum_44 rfl rfl ?_
        obtain ⟨b_9, e9, h⟩ := Option.bind_eq_some_iff.mp h
        obtain ⟨e8, fs9, hb9⟩ := xo_inv e9
        obtain ⟨q_8, e9, h⟩ := Option.bind_eq_some_iff.mp h
        refine x_callP (va_runV (As := [.int x1, .int x2, .int x3]) (rest := []) C0 (c_Mod_sumAt l G w_6 _ b_9 x1 x2 x3 q_8 e9) (x_cwV 3 C0 kw_4_218 kw_4_221 kw_1_3 kw_4_220 kw_0_25 (by decide +kernel) (x_rm hR1 hR2 (Nat.le_of_ble_eq_true rfl) (Nat.le_of_ble_eq_true rfl))) (x_preV hE hH hS (ci := 5) rfl hb9) rfl rfl hl.1 (by rw [e8]; rfl) (lv_room (by first | exact Nat.le_of_ble_eq_true rfl | simp only [List.map_cons, List.map_nil, List.sum_cons, List.sum_nil, va_rf_cat, x_catI, x_catL, x_catA] <;> decide)) d_Mod_sum_45 (x_le0 hR3 hR4)) ?_
        refine lv_i2l C0.1 C0.2.1 d_Mod_sum_48 rfl ?_
        cases h
        rw [hQ]
        exact x_lret C0 hr hlocks hH hS hz d_Mod_sum_49
      · refine lv_lconst (v := 0) C0.1 C0.2.1 d_Mod_sum_37 (by decide) ?_
        refine x_goto C0 49 d_Mod_sum_38 (by decide) ?_
        cases h
        rw [hQ]
        exact x_lret C0 hr hlocks hH hS hz d_Mod_sum_49
    refine x_if_eq C0 26 d_Mod_sum_19 (by decide) h (fun h => ?_) (fun h => ?_)
    · refine lv_iconst (v := 2) C0.1 C0.2.1 d_Mod_sum_26 (by decide) ?_
      exact kJ_5 _ ls (x_sub hl [0, 1, 2, 3] rfl) h
    · refine lv_iconst (v := 0) C0.1 C0.2.1 d_Mod_sum_22 (by decide) ?_
      refine x_goto C0 27 d_Mod_sum_23 (by decide) ?_
      exact kJ_5 _ ls (x_sub hl [0, 1, 2, 3] rfl) h
  · refine lv_lconst (v := 0) C0.1 C0.2.1 d_Mod_sum_9 (by decide) ?_
    cases h
    rw [hQ]
    exact x_lret C0 hr hlocks hH hS hz d_Mod_sum_10
theorem d_Mod_mirrored_0 : decode b_Mod_mirrored 0 = .ok (.aload_n 0, 1) := by decide +kernel
theorem d_Mod_mirrored_1 : decode b_Mod_mirrored 1 = .ok (.iload_n 1, 1) := by decide +kernel
theorem d_Mod_mirrored_2 : decode b_Mod_mirrored 2 = .ok (.iload_n 2, 1) := by decide +kernel
theorem d_Mod_mirrored_3 : decode b_Mod_mirrored 3 = .ok (.invokevirtual 136, 3) := by decide +kernel
theorem d_Mod_mirrored_6 : decode b_Mod_mirrored 6 = .ok (.ifCond .ne 17, 3) := by decide +kernel
theorem d_Mod_mirrored_9 : decode b_Mod_mirrored 9 = .ok (.aload_n 0, 1) := by decide +kernel
theorem d_Mod_mirrored_10 : decode b_Mod_mirrored 10 = .ok (.iload_n 1, 1) := by decide +kernel
theorem d_Mod_mirrored_11 : decode b_Mod_mirrored 11 = .ok (.iload_n 2, 1) := by decide +kernel
theorem d_Mod_mirrored_12 : decode b_Mod_mirrored 12 = .ok (.iconst 0, 1) := by decide +kernel
theorem d_Mod_mirrored_13 : decode b_Mod_mirrored 13 = .ok (.invokevirtual 109, 3) := by decide +kernel
theorem d_Mod_mirrored_16 : decode b_Mod_mirrored 16 = .ok (.ifCond .ne 7, 3) := by decide +kernel
theorem d_Mod_mirrored_19 : decode b_Mod_mirrored 19 = .ok (.iconst 1, 1) := by decide +kernel
theorem d_Mod_mirrored_20 : decode b_Mod_mirrored 20 = .ok (.goto 4, 3) := by decide +kernel
theorem d_Mod_mirrored_23 : decode b_Mod_mirrored 23 = .ok (.iconst 0, 1) := by decide +kernel
theorem d_Mod_mirrored_24 : decode b_Mod_mirrored 24 = .ok (.ireturn, 1) := by decide +kernel
def f_Mod_mirrored (w : Mp) (h0 : Nat) (x1 : Int32) (x2 : Int32) : Option (Int32 × Mp) := (xo w (some h0) 5).bind fun b_2 => (f_Mod_noSeam w b_2 x1 x2).bind fun q_1 => if q_1.1 = 0 then ((xo q_1.2 (some h0) 5).bind fun b_4 => (f_Mod_sumAt q_1.2 b_4 x1 x2 (0 : Int32)).bind fun q_3 => if q_3 = 0 then (some ((1 : Int32), q_1.2)) else (some ((0 : Int32), q_1.2))) else (some ((0 : Int32), q_1.2))
set_option maxHeartbeats 4000000 in
set_option maxRecDepth 100000 in
theorem c_Mod_mirrored (l : Launch) (G : Gx) (w : Mp) (sz : Nat) (h0 : Nat) (x1 : Int32) (x2 : Int32) (res : Int32 × Mp) (hf : f_Mod_mirrored w h0 x1 x2 = some res) : Met l y_Mod_mirrored (xws y_Mod_mirrored b_Mod_mirrored 3 (some .boolean)) { frames := 3, cells := 0, slots := 0, locals := 77 } (xPc G vwCl xaty w sz [va_rf (some h0), .int x1, .int x2]) (xQ G vwCl (some (.int res.1)) res.2 sz) (0) (0) (xA G) := by
  refine Met.ofW (cc := b_Mod_mirrored) (maxL := 3) (ret := (some .boolean)) (by decide) rfl ?_
  intro p e s m args below meth c s₁ B hml hv
  obtain ⟨ha, hE, hH, hz⟩ := hv
  have C0 : CallFix p m c b_Mod_mirrored 3 s args wA R_Mod := ⟨B.exec, B.bytes, hml, findClass_of_methodNamed B.named, fun w hw => atoms_spec (ws := xws y_Mod_mirrored b_Mod_mirrored 3 (some .boolean)) B.pre w (List.mem_cons_of_mem _ hw)⟩
  have hr := B.returns
  have hlocks := B.notSynchronized
  obtain ⟨R, hR⟩ : ∃ R, R = (headSpec (xws y_Mod_mirrored b_Mod_mirrored 3 (some .boolean)) { frames := 3, cells := 0, slots := 0, locals := 77 }).room := ⟨_, rfl⟩
  have hR1 : 3 ≤ R.frames := by rw [hR]; exact Nat.le_of_ble_eq_true rfl
  have hR2 : 77 ≤ R.locals := by rw [hR]; exact Nat.le_of_ble_eq_true rfl
  have hR3 : 0 ≤ R.cells := by rw [hR]; exact Nat.le_refl _
  have hR4 : 0 ≤ R.slots := by rw [hR]; exact Nat.le_refl _
  rw [← hR]
  obtain ⟨Q, hQ⟩ : ∃ Q, Q = MQ below (xQ G vwCl (some (.int res.1)) res.2 sz) args s (0) (0) (xA G) := ⟨_, rfl⟩
  rw [← hQ]
  have hS : xS G s s.heap [] := va_S.rf
  obtain ⟨ls, he, hl⟩ := x_entry m [.inr (.inl (some h0)), .inl x1, .inl x2] 3 (Nat.le_of_ble_eq_true rfl)
  rw [show entryFrame m args 3 = F0 m 0 ls [] by rw [ha]; exact he]
  have hl : xL ls 3 [(0, .inr (.inl (some h0))), (1, .inl x1), (2, .inl x2)] := hl
  have h := hf
  unfold f_Mod_mirrored at h
  suffices hmain : ∀ (H : Heap) (locs : List Loc), xhd G vwCl w H → xS G s H locs → H.size = sz → (H = s.heap ∧ locs = []) → W p l e R s m args below meth c H locs 0 0 Q (F0 m 0 ls []) from hmain _ _ hH hS hz ⟨rfl, rfl⟩
  clear hH hS hz
  intro H locs hH hS hz hP0
  refine x_aload_n C0 hl 0 d_Mod_mirrored_0 rfl rfl ?_
  refine x_iload_n C0 hl 1 d_Mod_mirrored_1 rfl rfl ?_
  refine x_iload_n C0 hl 2 d_Mod_mirrored_2 rfl rfl ?_
  obtain ⟨b_2, e9, h⟩ := Option.bind_eq_some_iff.mp h
  obtain ⟨e8, fs9, hb9⟩ := xo_inv e9
  obtain ⟨q_1, e9, h⟩ := Option.bind_eq_some_iff.mp h
  refine x_call0 hS (va_runV (As := [.int x1, .int x2]) (rest := []) C0 (c_Mod_noSeam l G w _ b_2 x1 x2 q_1 e9) (x_cwV 2 C0 kw_5_11 kw_5_14 kw_1_3 kw_5_13 kw_0_30 (by decide +kernel) (x_rm hR1 hR2 (Nat.le_of_ble_eq_true rfl) (Nat.le_of_ble_eq_true rfl))) (x_preV hE hH hS (ci := 5) rfl hb9) rfl rfl hl.1 (by rw [e8]; rfl) (lv_room (by first | exact Nat.le_of_ble_eq_true rfl | simp only [List.map_cons, List.map_nil, List.sum_cons, List.sum_nil, va_rf_cat, x_catI, x_catL, x_catA] <;> decide)) d_Mod_mirrored_3 (x_le0 hR3 hR4)) (fun H locs hH hS hz9 => ?_)
  have hz := hz9.trans hz
  refine x_if_ne C0 23 d_Mod_mirrored_6 (by decide) h (fun h => ?_) (fun h => ?_)
  · refine lv_iconst (v := 0) C0.1 C0.2.1 d_Mod_mirrored_23 (by decide) ?_
    cases h
    rw [hQ]
    exact x_zret (v := (0 : Int32)) C0 hr hlocks hH hS hz rfl d_Mod_mirrored_24
  · refine x_aload_n C0 hl 0 d_Mod_mirrored_9 rfl rfl ?_
    refine x_iload_n C0 hl 1 d_Mod_mirrored_10 rfl rfl ?_
    refine x_iload_n C0 hl 2 d_Mod_mirrored_11 rfl rfl ?_
    refine lv_iconst (v := 0) C0.1 C0.2.1 d_Mod_mirrored_12 (by decide) ?_
    obtain ⟨b_4, e9, h⟩ := Option.bind_eq_some_iff.mp h
    obtain ⟨e8, fs9, hb9⟩ := xo_inv e9
    obtain ⟨q_3, e9, h⟩ := Option.bind_eq_some_iff.mp h
    refine x_callP (va_runV (As := [.int x1, .int x2, .int (0 : Int32)]) (rest := []) C0 (c_Mod_sumAt l G q_1.2 _ b_4 x1 x2 (0 : Int32) q_3 e9) (x_cwV 3 C0 kw_4_218 kw_4_221 kw_1_3 kw_4_220 kw_0_25 (by decide +kernel) (x_rm hR1 hR2 (Nat.le_of_ble_eq_true rfl) (Nat.le_of_ble_eq_true rfl))) (x_preV hE hH hS (ci := 5) rfl hb9) rfl rfl hl.1 (by rw [e8]; rfl) (lv_room (by first | exact Nat.le_of_ble_eq_true rfl | simp only [List.map_cons, List.map_nil, List.sum_cons, List.sum_nil, va_rf_cat, x_catI, x_catL, x_catA] <;> decide)) d_Mod_mirrored_13 (x_le0 hR3 hR4)) ?_
    refine x_if_ne C0 23 d_Mod_mirrored_16 (by decide) h (fun h => ?_) (fun h => ?_)
    · refine lv_iconst (v := 0) C0.1 C0.2.1 d_Mod_mirrored_23 (by decide) ?_
      cases h
      rw [hQ]
      exact x_zret (v := (0 : Int32)) C0 hr hlocks hH hS hz rfl d_Mod_mirrored_24
    · refine lv_iconst (v := 1) C0.1 C0.2.1 d_Mod_mirrored_19 (by decide) ?_
      refine x_goto C0 24 d_Mod_mirrored_20 (by decide) ?_
      cases h
      rw [hQ]
      exact x_zret (v := (1 : Int32)) C0 hr hlocks hH hS hz rfl d_Mod_mirrored_24
theorem d_Mod_balance_0 : decode b_Mod_balance 0 = .ok (.aload_n 0, 1) := by decide +kernel
theorem d_Mod_balance_1 : decode b_Mod_balance 1 = .ok (.iload_n 1, 1) := by decide +kernel
theorem d_Mod_balance_2 : decode b_Mod_balance 2 = .ok (.invokevirtual 84, 3) := by decide +kernel
theorem d_Mod_balance_5 : decode b_Mod_balance 5 = .ok (.ifCond .eq 5, 3) := by decide +kernel
theorem d_Mod_balance_8 : decode b_Mod_balance 8 = .ok (.iconst 0, 1) := by decide +kernel
theorem d_Mod_balance_9 : decode b_Mod_balance 9 = .ok (.ireturn, 1) := by decide +kernel
theorem d_Mod_balance_10 : decode b_Mod_balance 10 = .ok (.aload_n 0, 1) := by decide +kernel
theorem d_Mod_balance_11 : decode b_Mod_balance 11 = .ok (.iload_n 1, 1) := by decide +kernel
theorem d_Mod_balance_12 : decode b_Mod_balance 12 = .ok (.invokevirtual 130, 3) := by decide +kernel
theorem d_Mod_balance_15 : decode b_Mod_balance 15 = .ok (.istore_n 2, 1) := by decide +kernel
theorem d_Mod_balance_16 : decode b_Mod_balance 16 = .ok (.iconst 0, 1) := by decide +kernel
theorem d_Mod_balance_17 : decode b_Mod_balance 17 = .ok (.istore_n 3, 1) := by decide +kernel
theorem d_Mod_balance_18 : decode b_Mod_balance 18 = .ok (.iconst 0, 1) := by decide +kernel
theorem d_Mod_balance_19 : decode b_Mod_balance 19 = .ok (.istore 4, 2) := by decide +kernel
theorem d_Mod_balance_21 : decode b_Mod_balance 21 = .ok (.iload 4, 2) := by decide +kernel
theorem d_Mod_balance_23 : decode b_Mod_balance 23 = .ok (.aload_n 0, 1) := by decide +kernel
theorem d_Mod_balance_24 : decode b_Mod_balance 24 = .ok (.getfield 35, 3) := by decide +kernel
theorem d_Mod_balance_27 : decode b_Mod_balance 27 = .ok (.iload_n 1, 1) := by decide +kernel
theorem d_Mod_balance_28 : decode b_Mod_balance 28 = .ok (.iaload, 1) := by decide +kernel
theorem d_Mod_balance_29 : decode b_Mod_balance 29 = .ok (.if_icmp .ge 52, 3) := by decide +kernel
theorem d_Mod_balance_32 : decode b_Mod_balance 32 = .ok (.aload_n 0, 1) := by decide +kernel
theorem d_Mod_balance_33 : decode b_Mod_balance 33 = .ok (.iload_n 1, 1) := by decide +kernel
theorem d_Mod_balance_34 : decode b_Mod_balance 34 = .ok (.iload 4, 2) := by decide +kernel
theorem d_Mod_balance_36 : decode b_Mod_balance 36 = .ok (.invokevirtual 122, 3) := by decide +kernel
theorem d_Mod_balance_39 : decode b_Mod_balance 39 = .ok (.istore 5, 2) := by decide +kernel
theorem d_Mod_balance_41 : decode b_Mod_balance 41 = .ok (.iload_n 3, 1) := by decide +kernel
theorem d_Mod_balance_42 : decode b_Mod_balance 42 = .ok (.ifCond .ne 27, 3) := by decide +kernel
theorem d_Mod_balance_45 : decode b_Mod_balance 45 = .ok (.iconst 2, 1) := by decide +kernel
theorem d_Mod_balance_46 : decode b_Mod_balance 46 = .ok (.iload 5, 2) := by decide +kernel
theorem d_Mod_balance_48 : decode b_Mod_balance 48 = .ok (.imul, 1) := by decide +kernel
theorem d_Mod_balance_49 : decode b_Mod_balance 49 = .ok (.iload_n 2, 1) := by decide +kernel
theorem d_Mod_balance_50 : decode b_Mod_balance 50 = .ok (.if_icmp .eq 19, 3) := by decide +kernel
theorem d_Mod_balance_53 : decode b_Mod_balance 53 = .ok (.iconst 2, 1) := by decide +kernel
theorem d_Mod_balance_54 : decode b_Mod_balance 54 = .ok (.iload 5, 2) := by decide +kernel
theorem d_Mod_balance_56 : decode b_Mod_balance 56 = .ok (.imul, 1) := by decide +kernel
theorem d_Mod_balance_57 : decode b_Mod_balance 57 = .ok (.aload_n 0, 1) := by decide +kernel
theorem d_Mod_balance_58 : decode b_Mod_balance 58 = .ok (.iload_n 1, 1) := by decide +kernel
theorem d_Mod_balance_59 : decode b_Mod_balance 59 = .ok (.iload 4, 2) := by decide +kernel
theorem d_Mod_balance_61 : decode b_Mod_balance 61 = .ok (.invokevirtual 102, 3) := by decide +kernel
theorem d_Mod_balance_64 : decode b_Mod_balance 64 = .ok (.iadd, 1) := by decide +kernel
theorem d_Mod_balance_65 : decode b_Mod_balance 65 = .ok (.iload_n 2, 1) := by decide +kernel
theorem d_Mod_balance_66 : decode b_Mod_balance 66 = .ok (.if_icmp .ne 7, 3) := by decide +kernel
theorem d_Mod_balance_69 : decode b_Mod_balance 69 = .ok (.iconst 1, 1) := by decide +kernel
theorem d_Mod_balance_70 : decode b_Mod_balance 70 = .ok (.goto 4, 3) := by decide +kernel
theorem d_Mod_balance_73 : decode b_Mod_balance 73 = .ok (.iconst 0, 1) := by decide +kernel
theorem d_Mod_balance_74 : decode b_Mod_balance 74 = .ok (.istore_n 3, 1) := by decide +kernel
theorem d_Mod_balance_75 : decode b_Mod_balance 75 = .ok (.iinc 4 1, 3) := by decide +kernel
theorem d_Mod_balance_78 : decode b_Mod_balance 78 = .ok (.goto (-57), 3) := by decide +kernel
theorem d_Mod_balance_81 : decode b_Mod_balance 81 = .ok (.iload_n 3, 1) := by decide +kernel
theorem d_Mod_balance_82 : decode b_Mod_balance 82 = .ok (.ireturn, 1) := by decide +kernel
def f_Mod_balance_L21 (w : Mp) (h0 : Nat) (x1 : Int32) (x2 : Int32) : Nat → Int32 → Int32 → Option (Nat × Int32 × Int32)
  | 0, _, _ => none
  | n + 1, x3, x4 => (gR w (some h0) 5 11).bind fun v_5 => (aI w v_5 0 x1).bind fun v_6 => if v_6 ≤ x4 then (some (0, x3, x4)) else ((xo w (some h0) 5).bind fun b_8 => (f_Mod_across w b_8 x1 x4).bind fun q_7 => if x3 = 0 then (if ((2 : Int32) * q_7) = x2 then (f_Mod_balance_L21 w h0 x1 x2 n (1 : Int32) (x4 + 1)) else ((xo w (some h0) 5).bind fun b_10 => (f_Mod_wide w b_10 x1 x4).bind fun q_9 => if (((2 : Int32) * q_7) + q_9) = x2 then (f_Mod_balance_L21 w h0 x1 x2 n (1 : Int32) (x4 + 1)) else (f_Mod_balance_L21 w h0 x1 x2 n (0 : Int32) (x4 + 1)))) else (f_Mod_balance_L21 w h0 x1 x2 n (1 : Int32) (x4 + 1)))
set_option maxHeartbeats 4000000 in
set_option maxRecDepth 100000 in
theorem w_Mod_balance_L21 {p : Program} {l : Launch} {e : Env} {R : Room} {s : State} {m : MethodId} {args : Array Value} {below : List Frame} {meth : Method} {c : Code} {Q : State → Prop} {cells slots sz : Nat} {G : Gx} {h0 : Nat} {x1 : Int32} {x2 : Int32} (C0 : CallFix p m c b_Mod_balance 6 s args wA R_Mod) (hE : xE G vwCl xaty s) (hR1 : 3 ≤ R.frames) (hR2 : 70 ≤ R.locals) (hR3 : cells ≤ R.cells) (hR4 : slots ≤ R.slots) {w : Mp} {H : Heap} {locs : List Loc} (hH : xhd G vwCl w H) (hS : xS G s H locs) (hz : H.size = sz) : ∀ (n : Nat) (x3 : Int32) (x4 : Int32) (q : Nat × Int32 × Int32) (ls : Array Slot), xL ls 6 [(0, .inr (.inl (some h0))), (1, .inl x1), (2, .inl x2), (3, .inl x3), (4, .inl x4)] → f_Mod_balance_L21 w h0 x1 x2 n x3 x4 = some q → (∀ (ls : Array Slot), xL ls 6 [(0, .inr (.inl (some h0))), (1, .inl x1), (2, .inl x2), (3, .inl q.2.1), (4, .inl q.2.2)] → W p l e R s m args below meth c H locs cells slots Q (F0 m 81 ls [])) → W p l e R s m args below meth c H locs cells slots Q (F0 m 21 ls []) := by
  intro n
  induction n with
  | zero => intro _ _ q ls hl h; cases h
  | succ n ih =>
    intro x3 x4 q ls hl h K
    rw [f_Mod_balance_L21] at h
    refine x_iload C0 hl 4 d_Mod_balance_21 rfl ?_
    refine x_aload_n C0 hl 0 d_Mod_balance_23 rfl rfl ?_
    refine x_getR C0 hE hH (ci := 5) rfl i_Mod 11 (by decide) kw_4_90 d_Mod_balance_24 h (fun v_5 h => ?_)
    refine x_iload_n C0 hl 1 d_Mod_balance_27 rfl rfl ?_
    refine x_iald C0 hE hH (t := 0) rfl d_Mod_balance_28 h (fun v_6 h => ?_)
    refine x_icmp_ge C0 81 d_Mod_balance_29 (by decide) h (fun h => ?_) (fun h => ?_)
    · cases h
      exact K ls (x_sub hl [0, 1, 2, 3, 4] rfl)
    · refine x_aload_n C0 hl 0 d_Mod_balance_32 rfl rfl ?_
      refine x_iload_n C0 hl 1 d_Mod_balance_33 rfl rfl ?_
      refine x_iload C0 hl 4 d_Mod_balance_34 rfl ?_
      obtain ⟨b_8, e9, h⟩ := Option.bind_eq_some_iff.mp h
      obtain ⟨e8, fs9, hb9⟩ := xo_inv e9
      obtain ⟨q_7, e9, h⟩ := Option.bind_eq_some_iff.mp h
      refine x_callP (va_runV (As := [.int x1, .int x4]) (rest := []) C0 (c_Mod_across l G w _ b_8 x1 x4 q_7 e9) (x_cwV 2 C0 kw_4_198 kw_4_201 kw_1_3 kw_4_200 kw_0_20 (by decide +kernel) (x_rm hR1 hR2 (Nat.le_of_ble_eq_true rfl) (Nat.le_of_ble_eq_true rfl))) (x_preV hE hH hS (ci := 5) rfl hb9) rfl rfl hl.1 (by rw [e8]; rfl) (lv_room (by first | exact Nat.le_of_ble_eq_true rfl | simp only [List.map_cons, List.map_nil, List.sum_cons, List.sum_nil, va_rf_cat, x_catI, x_catL, x_catA] <;> decide)) d_Mod_balance_36 (x_le0 hR3 hR4)) ?_
      refine x_istore (lv' := [(5, .inl q_7), (0, .inr (.inl (some h0))), (1, .inl x1), (2, .inl x2), (3, .inl x3), (4, .inl x4)]) C0 hl d_Mod_balance_39 (by decide) rfl (fun ls hl => ?_)
      refine x_iload_n C0 hl 4 d_Mod_balance_41 rfl rfl ?_
      refine x_if_ne C0 69 d_Mod_balance_42 (by decide) h (fun h => ?_) (fun h => ?_)
      · refine lv_iconst (v := 1) C0.1 C0.2.1 d_Mod_balance_69 (by decide) ?_
        refine x_goto C0 74 d_Mod_balance_70 (by decide) ?_
        refine x_istore_n (lv' := [(3, .inl (1 : Int32)), (5, .inl q_7), (0, .inr (.inl (some h0))), (1, .inl x1), (2, .inl x2), (4, .inl x4)]) C0 hl d_Mod_balance_74 rfl (by decide) rfl (fun ls hl => ?_)
        refine x_iinc (v := 1) (lv' := [(4, .inl (x4 + 1)), (3, .inl (1 : Int32)), (5, .inl q_7), (0, .inr (.inl (some h0))), (1, .inl x1), (2, .inl x2)]) C0 hl 5 d_Mod_balance_75 rfl (by decide) (by decide) rfl (fun ls hl => ?_)
        refine x_goto C0 21 d_Mod_balance_78 (by decide) ?_
        exact ih _ _ q ls (x_sub hl [3, 4, 5, 1, 0] rfl) h K
      · refine lv_iconst (v := 2) C0.1 C0.2.1 d_Mod_balance_45 (by decide) ?_
        refine x_iload C0 hl 0 d_Mod_balance_46 rfl ?_
        refine lv_imul C0.1 C0.2.1 d_Mod_balance_48 ?_
        refine x_iload_n C0 hl 3 d_Mod_balance_49 rfl rfl ?_
        refine x_icmp_eq C0 69 d_Mod_balance_50 (by decide) h (fun h => ?_) (fun h => ?_)
        · refine lv_iconst (v := 1) C0.1 C0.2.1 d_Mod_balance_69 (by decide) ?_
          refine x_goto C0 74 d_Mod_balance_70 (by decide) ?_
          refine x_istore_n (lv' := [(3, .inl (1 : Int32)), (5, .inl q_7), (0, .inr (.inl (some h0))), (1, .inl x1), (2, .inl x2), (4, .inl x4)]) C0 hl d_Mod_balance_74 rfl (by decide) rfl (fun ls hl => ?_)
          refine x_iinc (v := 1) (lv' := [(4, .inl (x4 + 1)), (3, .inl (1 : Int32)), (5, .inl q_7), (0, .inr (.inl (some h0))), (1, .inl x1), (2, .inl x2)]) C0 hl 5 d_Mod_balance_75 rfl (by decide) (by decide) rfl (fun ls hl => ?_)
          refine x_goto C0 21 d_Mod_balance_78 (by decide) ?_
          exact ih _ _ q ls (x_sub hl [3, 4, 5, 1, 0] rfl) h K
        · refine lv_iconst (v := 2) C0.1 C0.2.1 d_Mod_balance_53 (by decide) ?_
          refine x_iload C0 hl 0 d_Mod_balance_54 rfl ?_
          refine lv_imul C0.1 C0.2.1 d_Mod_balance_56 ?_
          refine x_aload_n C0 hl 1 d_Mod_balance_57 rfl rfl ?_
          refine x_iload_n C0 hl 2 d_Mod_balance_58 rfl rfl ?_
          refine x_iload C0 hl 5 d_Mod_balance_59 rfl ?_
          obtain ⟨b_10, e9, h⟩ := Option.bind_eq_some_iff.mp h
          obtain ⟨e8, fs9, hb9⟩ := xo_inv e9
          obtain ⟨q_9, e9, h⟩ := Option.bind_eq_some_iff.mp h
          refine x_callP (va_runV (As := [.int x1, .int x4]) (rest := [.int ((2 : Int32) * q_7)]) C0 (c_Mod_wide l G w _ b_10 x1 x4 q_9 e9) (x_cwV 2 C0 kw_4_202 kw_4_205 kw_1_3 kw_4_204 kw_0_21 (by decide +kernel) (x_rm hR1 hR2 (Nat.le_of_ble_eq_true rfl) (Nat.le_of_ble_eq_true rfl))) (x_preV hE hH hS (ci := 5) rfl hb9) rfl rfl hl.1 (by rw [e8]; rfl) (lv_room (by first | exact Nat.le_of_ble_eq_true rfl | simp only [List.map_cons, List.map_nil, List.sum_cons, List.sum_nil, va_rf_cat, x_catI, x_catL, x_catA] <;> decide)) d_Mod_balance_61 (x_le0 hR3 hR4)) ?_
          refine lv_iadd C0.1 C0.2.1 d_Mod_balance_64 ?_
          refine x_iload_n C0 hl 3 d_Mod_balance_65 rfl rfl ?_
          refine x_icmp_ne C0 73 d_Mod_balance_66 (by decide) h (fun h => ?_) (fun h => ?_)
          · refine lv_iconst (v := 0) C0.1 C0.2.1 d_Mod_balance_73 (by decide) ?_
            refine x_istore_n (lv' := [(3, .inl (0 : Int32)), (5, .inl q_7), (0, .inr (.inl (some h0))), (1, .inl x1), (2, .inl x2), (4, .inl x4)]) C0 hl d_Mod_balance_74 rfl (by decide) rfl (fun ls hl => ?_)
            refine x_iinc (v := 1) (lv' := [(4, .inl (x4 + 1)), (3, .inl (0 : Int32)), (5, .inl q_7), (0, .inr (.inl (some h0))), (1, .inl x1), (2, .inl x2)]) C0 hl 5 d_Mod_balance_75 rfl (by decide) (by decide) rfl (fun ls hl => ?_)
            refine x_goto C0 21 d_Mod_balance_78 (by decide) ?_
            exact ih _ _ q ls (x_sub hl [3, 4, 5, 1, 0] rfl) h K
          · refine lv_iconst (v := 1) C0.1 C0.2.1 d_Mod_balance_69 (by decide) ?_
            refine x_goto C0 74 d_Mod_balance_70 (by decide) ?_
            refine x_istore_n (lv' := [(3, .inl (1 : Int32)), (5, .inl q_7), (0, .inr (.inl (some h0))), (1, .inl x1), (2, .inl x2), (4, .inl x4)]) C0 hl d_Mod_balance_74 rfl (by decide) rfl (fun ls hl => ?_)
            refine x_iinc (v := 1) (lv' := [(4, .inl (x4 + 1)), (3, .inl (1 : Int32)), (5, .inl q_7), (0, .inr (.inl (some h0))), (1, .inl x1), (2, .inl x2)]) C0 hl 5 d_Mod_balance_75 rfl (by decide) (by decide) rfl (fun ls hl => ?_)
            refine x_goto C0 21 d_Mod_balance_78 (by decide) ?_
            exact ih _ _ q ls (x_sub hl [3, 4, 5, 1, 0] rfl) h K
def f_Mod_balance (w : Mp) (h0 : Nat) (x1 : Int32) : Option (Int32 × Mp) := (xo w (some h0) 5).bind fun b_2 => (f_Mod_noFace w b_2 x1).bind fun q_1 => if q_1.1 = 0 then ((xo q_1.2 (some h0) 5).bind fun b_4 => (f_Mod_wideOf q_1.2 b_4 x1).bind fun q_3 => (f_Mod_balance_L21 q_1.2 h0 x1 q_3 100000 (0 : Int32) (0 : Int32)).bind fun q_11 => if vp_nar .boolean q_11.2.1 = q_11.2.1 then some (q_11.2.1, q_1.2) else none) else (some ((0 : Int32), q_1.2))
set_option maxHeartbeats 4000000 in
set_option maxRecDepth 100000 in
theorem c_Mod_balance (l : Launch) (G : Gx) (w : Mp) (sz : Nat) (h0 : Nat) (x1 : Int32) (res : Int32 × Mp) (hf : f_Mod_balance w h0 x1 = some res) : Met l y_Mod_balance (xws y_Mod_balance b_Mod_balance 6 (some .boolean)) { frames := 3, cells := 0, slots := 0, locals := 70 } (xPc G vwCl xaty w sz [va_rf (some h0), .int x1]) (xQ G vwCl (some (.int res.1)) res.2 sz) (0) (0) (xA G) := by
  refine Met.ofW (cc := b_Mod_balance) (maxL := 6) (ret := (some .boolean)) (by decide) rfl ?_
  intro p e s m args below meth c s₁ B hml hv
  obtain ⟨ha, hE, hH, hz⟩ := hv
  have C0 : CallFix p m c b_Mod_balance 6 s args wA R_Mod := ⟨B.exec, B.bytes, hml, findClass_of_methodNamed B.named, fun w hw => atoms_spec (ws := xws y_Mod_balance b_Mod_balance 6 (some .boolean)) B.pre w (List.mem_cons_of_mem _ hw)⟩
  have hr := B.returns
  have hlocks := B.notSynchronized
  obtain ⟨R, hR⟩ : ∃ R, R = (headSpec (xws y_Mod_balance b_Mod_balance 6 (some .boolean)) { frames := 3, cells := 0, slots := 0, locals := 70 }).room := ⟨_, rfl⟩
  have hR1 : 3 ≤ R.frames := by rw [hR]; exact Nat.le_of_ble_eq_true rfl
  have hR2 : 70 ≤ R.locals := by rw [hR]; exact Nat.le_of_ble_eq_true rfl
  have hR3 : 0 ≤ R.cells := by rw [hR]; exact Nat.le_refl _
  have hR4 : 0 ≤ R.slots := by rw [hR]; exact Nat.le_refl _
  rw [← hR]
  obtain ⟨Q, hQ⟩ : ∃ Q, Q = MQ below (xQ G vwCl (some (.int res.1)) res.2 sz) args s (0) (0) (xA G) := ⟨_, rfl⟩
  rw [← hQ]
  have hS : xS G s s.heap [] := va_S.rf
  obtain ⟨ls, he, hl⟩ := x_entry m [.inr (.inl (some h0)), .inl x1] 6 (Nat.le_of_ble_eq_true rfl)
  rw [show entryFrame m args 6 = F0 m 0 ls [] by rw [ha]; exact he]
  have hl : xL ls 6 [(0, .inr (.inl (some h0))), (1, .inl x1)] := hl
  have h := hf
  unfold f_Mod_balance at h
  suffices hmain : ∀ (H : Heap) (locs : List Loc), xhd G vwCl w H → xS G s H locs → H.size = sz → (H = s.heap ∧ locs = []) → W p l e R s m args below meth c H locs 0 0 Q (F0 m 0 ls []) from hmain _ _ hH hS hz ⟨rfl, rfl⟩
  clear hH hS hz
  intro H locs hH hS hz hP0
  refine x_aload_n C0 hl 0 d_Mod_balance_0 rfl rfl ?_
  refine x_iload_n C0 hl 1 d_Mod_balance_1 rfl rfl ?_
  obtain ⟨b_2, e9, h⟩ := Option.bind_eq_some_iff.mp h
  obtain ⟨e8, fs9, hb9⟩ := xo_inv e9
  obtain ⟨q_1, e9, h⟩ := Option.bind_eq_some_iff.mp h
  refine x_call0 hS (va_runV (As := [.int x1]) (rest := []) C0 (c_Mod_noFace l G w _ b_2 x1 q_1 e9) (x_cwV 1 C0 kw_4_178 kw_4_181 kw_1_3 kw_4_180 kw_0_16 (by decide +kernel) (x_rm hR1 hR2 (Nat.le_of_ble_eq_true rfl) (Nat.le_of_ble_eq_true rfl))) (x_preV hE hH hS (ci := 5) rfl hb9) rfl rfl hl.1 (by rw [e8]; rfl) (lv_room (by first | exact Nat.le_of_ble_eq_true rfl | simp only [List.map_cons, List.map_nil, List.sum_cons, List.sum_nil, va_rf_cat, x_catI, x_catL, x_catA] <;> decide)) d_Mod_balance_2 (x_le0 hR3 hR4)) (fun H locs hH hS hz9 => ?_)
  have hz := hz9.trans hz
  refine x_if_eq C0 10 d_Mod_balance_5 (by decide) h (fun h => ?_) (fun h => ?_)
  · refine x_aload_n C0 hl 0 d_Mod_balance_10 rfl rfl ?_
    refine x_iload_n C0 hl 1 d_Mod_balance_11 rfl rfl ?_
    obtain ⟨b_4, e9, h⟩ := Option.bind_eq_some_iff.mp h
    obtain ⟨e8, fs9, hb9⟩ := xo_inv e9
    obtain ⟨q_3, e9, h⟩ := Option.bind_eq_some_iff.mp h
    refine x_callP (va_runV (As := [.int x1]) (rest := []) C0 (c_Mod_wideOf l G q_1.2 _ b_4 x1 q_3 e9) (x_cwV 1 C0 kw_5_3 kw_5_6 kw_1_3 kw_5_5 kw_0_29 (by decide +kernel) (x_rm hR1 hR2 (Nat.le_of_ble_eq_true rfl) (Nat.le_of_ble_eq_true rfl))) (x_preV hE hH hS (ci := 5) rfl hb9) rfl rfl hl.1 (by rw [e8]; rfl) (lv_room (by first | exact Nat.le_of_ble_eq_true rfl | simp only [List.map_cons, List.map_nil, List.sum_cons, List.sum_nil, va_rf_cat, x_catI, x_catL, x_catA] <;> decide)) d_Mod_balance_12 (x_le0 hR3 hR4)) ?_
    refine x_istore_n (lv' := [(2, .inl q_3), (0, .inr (.inl (some h0))), (1, .inl x1)]) C0 hl d_Mod_balance_15 rfl (by decide) rfl (fun ls hl => ?_)
    refine lv_iconst (v := 0) C0.1 C0.2.1 d_Mod_balance_16 (by decide) ?_
    refine x_istore_n (lv' := [(3, .inl (0 : Int32)), (2, .inl q_3), (0, .inr (.inl (some h0))), (1, .inl x1)]) C0 hl d_Mod_balance_17 rfl (by decide) rfl (fun ls hl => ?_)
    refine lv_iconst (v := 0) C0.1 C0.2.1 d_Mod_balance_18 (by decide) ?_
    refine x_istore (lv' := [(4, .inl (0 : Int32)), (3, .inl (0 : Int32)), (2, .inl q_3), (0, .inr (.inl (some h0))), (1, .inl x1)]) C0 hl d_Mod_balance_19 (by decide) rfl (fun ls hl => ?_)
    obtain ⟨q_11, e9, h⟩ := Option.bind_eq_some_iff.mp h
    refine w_Mod_balance_L21 C0 hE hR1 hR2 hR3 hR4 hH hS hz 100000 _ _ q_11 ls (x_sub hl [3, 4, 2, 1, 0] rfl) e9 (fun ls hl => ?_)
    refine x_iload_n C0 hl 3 d_Mod_balance_81 rfl rfl ?_
    obtain ⟨hn9, h⟩ := x_ifs h
    cases h
    rw [hQ]
    exact x_zret (v := q_11.2.1) C0 hr hlocks hH hS hz (x_nar (fun _ => ⟨_, rfl⟩) hn9) d_Mod_balance_82
  · refine lv_iconst (v := 0) C0.1 C0.2.1 d_Mod_balance_8 (by decide) ?_
    cases h
    rw [hQ]
    exact x_zret (v := (0 : Int32)) C0 hr hlocks hH hS hz rfl d_Mod_balance_9
theorem d_Mod_writeNumber_0 : decode b_Mod_writeNumber 0 = .ok (.iconst 1, 1) := by decide +kernel
theorem d_Mod_writeNumber_1 : decode b_Mod_writeNumber 1 = .ok (.istore_n 3, 1) := by decide +kernel
theorem d_Mod_writeNumber_2 : decode b_Mod_writeNumber 2 = .ok (.iload_n 2, 1) := by decide +kernel
theorem d_Mod_writeNumber_3 : decode b_Mod_writeNumber 3 = .ok (.iload_n 3, 1) := by decide +kernel
theorem d_Mod_writeNumber_4 : decode b_Mod_writeNumber 4 = .ok (.idiv, 1) := by decide +kernel
theorem d_Mod_writeNumber_5 : decode b_Mod_writeNumber 5 = .ok (.bipush 9, 2) := by decide +kernel
theorem d_Mod_writeNumber_7 : decode b_Mod_writeNumber 7 = .ok (.if_icmp .le 11, 3) := by decide +kernel
theorem d_Mod_writeNumber_10 : decode b_Mod_writeNumber 10 = .ok (.bipush 10, 2) := by decide +kernel
theorem d_Mod_writeNumber_12 : decode b_Mod_writeNumber 12 = .ok (.iload_n 3, 1) := by decide +kernel
theorem d_Mod_writeNumber_13 : decode b_Mod_writeNumber 13 = .ok (.imul, 1) := by decide +kernel
theorem d_Mod_writeNumber_14 : decode b_Mod_writeNumber 14 = .ok (.istore_n 3, 1) := by decide +kernel
theorem d_Mod_writeNumber_15 : decode b_Mod_writeNumber 15 = .ok (.goto (-13), 3) := by decide +kernel
theorem d_Mod_writeNumber_18 : decode b_Mod_writeNumber 18 = .ok (.iload_n 1, 1) := by decide +kernel
theorem d_Mod_writeNumber_19 : decode b_Mod_writeNumber 19 = .ok (.istore 4, 2) := by decide +kernel
theorem d_Mod_writeNumber_21 : decode b_Mod_writeNumber 21 = .ok (.iload_n 3, 1) := by decide +kernel
theorem d_Mod_writeNumber_22 : decode b_Mod_writeNumber 22 = .ok (.istore 5, 2) := by decide +kernel
theorem d_Mod_writeNumber_24 : decode b_Mod_writeNumber 24 = .ok (.iload 5, 2) := by decide +kernel
theorem d_Mod_writeNumber_26 : decode b_Mod_writeNumber 26 = .ok (.ifCond .le 33, 3) := by decide +kernel
theorem d_Mod_writeNumber_29 : decode b_Mod_writeNumber 29 = .ok (.aload_n 0, 1) := by decide +kernel
theorem d_Mod_writeNumber_30 : decode b_Mod_writeNumber 30 = .ok (.getfield 56, 3) := by decide +kernel
theorem d_Mod_writeNumber_33 : decode b_Mod_writeNumber 33 = .ok (.iload 4, 2) := by decide +kernel
theorem d_Mod_writeNumber_35 : decode b_Mod_writeNumber 35 = .ok (.bipush 48, 2) := by decide +kernel
theorem d_Mod_writeNumber_37 : decode b_Mod_writeNumber 37 = .ok (.iload_n 2, 1) := by decide +kernel
theorem d_Mod_writeNumber_38 : decode b_Mod_writeNumber 38 = .ok (.iload 5, 2) := by decide +kernel
theorem d_Mod_writeNumber_40 : decode b_Mod_writeNumber 40 = .ok (.idiv, 1) := by decide +kernel
theorem d_Mod_writeNumber_41 : decode b_Mod_writeNumber 41 = .ok (.bipush 10, 2) := by decide +kernel
theorem d_Mod_writeNumber_43 : decode b_Mod_writeNumber 43 = .ok (.irem, 1) := by decide +kernel
theorem d_Mod_writeNumber_44 : decode b_Mod_writeNumber 44 = .ok (.iadd, 1) := by decide +kernel
theorem d_Mod_writeNumber_45 : decode b_Mod_writeNumber 45 = .ok (.iastore, 1) := by decide +kernel
theorem d_Mod_writeNumber_46 : decode b_Mod_writeNumber 46 = .ok (.iinc 4 1, 3) := by decide +kernel
theorem d_Mod_writeNumber_49 : decode b_Mod_writeNumber 49 = .ok (.iload 5, 2) := by decide +kernel
theorem d_Mod_writeNumber_51 : decode b_Mod_writeNumber 51 = .ok (.bipush 10, 2) := by decide +kernel
theorem d_Mod_writeNumber_53 : decode b_Mod_writeNumber 53 = .ok (.idiv, 1) := by decide +kernel
theorem d_Mod_writeNumber_54 : decode b_Mod_writeNumber 54 = .ok (.istore 5, 2) := by decide +kernel
theorem d_Mod_writeNumber_56 : decode b_Mod_writeNumber 56 = .ok (.goto (-32), 3) := by decide +kernel
theorem d_Mod_writeNumber_59 : decode b_Mod_writeNumber 59 = .ok (.iload 4, 2) := by decide +kernel
theorem d_Mod_writeNumber_61 : decode b_Mod_writeNumber 61 = .ok (.ireturn, 1) := by decide +kernel
def f_Mod_writeNumber_L2 (w : Mp) (h0 : Nat) (x1 : Int32) (x2 : Int32) : Nat → Int32 → Option (Nat × Int32)
  | 0, _ => none
  | n + 1, x3 => if x3 = 0 then none else if (x2 / x3) ≤ (9 : Int32) then (some (0, x3)) else (f_Mod_writeNumber_L2 w h0 x1 x2 n ((10 : Int32) * x3))
set_option maxHeartbeats 4000000 in
set_option maxRecDepth 100000 in
theorem w_Mod_writeNumber_L2 {p : Program} {l : Launch} {e : Env} {R : Room} {s : State} {m : MethodId} {args : Array Value} {below : List Frame} {meth : Method} {c : Code} {Q : State → Prop} {cells slots sz : Nat} {G : Gx} {h0 : Nat} {x1 : Int32} {x2 : Int32} (C0 : CallFix p m c b_Mod_writeNumber 6 s args wA R_Mod) (hE : xE G vwCl xaty s) (hR1 : 0 ≤ R.frames) (hR2 : 0 ≤ R.locals) (hR3 : cells ≤ R.cells) (hR4 : slots ≤ R.slots) {w : Mp} {H : Heap} {locs : List Loc} (hH : xhd G vwCl w H) (hS : xS G s H locs) (hz : H.size = sz) : ∀ (n : Nat) (x3 : Int32) (q : Nat × Int32) (ls : Array Slot), xL ls 6 [(0, .inr (.inl (some h0))), (1, .inl x1), (2, .inl x2), (3, .inl x3)] → f_Mod_writeNumber_L2 w h0 x1 x2 n x3 = some q → (∀ (ls : Array Slot), xL ls 6 [(0, .inr (.inl (some h0))), (1, .inl x1), (2, .inl x2), (3, .inl q.2)] → W p l e R s m args below meth c H locs cells slots Q (F0 m 18 ls [])) → W p l e R s m args below meth c H locs cells slots Q (F0 m 2 ls []) := by
  intro n
  induction n with
  | zero => intro _ q ls hl h; cases h
  | succ n ih =>
    intro x3 q ls hl h K
    rw [f_Mod_writeNumber_L2] at h
    refine x_iload_n C0 hl 2 d_Mod_writeNumber_2 rfl rfl ?_
    refine x_iload_n C0 hl 3 d_Mod_writeNumber_3 rfl rfl ?_
    refine x_idiv C0 d_Mod_writeNumber_4 h rfl (fun h => ?_)
    refine lv_bipush (v := 9) C0.1 C0.2.1 d_Mod_writeNumber_5 (by decide) ?_
    refine x_icmp_le C0 18 d_Mod_writeNumber_7 (by decide) h (fun h => ?_) (fun h => ?_)
    · cases h
      exact K ls (x_sub hl [0, 1, 2, 3] rfl)
    · refine lv_bipush (v := 10) C0.1 C0.2.1 d_Mod_writeNumber_10 (by decide) ?_
      refine x_iload_n C0 hl 3 d_Mod_writeNumber_12 rfl rfl ?_
      refine lv_imul C0.1 C0.2.1 d_Mod_writeNumber_13 ?_
      refine x_istore_n (lv' := [(3, .inl ((10 : Int32) * x3)), (0, .inr (.inl (some h0))), (1, .inl x1), (2, .inl x2)]) C0 hl d_Mod_writeNumber_14 rfl (by decide) rfl (fun ls hl => ?_)
      refine x_goto C0 2 d_Mod_writeNumber_15 (by decide) ?_
      exact ih _ q ls (x_sub hl [1, 2, 3, 0] rfl) h K
def f_Mod_writeNumber_L24 (h0 : Nat) (x2 : Int32) : Nat → Int32 → Int32 → Mp → Option (Nat × Int32 × Int32 × Mp)
  | 0, _, _, _ => none
  | n + 1, x4, x5, w => if x5 ≤ 0 then (some (0, x4, x5, w)) else ((gR w (some h0) 5 21).bind fun v_2 => if x5 = 0 then none else (sI w v_2 0 x4 ((48 : Int32) + ((x2 / x5) - (x2 / x5) / (10 : Int32) * (10 : Int32)))).bind fun w_3 => f_Mod_writeNumber_L24 h0 x2 n (x4 + 1) (x5 / (10 : Int32)) w_3)
set_option maxHeartbeats 4000000 in
set_option maxRecDepth 100000 in
theorem w_Mod_writeNumber_L24 {p : Program} {l : Launch} {e : Env} {R : Room} {s : State} {m : MethodId} {args : Array Value} {below : List Frame} {meth : Method} {c : Code} {Q : State → Prop} {cells slots sz : Nat} {G : Gx} {h0 : Nat} {x2 : Int32} (C0 : CallFix p m c b_Mod_writeNumber 6 s args wA R_Mod) (hE : xE G vwCl xaty s) (hR1 : 0 ≤ R.frames) (hR2 : 0 ≤ R.locals) (hR3 : cells ≤ R.cells) (hR4 : slots ≤ R.slots) : ∀ (n : Nat) (x4 : Int32) (x5 : Int32) (w : Mp) (H : Heap) (locs : List Loc) (q : Nat × Int32 × Int32 × Mp) (ls : Array Slot), xhd G vwCl w H → xS G s H locs → H.size = sz → xL ls 6 [(0, .inr (.inl (some h0))), (2, .inl x2), (4, .inl x4), (5, .inl x5)] → f_Mod_writeNumber_L24 h0 x2 n x4 x5 w = some q → (∀ (H : Heap) (locs : List Loc) (ls : Array Slot), xhd G vwCl q.2.2.2 H → xS G s H locs → H.size = sz → xL ls 6 [(0, .inr (.inl (some h0))), (2, .inl x2), (4, .inl q.2.1), (5, .inl q.2.2.1)] → W p l e R s m args below meth c H locs cells slots Q (F0 m 59 ls [])) → W p l e R s m args below meth c H locs cells slots Q (F0 m 24 ls []) := by
  intro n
  induction n with
  | zero => intro _ _ _ _ _ q ls hH hS hz hl h; cases h
  | succ n ih =>
    intro x4 x5 w H locs q ls hH hS hz hl h K
    rw [f_Mod_writeNumber_L24] at h
    refine x_iload C0 hl 3 d_Mod_writeNumber_24 rfl ?_
    refine x_if_le C0 59 d_Mod_writeNumber_26 (by decide) h (fun h => ?_) (fun h => ?_)
    · cases h
      exact K _ _ ls hH hS hz (x_sub hl [0, 1, 2, 3] rfl)
    · refine x_aload_n C0 hl 0 d_Mod_writeNumber_29 rfl rfl ?_
      refine x_getR C0 hE hH (ci := 5) rfl i_Mod 21 (by decide) kw_4_100 d_Mod_writeNumber_30 h (fun v_2 h => ?_)
      refine x_iload C0 hl 2 d_Mod_writeNumber_33 rfl ?_
      refine lv_bipush (v := 48) C0.1 C0.2.1 d_Mod_writeNumber_35 (by decide) ?_
      refine x_iload_n C0 hl 1 d_Mod_writeNumber_37 rfl rfl ?_
      refine x_iload C0 hl 3 d_Mod_writeNumber_38 rfl ?_
      refine x_idiv C0 d_Mod_writeNumber_40 h rfl (fun h => ?_)
      refine lv_bipush (v := 10) C0.1 C0.2.1 d_Mod_writeNumber_41 (by decide) ?_
      refine lv_irem C0.1 C0.2.1 d_Mod_writeNumber_43 (by decide) ?_
      refine lv_iadd C0.1 C0.2.1 d_Mod_writeNumber_44 ?_
      refine x_iast C0 hE hH hS (t := 0) rfl d_Mod_writeNumber_45 h (fun w_3 H locs hH hS hz9 h => ?_)
      have hz := hz9.trans hz
      refine x_iinc (v := 1) (lv' := [(4, .inl (x4 + 1)), (0, .inr (.inl (some h0))), (2, .inl x2), (5, .inl x5)]) C0 hl 2 d_Mod_writeNumber_46 rfl (by decide) (by decide) rfl (fun ls hl => ?_)
      refine x_iload C0 hl 3 d_Mod_writeNumber_49 rfl ?_
      refine lv_bipush (v := 10) C0.1 C0.2.1 d_Mod_writeNumber_51 (by decide) ?_
      refine lv_idiv C0.1 C0.2.1 d_Mod_writeNumber_53 (by decide) ?_
      refine x_istore (lv' := [(5, .inl (x5 / (10 : Int32))), (4, .inl (x4 + 1)), (0, .inr (.inl (some h0))), (2, .inl x2)]) C0 hl d_Mod_writeNumber_54 (by decide) rfl (fun ls hl => ?_)
      refine x_goto C0 24 d_Mod_writeNumber_56 (by decide) ?_
      exact ih _ _ _ _ _ q ls hH hS hz (x_sub hl [2, 3, 1, 0] rfl) h K
def f_Mod_writeNumber (w : Mp) (h0 : Nat) (x1 : Int32) (x2 : Int32) : Option (Int32 × Mp) := (f_Mod_writeNumber_L2 w h0 x1 x2 100000 (1 : Int32)).bind fun q_1 => (f_Mod_writeNumber_L24 h0 x2 100000 x1 q_1.2 w).bind fun q_4 => some (q_4.2.1, q_4.2.2.2)
set_option maxHeartbeats 4000000 in
set_option maxRecDepth 100000 in
theorem c_Mod_writeNumber (l : Launch) (G : Gx) (w : Mp) (sz : Nat) (h0 : Nat) (x1 : Int32) (x2 : Int32) (res : Int32 × Mp) (hf : f_Mod_writeNumber w h0 x1 x2 = some res) : Met l y_Mod_writeNumber (xws y_Mod_writeNumber b_Mod_writeNumber 6 (some .int)) { frames := 0, cells := 0, slots := 0, locals := 0 } (xPc G vwCl xaty w sz [va_rf (some h0), .int x1, .int x2]) (xQ G vwCl (some (.int res.1)) res.2 sz) (0) (0) (xA G) := by
  refine Met.ofW (cc := b_Mod_writeNumber) (maxL := 6) (ret := (some .int)) (by decide) rfl ?_
  intro p e s m args below meth c s₁ B hml hv
  obtain ⟨ha, hE, hH, hz⟩ := hv
  have C0 : CallFix p m c b_Mod_writeNumber 6 s args wA R_Mod := ⟨B.exec, B.bytes, hml, findClass_of_methodNamed B.named, fun w hw => atoms_spec (ws := xws y_Mod_writeNumber b_Mod_writeNumber 6 (some .int)) B.pre w (List.mem_cons_of_mem _ hw)⟩
  have hr := B.returns
  have hlocks := B.notSynchronized
  obtain ⟨R, hR⟩ : ∃ R, R = (headSpec (xws y_Mod_writeNumber b_Mod_writeNumber 6 (some .int)) { frames := 0, cells := 0, slots := 0, locals := 0 }).room := ⟨_, rfl⟩
  have hR1 : 0 ≤ R.frames := by rw [hR]; exact Nat.le_of_ble_eq_true rfl
  have hR2 : 0 ≤ R.locals := by rw [hR]; exact Nat.le_of_ble_eq_true rfl
  have hR3 : 0 ≤ R.cells := by rw [hR]; exact Nat.le_refl _
  have hR4 : 0 ≤ R.slots := by rw [hR]; exact Nat.le_refl _
  rw [← hR]
  obtain ⟨Q, hQ⟩ : ∃ Q, Q = MQ below (xQ G vwCl (some (.int res.1)) res.2 sz) args s (0) (0) (xA G) := ⟨_, rfl⟩
  rw [← hQ]
  have hS : xS G s s.heap [] := va_S.rf
  obtain ⟨ls, he, hl⟩ := x_entry m [.inr (.inl (some h0)), .inl x1, .inl x2] 6 (Nat.le_of_ble_eq_true rfl)
  rw [show entryFrame m args 6 = F0 m 0 ls [] by rw [ha]; exact he]
  have hl : xL ls 6 [(0, .inr (.inl (some h0))), (1, .inl x1), (2, .inl x2)] := hl
  have h := hf
  unfold f_Mod_writeNumber at h
  suffices hmain : ∀ (H : Heap) (locs : List Loc), xhd G vwCl w H → xS G s H locs → H.size = sz → (H = s.heap ∧ locs = []) → W p l e R s m args below meth c H locs 0 0 Q (F0 m 0 ls []) from hmain _ _ hH hS hz ⟨rfl, rfl⟩
  clear hH hS hz
  intro H locs hH hS hz hP0
  refine lv_iconst (v := 1) C0.1 C0.2.1 d_Mod_writeNumber_0 (by decide) ?_
  refine x_istore_n (lv' := [(3, .inl (1 : Int32)), (0, .inr (.inl (some h0))), (1, .inl x1), (2, .inl x2)]) C0 hl d_Mod_writeNumber_1 rfl (by decide) rfl (fun ls hl => ?_)
  obtain ⟨q_1, e9, h⟩ := Option.bind_eq_some_iff.mp h
  refine w_Mod_writeNumber_L2 C0 hE hR1 hR2 hR3 hR4 hH hS hz 100000 _ q_1 ls (x_sub hl [1, 2, 3, 0] rfl) e9 (fun ls hl => ?_)
  refine x_iload_n C0 hl 1 d_Mod_writeNumber_18 rfl rfl ?_
  refine x_istore (lv' := [(4, .inl x1), (0, .inr (.inl (some h0))), (1, .inl x1), (2, .inl x2), (3, .inl q_1.2)]) C0 hl d_Mod_writeNumber_19 (by decide) rfl (fun ls hl => ?_)
  refine x_iload_n C0 hl 4 d_Mod_writeNumber_21 rfl rfl ?_
  refine x_istore (lv' := [(5, .inl q_1.2), (4, .inl x1), (0, .inr (.inl (some h0))), (1, .inl x1), (2, .inl x2), (3, .inl q_1.2)]) C0 hl d_Mod_writeNumber_22 (by decide) rfl (fun ls hl => ?_)
  obtain ⟨q_4, e9, h⟩ := Option.bind_eq_some_iff.mp h
  refine w_Mod_writeNumber_L24 C0 hE hR1 hR2 hR3 hR4 100000 _ _ _ _ _ q_4 ls hH hS hz (x_sub hl [2, 4, 1, 0] rfl) e9 (fun H locs ls hH hS hz hl => ?_)
  refine x_iload C0 hl 2 d_Mod_writeNumber_59 rfl ?_
  cases h
  rw [hQ]
  exact x_iret C0 hr hlocks hH hS hz d_Mod_writeNumber_61
theorem d_Mod_number_0 : decode b_Mod_number 0 = .ok (.aload_n 0, 1) := by decide +kernel
theorem d_Mod_number_1 : decode b_Mod_number 1 = .ok (.iload_n 1, 1) := by decide +kernel
theorem d_Mod_number_2 : decode b_Mod_number 2 = .ok (.iload_n 2, 1) := by decide +kernel
theorem d_Mod_number_3 : decode b_Mod_number 3 = .ok (.invokevirtual 119, 3) := by decide +kernel
theorem d_Mod_number_6 : decode b_Mod_number 6 = .ok (.ifCond .eq 5, 3) := by decide +kernel
theorem d_Mod_number_9 : decode b_Mod_number 9 = .ok (.iconst 0, 1) := by decide +kernel
theorem d_Mod_number_10 : decode b_Mod_number 10 = .ok (.ireturn, 1) := by decide +kernel
theorem d_Mod_number_11 : decode b_Mod_number 11 = .ok (.aload_n 0, 1) := by decide +kernel
theorem d_Mod_number_12 : decode b_Mod_number 12 = .ok (.iload_n 3, 1) := by decide +kernel
theorem d_Mod_number_13 : decode b_Mod_number 13 = .ok (.ifCond .ge 7, 3) := by decide +kernel
theorem d_Mod_number_16 : decode b_Mod_number 16 = .ok (.iconst 2, 1) := by decide +kernel
theorem d_Mod_number_17 : decode b_Mod_number 17 = .ok (.goto 4, 3) := by decide +kernel
theorem d_Mod_number_20 : decode b_Mod_number 20 = .ok (.iconst 0, 1) := by decide +kernel
theorem d_Mod_number_21 : decode b_Mod_number 21 = .ok (.putfield 59, 3) := by decide +kernel
theorem d_Mod_number_24 : decode b_Mod_number 24 = .ok (.aload_n 0, 1) := by decide +kernel
theorem d_Mod_number_25 : decode b_Mod_number 25 = .ok (.getfield 59, 3) := by decide +kernel
theorem d_Mod_number_28 : decode b_Mod_number 28 = .ok (.ifCond .le 5, 3) := by decide +kernel
theorem d_Mod_number_31 : decode b_Mod_number 31 = .ok (.iconst 0, 1) := by decide +kernel
theorem d_Mod_number_32 : decode b_Mod_number 32 = .ok (.ireturn, 1) := by decide +kernel
theorem d_Mod_number_33 : decode b_Mod_number 33 = .ok (.aload_n 0, 1) := by decide +kernel
theorem d_Mod_number_34 : decode b_Mod_number 34 = .ok (.getfield 56, 3) := by decide +kernel
theorem d_Mod_number_37 : decode b_Mod_number 37 = .ok (.iconst 0, 1) := by decide +kernel
theorem d_Mod_number_38 : decode b_Mod_number 38 = .ok (.bipush 70, 2) := by decide +kernel
theorem d_Mod_number_40 : decode b_Mod_number 40 = .ok (.iastore, 1) := by decide +kernel
theorem d_Mod_number_41 : decode b_Mod_number 41 = .ok (.aload_n 0, 1) := by decide +kernel
theorem d_Mod_number_42 : decode b_Mod_number 42 = .ok (.iconst 1, 1) := by decide +kernel
theorem d_Mod_number_43 : decode b_Mod_number 43 = .ok (.iload_n 1, 1) := by decide +kernel
theorem d_Mod_number_44 : decode b_Mod_number 44 = .ok (.iconst 1, 1) := by decide +kernel
theorem d_Mod_number_45 : decode b_Mod_number 45 = .ok (.iadd, 1) := by decide +kernel
theorem d_Mod_number_46 : decode b_Mod_number 46 = .ok (.invokevirtual 139, 3) := by decide +kernel
theorem d_Mod_number_49 : decode b_Mod_number 49 = .ok (.istore 4, 2) := by decide +kernel
theorem d_Mod_number_51 : decode b_Mod_number 51 = .ok (.aload_n 0, 1) := by decide +kernel
theorem d_Mod_number_52 : decode b_Mod_number 52 = .ok (.getfield 56, 3) := by decide +kernel
theorem d_Mod_number_55 : decode b_Mod_number 55 = .ok (.iload 4, 2) := by decide +kernel
theorem d_Mod_number_57 : decode b_Mod_number 57 = .ok (.aload_n 0, 1) := by decide +kernel
theorem d_Mod_number_58 : decode b_Mod_number 58 = .ok (.getfield 32, 3) := by decide +kernel
theorem d_Mod_number_61 : decode b_Mod_number 61 = .ok (.iload_n 1, 1) := by decide +kernel
theorem d_Mod_number_62 : decode b_Mod_number 62 = .ok (.iaload, 1) := by decide +kernel
theorem d_Mod_number_63 : decode b_Mod_number 63 = .ok (.ifCond .ne 8, 3) := by decide +kernel
theorem d_Mod_number_66 : decode b_Mod_number 66 = .ok (.bipush 66, 2) := by decide +kernel
theorem d_Mod_number_68 : decode b_Mod_number 68 = .ok (.goto 35, 3) := by decide +kernel
theorem d_Mod_number_71 : decode b_Mod_number 71 = .ok (.aload_n 0, 1) := by decide +kernel
theorem d_Mod_number_72 : decode b_Mod_number 72 = .ok (.getfield 32, 3) := by decide +kernel
theorem d_Mod_number_75 : decode b_Mod_number 75 = .ok (.iload_n 1, 1) := by decide +kernel
theorem d_Mod_number_76 : decode b_Mod_number 76 = .ok (.iaload, 1) := by decide +kernel
theorem d_Mod_number_77 : decode b_Mod_number 77 = .ok (.iconst 1, 1) := by decide +kernel
theorem d_Mod_number_78 : decode b_Mod_number 78 = .ok (.if_icmp .ne 8, 3) := by decide +kernel
theorem d_Mod_number_81 : decode b_Mod_number 81 = .ok (.bipush 83, 2) := by decide +kernel
theorem d_Mod_number_83 : decode b_Mod_number 83 = .ok (.goto 20, 3) := by decide +kernel
theorem d_Mod_number_86 : decode b_Mod_number 86 = .ok (.aload_n 0, 1) := by decide +kernel
theorem d_Mod_number_87 : decode b_Mod_number 87 = .ok (.getfield 32, 3) := by decide +kernel
theorem d_Mod_number_90 : decode b_Mod_number 90 = .ok (.iload_n 1, 1) := by decide +kernel
theorem d_Mod_number_91 : decode b_Mod_number 91 = .ok (.iaload, 1) := by decide +kernel
theorem d_Mod_number_92 : decode b_Mod_number 92 = .ok (.iconst 2, 1) := by decide +kernel
theorem d_Mod_number_93 : decode b_Mod_number 93 = .ok (.if_icmp .ne 8, 3) := by decide +kernel
theorem d_Mod_number_96 : decode b_Mod_number 96 = .ok (.bipush 82, 2) := by decide +kernel
theorem d_Mod_number_98 : decode b_Mod_number 98 = .ok (.goto 5, 3) := by decide +kernel
theorem d_Mod_number_101 : decode b_Mod_number 101 = .ok (.bipush 68, 2) := by decide +kernel
theorem d_Mod_number_103 : decode b_Mod_number 103 = .ok (.iastore, 1) := by decide +kernel
theorem d_Mod_number_104 : decode b_Mod_number 104 = .ok (.aload_n 0, 1) := by decide +kernel
theorem d_Mod_number_105 : decode b_Mod_number 105 = .ok (.iload 4, 2) := by decide +kernel
theorem d_Mod_number_107 : decode b_Mod_number 107 = .ok (.iconst 1, 1) := by decide +kernel
theorem d_Mod_number_108 : decode b_Mod_number 108 = .ok (.iadd, 1) := by decide +kernel
theorem d_Mod_number_109 : decode b_Mod_number 109 = .ok (.aload_n 0, 1) := by decide +kernel
theorem d_Mod_number_110 : decode b_Mod_number 110 = .ok (.getfield 13, 3) := by decide +kernel
theorem d_Mod_number_113 : decode b_Mod_number 113 = .ok (.aload_n 0, 1) := by decide +kernel
theorem d_Mod_number_114 : decode b_Mod_number 114 = .ok (.getfield 38, 3) := by decide +kernel
theorem d_Mod_number_117 : decode b_Mod_number 117 = .ok (.bipush 8, 2) := by decide +kernel
theorem d_Mod_number_119 : decode b_Mod_number 119 = .ok (.iload_n 1, 1) := by decide +kernel
theorem d_Mod_number_120 : decode b_Mod_number 120 = .ok (.imul, 1) := by decide +kernel
theorem d_Mod_number_121 : decode b_Mod_number 121 = .ok (.iload_n 2, 1) := by decide +kernel
theorem d_Mod_number_122 : decode b_Mod_number 122 = .ok (.iadd, 1) := by decide +kernel
theorem d_Mod_number_123 : decode b_Mod_number 123 = .ok (.iaload, 1) := by decide +kernel
theorem d_Mod_number_124 : decode b_Mod_number 124 = .ok (.iaload, 1) := by decide +kernel
theorem d_Mod_number_125 : decode b_Mod_number 125 = .ok (.invokevirtual 139, 3) := by decide +kernel
theorem d_Mod_number_128 : decode b_Mod_number 128 = .ok (.istore 4, 2) := by decide +kernel
theorem d_Mod_number_130 : decode b_Mod_number 130 = .ok (.aload_n 0, 1) := by decide +kernel
theorem d_Mod_number_131 : decode b_Mod_number 131 = .ok (.iload_n 1, 1) := by decide +kernel
theorem d_Mod_number_132 : decode b_Mod_number 132 = .ok (.iload_n 2, 1) := by decide +kernel
theorem d_Mod_number_133 : decode b_Mod_number 133 = .ok (.invokevirtual 88, 3) := by decide +kernel
theorem d_Mod_number_136 : decode b_Mod_number 136 = .ok (.ifCond .eq 15, 3) := by decide +kernel
theorem d_Mod_number_139 : decode b_Mod_number 139 = .ok (.aload_n 0, 1) := by decide +kernel
theorem d_Mod_number_140 : decode b_Mod_number 140 = .ok (.getfield 56, 3) := by decide +kernel
theorem d_Mod_number_143 : decode b_Mod_number 143 = .ok (.iload 4, 2) := by decide +kernel
theorem d_Mod_number_145 : decode b_Mod_number 145 = .ok (.bipush 109, 2) := by decide +kernel
theorem d_Mod_number_147 : decode b_Mod_number 147 = .ok (.iastore, 1) := by decide +kernel
theorem d_Mod_number_148 : decode b_Mod_number 148 = .ok (.iinc 4 1, 3) := by decide +kernel
theorem d_Mod_number_151 : decode b_Mod_number 151 = .ok (.aload_n 0, 1) := by decide +kernel
theorem d_Mod_number_152 : decode b_Mod_number 152 = .ok (.iload_n 1, 1) := by decide +kernel
theorem d_Mod_number_153 : decode b_Mod_number 153 = .ok (.iload_n 2, 1) := by decide +kernel
theorem d_Mod_number_154 : decode b_Mod_number 154 = .ok (.invokevirtual 92, 3) := by decide +kernel
theorem d_Mod_number_157 : decode b_Mod_number 157 = .ok (.ifCond .eq 15, 3) := by decide +kernel
theorem d_Mod_number_160 : decode b_Mod_number 160 = .ok (.aload_n 0, 1) := by decide +kernel
theorem d_Mod_number_161 : decode b_Mod_number 161 = .ok (.getfield 56, 3) := by decide +kernel
theorem d_Mod_number_164 : decode b_Mod_number 164 = .ok (.iload 4, 2) := by decide +kernel
theorem d_Mod_number_166 : decode b_Mod_number 166 = .ok (.bipush 116, 2) := by decide +kernel
theorem d_Mod_number_168 : decode b_Mod_number 168 = .ok (.iastore, 1) := by decide +kernel
theorem d_Mod_number_169 : decode b_Mod_number 169 = .ok (.iinc 4 1, 3) := by decide +kernel
theorem d_Mod_number_172 : decode b_Mod_number 172 = .ok (.iload_n 3, 1) := by decide +kernel
theorem d_Mod_number_173 : decode b_Mod_number 173 = .ok (.iload 4, 2) := by decide +kernel
theorem d_Mod_number_175 : decode b_Mod_number 175 = .ok (.if_icmp .ge 12, 3) := by decide +kernel
theorem d_Mod_number_178 : decode b_Mod_number 178 = .ok (.aload_n 0, 1) := by decide +kernel
theorem d_Mod_number_179 : decode b_Mod_number 179 = .ok (.getfield 56, 3) := by decide +kernel
theorem d_Mod_number_182 : decode b_Mod_number 182 = .ok (.iload_n 3, 1) := by decide +kernel
theorem d_Mod_number_183 : decode b_Mod_number 183 = .ok (.iaload, 1) := by decide +kernel
theorem d_Mod_number_184 : decode b_Mod_number 184 = .ok (.goto 4, 3) := by decide +kernel
theorem d_Mod_number_187 : decode b_Mod_number 187 = .ok (.iconst (-1), 1) := by decide +kernel
theorem d_Mod_number_188 : decode b_Mod_number 188 = .ok (.ireturn, 1) := by decide +kernel
def f_Mod_number (w : Mp) (h0 : Nat) (x1 : Int32) (x2 : Int32) (x3 : Int32) : Option (Int32 × Mp) := (xo w (some h0) 5).bind fun b_2 => (f_Mod_noPiece w b_2 x1 x2).bind fun q_1 => if q_1.1 = 0 then (xJ1 (fun (x_3 : Int32) => (pF q_1.2 (some h0) 5 0 (.int x_3)).bind fun w_5 => (gI w_5 (some h0) 5 0).bind fun v_6 => if v_6 ≤ 0 then ((gR w_5 (some h0) 5 21).bind fun v_7 => (sI w_5 v_7 0 (0 : Int32) (70 : Int32)).bind fun w_8 => (xo w_8 (some h0) 5).bind fun b_10 => (f_Mod_writeNumber w_8 b_10 (1 : Int32) (x1 + (1 : Int32))).bind fun q_9 => (gR q_9.2 (some h0) 5 21).bind fun v_11 => (gR q_9.2 (some h0) 5 10).bind fun v_12 => (aI q_9.2 v_12 0 x1).bind fun v_13 => xJ1 (fun (x_14 : Int32) => (sI q_9.2 v_11 0 q_9.1 x_14).bind fun w_16 => (gR w_16 (some h0) 5 3).bind fun v_17 => (gR w_16 (some h0) 5 12).bind fun v_18 => (aI w_16 v_18 0 (((8 : Int32) * x1) + x2)).bind fun v_19 => (aI w_16 v_17 0 v_19).bind fun v_20 => (xo w_16 (some h0) 5).bind fun b_22 => (f_Mod_writeNumber w_16 b_22 (q_9.1 + (1 : Int32)) v_20).bind fun q_21 => (xo q_21.2 (some h0) 5).bind fun b_24 => (f_Mod_isMirrored q_21.2 b_24 x1 x2).bind fun q_23 => xJ2 (fun (x_25 : Int32) (w_26 : Mp) => (xo w_26 (some h0) 5).bind fun b_29 => (f_Mod_isTurned w_26 b_29 x1 x2).bind fun q_28 => xJ2 (fun (x_30 : Int32) (w_31 : Mp) => if x_30 ≤ x3 then (some ((-1 : Int32), w_31)) else ((gR w_31 (some h0) 5 21).bind fun v_33 => (aI w_31 v_33 0 x3).bind fun v_34 => some (v_34, w_31))) fun J_32 => if q_28 = 0 then (J_32 x_25 w_26) else ((gR w_26 (some h0) 5 21).bind fun v_35 => (sI w_26 v_35 0 x_25 (116 : Int32)).bind fun w_36 => J_32 (x_25 + 1) w_36)) fun J_27 => if q_23 = 0 then (J_27 q_21.1 q_21.2) else ((gR q_21.2 (some h0) 5 21).bind fun v_37 => (sI q_21.2 v_37 0 q_21.1 (109 : Int32)).bind fun w_38 => J_27 (q_21.1 + 1) w_38)) fun J_15 => if v_13 = 0 then (J_15 (66 : Int32)) else ((gR q_9.2 (some h0) 5 10).bind fun v_39 => (aI q_9.2 v_39 0 x1).bind fun v_40 => if v_40 = (1 : Int32) then (J_15 (83 : Int32)) else ((gR q_9.2 (some h0) 5 10).bind fun v_41 => (aI q_9.2 v_41 0 x1).bind fun v_42 => if v_42 = (2 : Int32) then (J_15 (82 : Int32)) else (J_15 (68 : Int32))))) else (some ((0 : Int32), w_5))) fun J_4 => if 0 ≤ x3 then (J_4 (0 : Int32)) else (J_4 (2 : Int32))) else (some ((0 : Int32), q_1.2))
set_option maxHeartbeats 4000000 in
set_option maxRecDepth 100000 in
theorem c_Mod_number (l : Launch) (G : Gx) (w : Mp) (sz : Nat) (h0 : Nat) (x1 : Int32) (x2 : Int32) (x3 : Int32) (res : Int32 × Mp) (hf : f_Mod_number w h0 x1 x2 x3 = some res) : Met l y_Mod_number (xws y_Mod_number b_Mod_number 5 (some .int)) { frames := 1, cells := 0, slots := 0, locals := 25 } (xPc G vwCl xaty w sz [va_rf (some h0), .int x1, .int x2, .int x3]) (xQ G vwCl (some (.int res.1)) res.2 sz) (0) (0) (xA G) := by
  refine Met.ofW (cc := b_Mod_number) (maxL := 5) (ret := (some .int)) (by decide) rfl ?_
  intro p e s m args below meth c s₁ B hml hv
  obtain ⟨ha, hE, hH, hz⟩ := hv
  have C0 : CallFix p m c b_Mod_number 5 s args wA R_Mod := ⟨B.exec, B.bytes, hml, findClass_of_methodNamed B.named, fun w hw => atoms_spec (ws := xws y_Mod_number b_Mod_number 5 (some .int)) B.pre w (List.mem_cons_of_mem _ hw)⟩
  have hr := B.returns
  have hlocks := B.notSynchronized
  obtain ⟨R, hR⟩ : ∃ R, R = (headSpec (xws y_Mod_number b_Mod_number 5 (some .int)) { frames := 1, cells := 0, slots := 0, locals := 25 }).room := ⟨_, rfl⟩
  have hR1 : 1 ≤ R.frames := by rw [hR]; exact Nat.le_of_ble_eq_true rfl
  have hR2 : 25 ≤ R.locals := by rw [hR]; exact Nat.le_of_ble_eq_true rfl
  have hR3 : 0 ≤ R.cells := by rw [hR]; exact Nat.le_refl _
  have hR4 : 0 ≤ R.slots := by rw [hR]; exact Nat.le_refl _
  rw [← hR]
  obtain ⟨Q, hQ⟩ : ∃ Q, Q = MQ below (xQ G vwCl (some (.int res.1)) res.2 sz) args s (0) (0) (xA G) := ⟨_, rfl⟩
  rw [← hQ]
  have hS : xS G s s.heap [] := va_S.rf
  obtain ⟨ls, he, hl⟩ := x_entry m [.inr (.inl (some h0)), .inl x1, .inl x2, .inl x3] 5 (Nat.le_of_ble_eq_true rfl)
  rw [show entryFrame m args 5 = F0 m 0 ls [] by rw [ha]; exact he]
  have hl : xL ls 5 [(0, .inr (.inl (some h0))), (1, .inl x1), (2, .inl x2), (3, .inl x3)] := hl
  have h := hf
  unfold f_Mod_number at h
  suffices hmain : ∀ (H : Heap) (locs : List Loc), xhd G vwCl w H → xS G s H locs → H.size = sz → (H = s.heap ∧ locs = []) → W p l e R s m args below meth c H locs 0 0 Q (F0 m 0 ls []) from hmain _ _ hH hS hz ⟨rfl, rfl⟩
  clear hH hS hz
  intro H locs hH hS hz hP0
  refine x_aload_n C0 hl 0 d_Mod_number_0 rfl rfl ?_
  refine x_iload_n C0 hl 1 d_Mod_number_1 rfl rfl ?_
  refine x_iload_n C0 hl 2 d_Mod_number_2 rfl rfl ?_
  obtain ⟨b_2, e9, h⟩ := Option.bind_eq_some_iff.mp h
  obtain ⟨e8, fs9, hb9⟩ := xo_inv e9
  obtain ⟨q_1, e9, h⟩ := Option.bind_eq_some_iff.mp h
  refine x_call0 hS (va_runV (As := [.int x1, .int x2]) (rest := []) C0 (c_Mod_noPiece l G w _ b_2 x1 x2 q_1 e9) (x_cwV 2 C0 kw_4_186 kw_4_189 kw_1_3 kw_4_188 kw_0_17 (by decide +kernel) (x_rm hR1 hR2 (Nat.le_of_ble_eq_true rfl) (Nat.le_of_ble_eq_true rfl))) (x_preV hE hH hS (ci := 5) rfl hb9) rfl rfl hl.1 (by rw [e8]; rfl) (lv_room (by first | exact Nat.le_of_ble_eq_true rfl | simp only [List.map_cons, List.map_nil, List.sum_cons, List.sum_nil, va_rf_cat, x_catI, x_catL, x_catA] <;> decide)) d_Mod_number_3 (x_le0 hR3 hR4)) (fun H locs hH hS hz9 => ?_)
  have hz := hz9.trans hz
  refine x_if_eq C0 11 d_Mod_number_6 (by decide) h (fun h => ?_) (fun h => ?_)
  · refine x_aload_n C0 hl 0 d_Mod_number_11 rfl rfl ?_
    refine x_iload_n C0 hl 3 d_Mod_number_12 rfl rfl ?_
    refine xj1 h (fun J_4 eJ_4 h => ?_)
    have kJ_4 : ∀ (x_3 : Int32) (ls : Array Slot), xL ls 5 [(0, .inr (.inl (some h0))), (1, .inl x1), (2, .inl x2), (3, .inl x3)] → J_4 x_3 = some res → W p l e R s m args below meth c H locs 0 0 Q (F0 m 21 ls [.int x_3, va_rf (some h0)]) := by
      intro x_3 ls hl h
      rw [eJ_4] at h
      refine x_put C0 hE hH hS (ci := 5) rfl i_Mod t_Mod t_Mod_ok n_Mod 0 (by decide) kw_4_79 rfl rfl rfl d_Mod_number_21 h (fun w_5 H locs hH hS hz9 h => ?_)
      have hz := hz9.trans hz
      refine x_aload_n C0 hl 0 d_Mod_number_24 rfl rfl ?_
      refine x_getI C0 hE hH (ci := 5) rfl i_Mod 0 (by decide) kw_4_79 d_Mod_number_25 h (fun v_6 h => ?_)
      refine x_if_le C0 33 d_Mod_number_28 (by decide) h (fun h => ?_) (fun h => ?_)
      · refine x_aload_n C0 hl 0 d_Mod_number_33 rfl rfl ?_
        refine x_getR C0 hE hH (ci := 5) rfl i_Mod 21 (by decide) kw_4_100 d_Mod_number_34 h (fun v_7 h => ?_)
        refine lv_iconst (v := 0) C0.1 C0.2.1 d_Mod_number_37 (by decide) ?_
        refine lv_bipush (v := 70) C0.1 C0.2.1 d_Mod_number_38 (by decide) ?_
        refine x_iast C0 hE hH hS (t := 0) rfl d_Mod_number_40 h (fun w_8 H locs hH hS hz9 h => ?_)
        have hz := hz9.trans hz
        refine x_aload_n C0 hl 0 d_Mod_number_41 rfl rfl ?_
        refine lv_iconst (v := 1) C0.1 C0.2.1 d_Mod_number_42 (by decide) ?_
        refine x_iload_n C0 hl 1 d_Mod_number_43 rfl rfl ?_
        refine lv_iconst (v := 1) C0.1 C0.2.1 d_Mod_number_44 (by decide) ?_
        refine lv_iadd C0.1 C0.2.1 d_Mod_number_45 ?_
        obtain ⟨b_10, e9, h⟩ := Option.bind_eq_some_iff.mp h
        obtain ⟨e8, fs9, hb9⟩ := xo_inv e9
        obtain ⟨q_9, e9, h⟩ := Option.bind_eq_some_iff.mp h
        refine x_call0 hS (va_runV (As := [.int (1 : Int32), .int (x1 + (1 : Int32))]) (rest := []) C0 (c_Mod_writeNumber l G w_8 _ b_10 (1 : Int32) (x1 + (1 : Int32)) q_9 e9) (x_cwV 2 C0 kw_5_35 kw_5_38 kw_1_3 kw_5_37 kw_0_32 (by decide +kernel) (x_rm hR1 hR2 (Nat.le_of_ble_eq_true rfl) (Nat.le_of_ble_eq_true rfl))) (x_preV hE hH hS (ci := 5) rfl hb9) rfl rfl hl.1 (by rw [e8]; rfl) (lv_room (by first | exact Nat.le_of_ble_eq_true rfl | simp only [List.map_cons, List.map_nil, List.sum_cons, List.sum_nil, va_rf_cat, x_catI, x_catL, x_catA] <;> decide)) d_Mod_number_46 (x_le0 hR3 hR4)) (fun H locs hH hS hz9 => ?_)
        have hz := hz9.trans hz
        refine x_istore (lv' := [(4, .inl q_9.1), (0, .inr (.inl (some h0))), (1, .inl x1), (2, .inl x2), (3, .inl x3)]) C0 hl d_Mod_number_49 (by decide) rfl (fun ls hl => ?_)
        refine x_aload_n C0 hl 1 d_Mod_number_51 rfl rfl ?_
        refine x_getR C0 hE hH (ci := 5) rfl i_Mod 21 (by decide) kw_4_100 d_Mod_number_52 h (fun v_11 h => ?_)
        refine x_iload C0 hl 0 d_Mod_number_55 rfl ?_
        refine x_aload_n C0 hl 1 d_Mod_number_57 rfl rfl ?_
        refine x_getR C0 hE hH (ci := 5) rfl i_Mod 10 (by decide) kw_4_89 d_Mod_number_58 h (fun v_12 h => ?_)
        refine x_iload_n C0 hl 2 d_Mod_number_61 rfl rfl ?_
        refine x_iald C0 hE hH (t := 0) rfl d_Mod_number_62 h (fun v_13 h => ?_)
        refine xj1 h (fun J_15 eJ_15 h => ?_)
        have kJ_15 : ∀ (x_14 : Int32) (ls : Array Slot), xL ls 5 [(0, .inr (.inl (some h0))), (1, .inl x1), (2, .inl x2), (3, .inl x3), (4, .inl q_9.1)] → J_15 x_14 = some res → W p l e R s m args below meth c H locs 0 0 Q (F0 m 103 ls [.int x_14, .int q_9.1, va_rf v_11]) := by
          intro x_14 ls hl h
          rw [eJ_15] at h
          refine x_iast C0 hE hH hS (t := 0) rfl d_Mod_number_103 h (fun w_16 H locs hH hS hz9 h => ?_)
          have hz := hz9.trans hz
          refine x_aload_n C0 hl 0 d_Mod_number_104 rfl rfl ?_
          refine x_iload C0 hl 4 d_Mod_number_105 rfl ?_
          refine lv_iconst (v := 1) C0.1 C0.2.1 d_Mod_number_107 (by decide) ?_
          refine lv_iadd C0.1 C0.2.1 d_Mod_number_108 ?_
          refine x_aload_n C0 hl 0 d_Mod_number_109 rfl rfl ?_
          refine x_getR C0 hE hH (ci := 5) rfl i_Mod 3 (by decide) kw_4_82 d_Mod_number_110 h (fun v_17 h => ?_)
          refine x_aload_n C0 hl 0 d_Mod_number_113 rfl rfl ?_
          refine x_getR C0 hE hH (ci := 5) rfl i_Mod 12 (by decide) kw_4_91 d_Mod_number_114 h (fun v_18 h => ?_)
          refine lv_bipush (v := 8) C0.1 C0.2.1 d_Mod_number_117 (by decide) ?_
          refine x_iload_n C0 hl 1 d_Mod_number_119 rfl rfl ?_
          refine lv_imul C0.1 C0.2.1 d_Mod_number_120 ?_
          refine x_iload_n C0 hl 2 d_Mod_number_121 rfl rfl ?_
          refine lv_iadd C0.1 C0.2.1 d_Mod_number_122 ?_
          refine x_iald C0 hE hH (t := 0) rfl d_Mod_number_123 h (fun v_19 h => ?_)
          refine x_iald C0 hE hH (t := 0) rfl d_Mod_number_124 h (fun v_20 h => ?_)
          obtain ⟨b_22, e9, h⟩ := Option.bind_eq_some_iff.mp h
          obtain ⟨e8, fs9, hb9⟩ := xo_inv e9
          obtain ⟨q_21, e9, h⟩ := Option.bind_eq_some_iff.mp h
          refine x_call0 hS (va_runV (As := [.int (q_9.1 + (1 : Int32)), .int v_20]) (rest := []) C0 (c_Mod_writeNumber l G w_16 _ b_22 (q_9.1 + (1 : Int32)) v_20 q_21 e9) (x_cwV 2 C0 kw_5_35 kw_5_38 kw_1_3 kw_5_37 kw_0_32 (by decide +kernel) (x_rm hR1 hR2 (Nat.le_of_ble_eq_true rfl) (Nat.le_of_ble_eq_true rfl))) (x_preV hE hH hS (ci := 5) rfl hb9) rfl rfl hl.1 (by rw [e8]; rfl) (lv_room (by first | exact Nat.le_of_ble_eq_true rfl | simp only [List.map_cons, List.map_nil, List.sum_cons, List.sum_nil, va_rf_cat, x_catI, x_catL, x_catA] <;> decide)) d_Mod_number_125 (x_le0 hR3 hR4)) (fun H locs hH hS hz9 => ?_)
          have hz := hz9.trans hz
          refine x_istore (lv' := [(4, .inl q_21.1), (0, .inr (.inl (some h0))), (1, .inl x1), (2, .inl x2), (3, .inl x3)]) C0 hl d_Mod_number_128 (by decide) rfl (fun ls hl => ?_)
          refine x_aload_n C0 hl 1 d_Mod_number_130 rfl rfl ?_
          refine x_iload_n C0 hl 2 d_Mod_number_131 rfl rfl ?_
          refine x_iload_n C0 hl 3 d_Mod_number_132 rfl rfl ?_
          obtain ⟨b_24, e9, h⟩ := Option.bind_eq_some_iff.mp h
          obtain ⟨e8, fs9, hb9⟩ := xo_inv e9
          obtain ⟨q_23, e9, h⟩ := Option.bind_eq_some_iff.mp h
          refine x_callP (va_runV (As := [.int x1, .int x2]) (rest := []) C0 (c_Mod_isMirrored l G q_21.2 _ b_24 x1 x2 q_23 e9) (x_cwV 2 C0 kw_4_190 kw_4_193 kw_1_3 kw_4_192 kw_0_18 (by decide +kernel) (x_rm hR1 hR2 (Nat.le_of_ble_eq_true rfl) (Nat.le_of_ble_eq_true rfl))) (x_preV hE hH hS (ci := 5) rfl hb9) rfl rfl hl.1 (by rw [e8]; rfl) (lv_room (by first | exact Nat.le_of_ble_eq_true rfl | simp only [List.map_cons, List.map_nil, List.sum_cons, List.sum_nil, va_rf_cat, x_catI, x_catL, x_catA] <;> decide)) d_Mod_number_133 (x_le0 hR3 hR4)) ?_
          refine xj2 h (fun J_27 eJ_27 h => ?_)
          have kJ_27 : ∀ (x_25 : Int32) (w_26 : Mp) (H : Heap) (locs : List Loc) (ls : Array Slot), xhd G vwCl w_26 H → xS G s H locs → H.size = sz → xL ls 5 [(0, .inr (.inl (some h0))), (1, .inl x1), (2, .inl x2), (3, .inl x3), (4, .inl x_25)] → J_27 x_25 w_26 = some res → W p l e R s m args below meth c H locs 0 0 Q (F0 m 151 ls []) := by
            intro x_25 w_26 H locs ls hH hS hz hl h
            rw [eJ_27] at h
            refine x_aload_n C0 hl 0 d_Mod_number_151 rfl rfl ?_
            refine x_iload_n C0 hl 1 d_Mod_number_152 rfl rfl ?_
            refine x_iload_n C0 hl 2 d_Mod_number_153 rfl rfl ?_
            obtain ⟨b_29, e9, h⟩ := Option.bind_eq_some_iff.mp h
            obtain ⟨e8, fs9, hb9⟩ := xo_inv e9
            obtain ⟨q_28, e9, h⟩ := Option.bind_eq_some_iff.mp h
            refine x_callP (va_runV (As := [.int x1, .int x2]) (rest := []) C0 (c_Mod_isTurned l G w_26 _ b_29 x1 x2 q_28 e9) (x_cwV 2 C0 kw_4_194 kw_4_197 kw_1_3 kw_4_196 kw_0_19 (by decide +kernel) (x_rm hR1 hR2 (Nat.le_of_ble_eq_true rfl) (Nat.le_of_ble_eq_true rfl))) (x_preV hE hH hS (ci := 5) rfl hb9) rfl rfl hl.1 (by rw [e8]; rfl) (lv_room (by first | exact Nat.le_of_ble_eq_true rfl | simp only [List.map_cons, List.map_nil, List.sum_cons, List.sum_nil, va_rf_cat, x_catI, x_catL, x_catA] <;> decide)) d_Mod_number_154 (x_le0 hR3 hR4)) ?_
            refine xj2 h (fun J_32 eJ_32 h => ?_)
            have kJ_32 : ∀ (x_30 : Int32) (w_31 : Mp) (H : Heap) (locs : List Loc) (ls : Array Slot), xhd G vwCl w_31 H → xS G s H locs → H.size = sz → xL ls 5 [(0, .inr (.inl (some h0))), (3, .inl x3), (4, .inl x_30)] → J_32 x_30 w_31 = some res → W p l e R s m args below meth c H locs 0 0 Q (F0 m 172 ls []) := by
              intro x_30 w_31 H locs ls hH hS hz hl h
              rw [eJ_32] at h
              refine x_iload_n C0 hl 1 d_Mod_number_172 rfl rfl ?_
              refine x_iload C0 hl 2 d_Mod_number_173 rfl ?_
              refine x_icmp_ge C0 187 d_Mod_number_175 (by decide) h (fun h => ?_) (fun h => ?_)
              · refine lv_iconst (v := -1) C0.1 C0.2.1 d_Mod_number_187 (by decide) ?_
                cases h
                rw [hQ]
                exact x_iret C0 hr hlocks hH hS hz d_Mod_number_188
              · refine x_aload_n C0 hl 0 d_Mod_number_178 rfl rfl ?_
                refine x_getR C0 hE hH (ci := 5) rfl i_Mod 21 (by decide) kw_4_100 d_Mod_number_179 h (fun v_33 h => ?_)
                refine x_iload_n C0 hl 1 d_Mod_number_182 rfl rfl ?_
                refine x_iald C0 hE hH (t := 0) rfl d_Mod_number_183 h (fun v_34 h => ?_)
                refine x_goto C0 188 d_Mod_number_184 (by decide) ?_
                cases h
                rw [hQ]
                exact x_iret C0 hr hlocks hH hS hz d_Mod_number_188
            refine x_if_eq C0 172 d_Mod_number_157 (by decide) h (fun h => ?_) (fun h => ?_)
            · exact kJ_32 _ _ _ _ ls hH hS hz (x_sub hl [0, 3, 4] rfl) h
            · refine x_aload_n C0 hl 0 d_Mod_number_160 rfl rfl ?_
              refine x_getR C0 hE hH (ci := 5) rfl i_Mod 21 (by decide) kw_4_100 d_Mod_number_161 h (fun v_35 h => ?_)
              refine x_iload C0 hl 4 d_Mod_number_164 rfl ?_
              refine lv_bipush (v := 116) C0.1 C0.2.1 d_Mod_number_166 (by decide) ?_
              refine x_iast C0 hE hH hS (t := 0) rfl d_Mod_number_168 h (fun w_36 H locs hH hS hz9 h => ?_)
              have hz := hz9.trans hz
              refine x_iinc (v := 1) (lv' := [(4, .inl (x_25 + 1)), (0, .inr (.inl (some h0))), (1, .inl x1), (2, .inl x2), (3, .inl x3)]) C0 hl 4 d_Mod_number_169 rfl (by decide) (by decide) rfl (fun ls hl => ?_)
              exact kJ_32 _ _ _ _ ls hH hS hz (x_sub hl [1, 4, 0] rfl) h
          refine x_if_eq C0 151 d_Mod_number_136 (by decide) h (fun h => ?_) (fun h => ?_)
          · exact kJ_27 _ _ _ _ ls hH hS hz (x_sub hl [1, 2, 3, 4, 0] rfl) h
          · refine x_aload_n C0 hl 1 d_Mod_number_139 rfl rfl ?_
            refine x_getR C0 hE hH (ci := 5) rfl i_Mod 21 (by decide) kw_4_100 d_Mod_number_140 h (fun v_37 h => ?_)
            refine x_iload C0 hl 0 d_Mod_number_143 rfl ?_
            refine lv_bipush (v := 109) C0.1 C0.2.1 d_Mod_number_145 (by decide) ?_
            refine x_iast C0 hE hH hS (t := 0) rfl d_Mod_number_147 h (fun w_38 H locs hH hS hz9 h => ?_)
            have hz := hz9.trans hz
            refine x_iinc (v := 1) (lv' := [(4, .inl (q_21.1 + 1)), (0, .inr (.inl (some h0))), (1, .inl x1), (2, .inl x2), (3, .inl x3)]) C0 hl 0 d_Mod_number_148 rfl (by decide) (by decide) rfl (fun ls hl => ?_)
            exact kJ_27 _ _ _ _ ls hH hS hz (x_sub hl [1, 2, 3, 4, 0] rfl) h
        refine x_if_ne C0 71 d_Mod_number_63 (by decide) h (fun h => ?_) (fun h => ?_)
        · refine x_aload_n C0 hl 1 d_Mod_number_71 rfl rfl ?_
          refine x_getR C0 hE hH (ci := 5) rfl i_Mod 10 (by decide) kw_4_89 d_Mod_number_72 h (fun v_39 h => ?_)
          refine x_iload_n C0 hl 2 d_Mod_number_75 rfl rfl ?_
          refine x_iald C0 hE hH (t := 0) rfl d_Mod_number_76 h (fun v_40 h => ?_)
          refine lv_iconst (v := 1) C0.1 C0.2.1 d_Mod_number_77 (by decide) ?_
          refine x_icmp_ne C0 86 d_Mod_number_78 (by decide) h (fun h => ?_) (fun h => ?_)
          · refine x_aload_n C0 hl 1 d_Mod_number_86 rfl rfl ?_
            refine x_getR C0 hE hH (ci := 5) rfl i_Mod 10 (by decide) kw_4_89 d_Mod_number_87 h (fun v_41 h => ?_)
            refine x_iload_n C0 hl 2 d_Mod_number_90 rfl rfl ?_
            refine x_iald C0 hE hH (t := 0) rfl d_Mod_number_91 h (fun v_42 h => ?_)
            refine lv_iconst (v := 2) C0.1 C0.2.1 d_Mod_number_92 (by decide) ?_
            refine x_icmp_ne C0 101 d_Mod_number_93 (by decide) h (fun h => ?_) (fun h => ?_)
            · refine lv_bipush (v := 68) C0.1 C0.2.1 d_Mod_number_101 (by decide) ?_
              exact kJ_15 _ ls (x_sub hl [1, 2, 3, 4, 0] rfl) h
            · refine lv_bipush (v := 82) C0.1 C0.2.1 d_Mod_number_96 (by decide) ?_
              refine x_goto C0 103 d_Mod_number_98 (by decide) ?_
              exact kJ_15 _ ls (x_sub hl [1, 2, 3, 4, 0] rfl) h
          · refine lv_bipush (v := 83) C0.1 C0.2.1 d_Mod_number_81 (by decide) ?_
            refine x_goto C0 103 d_Mod_number_83 (by decide) ?_
            exact kJ_15 _ ls (x_sub hl [1, 2, 3, 4, 0] rfl) h
        · refine lv_bipush (v := 66) C0.1 C0.2.1 d_Mod_number_66 (by decide) ?_
          refine x_goto C0 103 d_Mod_number_68 (by decide) ?_
          exact kJ_15 _ ls (x_sub hl [1, 2, 3, 4, 0] rfl) h
      · refine lv_iconst (v := 0) C0.1 C0.2.1 d_Mod_number_31 (by decide) ?_
        cases h
        rw [hQ]
        exact x_iret C0 hr hlocks hH hS hz d_Mod_number_32
    refine x_if_ge C0 20 d_Mod_number_13 (by decide) h (fun h => ?_) (fun h => ?_)
    · refine lv_iconst (v := 0) C0.1 C0.2.1 d_Mod_number_20 (by decide) ?_
      exact kJ_4 _ ls (x_sub hl [0, 1, 2, 3] rfl) h
    · refine lv_iconst (v := 2) C0.1 C0.2.1 d_Mod_number_16 (by decide) ?_
      refine x_goto C0 21 d_Mod_number_17 (by decide) ?_
      exact kJ_4 _ ls (x_sub hl [0, 1, 2, 3] rfl) h
  · refine lv_iconst (v := 0) C0.1 C0.2.1 d_Mod_number_9 (by decide) ?_
    cases h
    rw [hQ]
    exact x_iret C0 hr hlocks hH hS hz d_Mod_number_10
theorem d_Mod_want_0 : decode b_Mod_want 0 = .ok (.aload_n 0, 1) := by decide +kernel
theorem d_Mod_want_1 : decode b_Mod_want 1 = .ok (.aload_n 0, 1) := by decide +kernel
theorem d_Mod_want_2 : decode b_Mod_want 2 = .ok (.getfield 142, 3) := by decide +kernel
theorem d_Mod_want_5 : decode b_Mod_want 5 = .ok (.bipush 8, 2) := by decide +kernel
theorem d_Mod_want_7 : decode b_Mod_want 7 = .ok (.if_icmp .ne 7, 3) := by decide +kernel
theorem d_Mod_want_10 : decode b_Mod_want 10 = .ok (.iconst 1, 1) := by decide +kernel
theorem d_Mod_want_11 : decode b_Mod_want 11 = .ok (.goto 18, 3) := by decide +kernel
theorem d_Mod_want_14 : decode b_Mod_want 14 = .ok (.iload_n 1, 1) := by decide +kernel
theorem d_Mod_want_15 : decode b_Mod_want 15 = .ok (.iconst 1, 1) := by decide +kernel
theorem d_Mod_want_16 : decode b_Mod_want 16 = .ok (.bipush 100, 2) := by decide +kernel
theorem d_Mod_want_18 : decode b_Mod_want 18 = .ok (.invokestatic 66, 3) := by decide +kernel
theorem d_Mod_want_21 : decode b_Mod_want 21 = .ok (.ifCond .eq 7, 3) := by decide +kernel
theorem d_Mod_want_24 : decode b_Mod_want 24 = .ok (.iconst 0, 1) := by decide +kernel
theorem d_Mod_want_25 : decode b_Mod_want 25 = .ok (.goto 4, 3) := by decide +kernel
theorem d_Mod_want_28 : decode b_Mod_want 28 = .ok (.iconst 2, 1) := by decide +kernel
theorem d_Mod_want_29 : decode b_Mod_want 29 = .ok (.putfield 59, 3) := by decide +kernel
theorem d_Mod_want_32 : decode b_Mod_want 32 = .ok (.aload_n 0, 1) := by decide +kernel
theorem d_Mod_want_33 : decode b_Mod_want 33 = .ok (.getfield 59, 3) := by decide +kernel
theorem d_Mod_want_36 : decode b_Mod_want 36 = .ok (.ifCond .le 5, 3) := by decide +kernel
theorem d_Mod_want_39 : decode b_Mod_want 39 = .ok (.iconst 0, 1) := by decide +kernel
theorem d_Mod_want_40 : decode b_Mod_want 40 = .ok (.ireturn, 1) := by decide +kernel
theorem d_Mod_want_41 : decode b_Mod_want 41 = .ok (.aload_n 0, 1) := by decide +kernel
theorem d_Mod_want_42 : decode b_Mod_want 42 = .ok (.getfield 41, 3) := by decide +kernel
theorem d_Mod_want_45 : decode b_Mod_want 45 = .ok (.aload_n 0, 1) := by decide +kernel
theorem d_Mod_want_46 : decode b_Mod_want 46 = .ok (.getfield 142, 3) := by decide +kernel
theorem d_Mod_want_49 : decode b_Mod_want 49 = .ok (.iload_n 1, 1) := by decide +kernel
theorem d_Mod_want_50 : decode b_Mod_want 50 = .ok (.iastore, 1) := by decide +kernel
theorem d_Mod_want_51 : decode b_Mod_want 51 = .ok (.aload_n 0, 1) := by decide +kernel
theorem d_Mod_want_52 : decode b_Mod_want 52 = .ok (.dup, 1) := by decide +kernel
theorem d_Mod_want_53 : decode b_Mod_want 53 = .ok (.getfield 142, 3) := by decide +kernel
theorem d_Mod_want_56 : decode b_Mod_want 56 = .ok (.iconst 1, 1) := by decide +kernel
theorem d_Mod_want_57 : decode b_Mod_want 57 = .ok (.iadd, 1) := by decide +kernel
theorem d_Mod_want_58 : decode b_Mod_want 58 = .ok (.putfield 142, 3) := by decide +kernel
theorem d_Mod_want_61 : decode b_Mod_want 61 = .ok (.aload_n 0, 1) := by decide +kernel
theorem d_Mod_want_62 : decode b_Mod_want 62 = .ok (.iconst 0, 1) := by decide +kernel
theorem d_Mod_want_63 : decode b_Mod_want 63 = .ok (.putfield 70, 3) := by decide +kernel
theorem d_Mod_want_66 : decode b_Mod_want 66 = .ok (.aload_n 0, 1) := by decide +kernel
theorem d_Mod_want_67 : decode b_Mod_want 67 = .ok (.getfield 142, 3) := by decide +kernel
theorem d_Mod_want_70 : decode b_Mod_want 70 = .ok (.ireturn, 1) := by decide +kernel
def f_Mod_want (w : Mp) (h0 : Nat) (x1 : Int32) : Option (Int32 × Mp) := (gI w (some h0) 5 13).bind fun v_1 => xJ1 (fun (x_2 : Int32) => (pF w (some h0) 5 0 (.int x_2)).bind fun w_4 => (gI w_4 (some h0) 5 0).bind fun v_5 => if v_5 ≤ 0 then ((gR w_4 (some h0) 5 14).bind fun v_6 => (gI w_4 (some h0) 5 13).bind fun v_7 => (sI w_4 v_6 0 v_7 x1).bind fun w_8 => (gI w_8 (some h0) 5 13).bind fun v_9 => (pF w_8 (some h0) 5 13 (.int (v_9 + (1 : Int32)))).bind fun w_10 => (pF w_10 (some h0) 5 15 (.int (0 : Int32))).bind fun w_11 => (gI w_11 (some h0) 5 13).bind fun v_12 => some (v_12, w_11)) else (some ((0 : Int32), w_4))) fun J_3 => if v_1 = (8 : Int32) then (J_3 (1 : Int32)) else ((f_Mod_isIn w x1 (1 : Int32) (100 : Int32)).bind fun q_13 => if q_13 = 0 then (J_3 (2 : Int32)) else (J_3 (0 : Int32)))
set_option maxHeartbeats 4000000 in
set_option maxRecDepth 100000 in
theorem c_Mod_want (l : Launch) (G : Gx) (w : Mp) (sz : Nat) (h0 : Nat) (x1 : Int32) (res : Int32 × Mp) (hf : f_Mod_want w h0 x1 = some res) : Met l y_Mod_want (xws y_Mod_want b_Mod_want 2 (some .int)) { frames := 1, cells := 0, slots := 0, locals := 22 } (xPc G vwCl xaty w sz [va_rf (some h0), .int x1]) (xQ G vwCl (some (.int res.1)) res.2 sz) (0) (0) (xA G) := by
  refine Met.ofW (cc := b_Mod_want) (maxL := 2) (ret := (some .int)) (by decide) rfl ?_
  intro p e s m args below meth c s₁ B hml hv
  obtain ⟨ha, hE, hH, hz⟩ := hv
  have C0 : CallFix p m c b_Mod_want 2 s args wA R_Mod := ⟨B.exec, B.bytes, hml, findClass_of_methodNamed B.named, fun w hw => atoms_spec (ws := xws y_Mod_want b_Mod_want 2 (some .int)) B.pre w (List.mem_cons_of_mem _ hw)⟩
  have hr := B.returns
  have hlocks := B.notSynchronized
  obtain ⟨R, hR⟩ : ∃ R, R = (headSpec (xws y_Mod_want b_Mod_want 2 (some .int)) { frames := 1, cells := 0, slots := 0, locals := 22 }).room := ⟨_, rfl⟩
  have hR1 : 1 ≤ R.frames := by rw [hR]; exact Nat.le_of_ble_eq_true rfl
  have hR2 : 22 ≤ R.locals := by rw [hR]; exact Nat.le_of_ble_eq_true rfl
  have hR3 : 0 ≤ R.cells := by rw [hR]; exact Nat.le_refl _
  have hR4 : 0 ≤ R.slots := by rw [hR]; exact Nat.le_refl _
  rw [← hR]
  obtain ⟨Q, hQ⟩ : ∃ Q, Q = MQ below (xQ G vwCl (some (.int res.1)) res.2 sz) args s (0) (0) (xA G) := ⟨_, rfl⟩
  rw [← hQ]
  have hS : xS G s s.heap [] := va_S.rf
  obtain ⟨ls, he, hl⟩ := x_entry m [.inr (.inl (some h0)), .inl x1] 2 (Nat.le_of_ble_eq_true rfl)
  rw [show entryFrame m args 2 = F0 m 0 ls [] by rw [ha]; exact he]
  have hl : xL ls 2 [(0, .inr (.inl (some h0))), (1, .inl x1)] := hl
  have h := hf
  unfold f_Mod_want at h
  suffices hmain : ∀ (H : Heap) (locs : List Loc), xhd G vwCl w H → xS G s H locs → H.size = sz → (H = s.heap ∧ locs = []) → W p l e R s m args below meth c H locs 0 0 Q (F0 m 0 ls []) from hmain _ _ hH hS hz ⟨rfl, rfl⟩
  clear hH hS hz
  intro H locs hH hS hz hP0
  refine x_aload_n C0 hl 0 d_Mod_want_0 rfl rfl ?_
  refine x_aload_n C0 hl 0 d_Mod_want_1 rfl rfl ?_
  refine x_getI C0 hE hH (ci := 5) rfl i_Mod 13 (by decide) kw_4_92 d_Mod_want_2 h (fun v_1 h => ?_)
  refine lv_bipush (v := 8) C0.1 C0.2.1 d_Mod_want_5 (by decide) ?_
  refine xj1 h (fun J_3 eJ_3 h => ?_)
  have kJ_3 : ∀ (x_2 : Int32) (ls : Array Slot), xL ls 2 [(0, .inr (.inl (some h0))), (1, .inl x1)] → J_3 x_2 = some res → W p l e R s m args below meth c H locs 0 0 Q (F0 m 29 ls [.int x_2, va_rf (some h0)]) := by
    intro x_2 ls hl h
    rw [eJ_3] at h
    refine x_put C0 hE hH hS (ci := 5) rfl i_Mod t_Mod t_Mod_ok n_Mod 0 (by decide) kw_4_79 rfl rfl rfl d_Mod_want_29 h (fun w_4 H locs hH hS hz9 h => ?_)
    have hz := hz9.trans hz
    refine x_aload_n C0 hl 0 d_Mod_want_32 rfl rfl ?_
    refine x_getI C0 hE hH (ci := 5) rfl i_Mod 0 (by decide) kw_4_79 d_Mod_want_33 h (fun v_5 h => ?_)
    refine x_if_le C0 41 d_Mod_want_36 (by decide) h (fun h => ?_) (fun h => ?_)
    · refine x_aload_n C0 hl 0 d_Mod_want_41 rfl rfl ?_
      refine x_getR C0 hE hH (ci := 5) rfl i_Mod 14 (by decide) kw_4_93 d_Mod_want_42 h (fun v_6 h => ?_)
      refine x_aload_n C0 hl 0 d_Mod_want_45 rfl rfl ?_
      refine x_getI C0 hE hH (ci := 5) rfl i_Mod 13 (by decide) kw_4_92 d_Mod_want_46 h (fun v_7 h => ?_)
      refine x_iload_n C0 hl 1 d_Mod_want_49 rfl rfl ?_
      refine x_iast C0 hE hH hS (t := 0) rfl d_Mod_want_50 h (fun w_8 H locs hH hS hz9 h => ?_)
      have hz := hz9.trans hz
      refine x_aload_n C0 hl 0 d_Mod_want_51 rfl rfl ?_
      refine lv_dup C0.1 C0.2.1 d_Mod_want_52 (va_rf_cat _) ?_
      refine x_getI C0 hE hH (ci := 5) rfl i_Mod 13 (by decide) kw_4_92 d_Mod_want_53 h (fun v_9 h => ?_)
      refine lv_iconst (v := 1) C0.1 C0.2.1 d_Mod_want_56 (by decide) ?_
      refine lv_iadd C0.1 C0.2.1 d_Mod_want_57 ?_
      refine x_put C0 hE hH hS (ci := 5) rfl i_Mod t_Mod t_Mod_ok n_Mod 13 (by decide) kw_4_92 rfl rfl rfl d_Mod_want_58 h (fun w_10 H locs hH hS hz9 h => ?_)
      have hz := hz9.trans hz
      refine x_aload_n C0 hl 0 d_Mod_want_61 rfl rfl ?_
      refine lv_iconst (v := 0) C0.1 C0.2.1 d_Mod_want_62 (by decide) ?_
      refine x_put C0 hE hH hS (ci := 5) rfl i_Mod t_Mod t_Mod_ok n_Mod 15 (by decide) kw_4_94 rfl rfl rfl d_Mod_want_63 h (fun w_11 H locs hH hS hz9 h => ?_)
      have hz := hz9.trans hz
      refine x_aload_n C0 hl 0 d_Mod_want_66 rfl rfl ?_
      refine x_getI C0 hE hH (ci := 5) rfl i_Mod 13 (by decide) kw_4_92 d_Mod_want_67 h (fun v_12 h => ?_)
      cases h
      rw [hQ]
      exact x_iret C0 hr hlocks hH hS hz d_Mod_want_70
    · refine lv_iconst (v := 0) C0.1 C0.2.1 d_Mod_want_39 (by decide) ?_
      cases h
      rw [hQ]
      exact x_iret C0 hr hlocks hH hS hz d_Mod_want_40
  refine x_icmp_ne C0 14 d_Mod_want_7 (by decide) h (fun h => ?_) (fun h => ?_)
  · refine x_iload_n C0 hl 1 d_Mod_want_14 rfl rfl ?_
    refine lv_iconst (v := 1) C0.1 C0.2.1 d_Mod_want_15 (by decide) ?_
    refine lv_bipush (v := 100) C0.1 C0.2.1 d_Mod_want_16 (by decide) ?_
    obtain ⟨q_13, e9, h⟩ := Option.bind_eq_some_iff.mp h
    refine x_callP (va_runS (As := [.int x1, .int (1 : Int32), .int (100 : Int32)]) (rest := [va_rf (some h0)]) C0 (c_Mod_isIn l G w _ x1 (1 : Int32) (100 : Int32) q_13 e9) (x_cwS 3 C0 kw_4_155 kw_4_157 kw_1_3 kw_4_156 (by decide +kernel) (x_rm hR1 hR2 (Nat.le_of_ble_eq_true rfl) (Nat.le_of_ble_eq_true rfl))) (x_preS hE hH hS) rfl rfl hl.1 rfl (lv_room (by first | exact Nat.le_of_ble_eq_true rfl | simp only [List.map_cons, List.map_nil, List.sum_cons, List.sum_nil, va_rf_cat, x_catI, x_catL, x_catA] <;> decide)) d_Mod_want_18 (x_le0 hR3 hR4)) ?_
    refine x_if_eq C0 28 d_Mod_want_21 (by decide) h (fun h => ?_) (fun h => ?_)
    · refine lv_iconst (v := 2) C0.1 C0.2.1 d_Mod_want_28 (by decide) ?_
      exact kJ_3 _ ls (x_sub hl [0, 1] rfl) h
    · refine lv_iconst (v := 0) C0.1 C0.2.1 d_Mod_want_24 (by decide) ?_
      refine x_goto C0 29 d_Mod_want_25 (by decide) ?_
      exact kJ_3 _ ls (x_sub hl [0, 1] rfl) h
  · refine lv_iconst (v := 1) C0.1 C0.2.1 d_Mod_want_10 (by decide) ?_
    refine x_goto C0 29 d_Mod_want_11 (by decide) ?_
    exact kJ_3 _ ls (x_sub hl [0, 1] rfl) h
theorem d_Mod_clear_0 : decode b_Mod_clear 0 = .ok (.aload_n 0, 1) := by decide +kernel
theorem d_Mod_clear_1 : decode b_Mod_clear 1 = .ok (.iconst 0, 1) := by decide +kernel
theorem d_Mod_clear_2 : decode b_Mod_clear 2 = .ok (.putfield 59, 3) := by decide +kernel
theorem d_Mod_clear_5 : decode b_Mod_clear 5 = .ok (.aload_n 0, 1) := by decide +kernel
theorem d_Mod_clear_6 : decode b_Mod_clear 6 = .ok (.getfield 142, 3) := by decide +kernel
theorem d_Mod_clear_9 : decode b_Mod_clear 9 = .ok (.istore_n 1, 1) := by decide +kernel
theorem d_Mod_clear_10 : decode b_Mod_clear 10 = .ok (.aload_n 0, 1) := by decide +kernel
theorem d_Mod_clear_11 : decode b_Mod_clear 11 = .ok (.iconst 0, 1) := by decide +kernel
theorem d_Mod_clear_12 : decode b_Mod_clear 12 = .ok (.putfield 142, 3) := by decide +kernel
theorem d_Mod_clear_15 : decode b_Mod_clear 15 = .ok (.aload_n 0, 1) := by decide +kernel
theorem d_Mod_clear_16 : decode b_Mod_clear 16 = .ok (.iconst 0, 1) := by decide +kernel
theorem d_Mod_clear_17 : decode b_Mod_clear 17 = .ok (.putfield 70, 3) := by decide +kernel
theorem d_Mod_clear_20 : decode b_Mod_clear 20 = .ok (.iload_n 1, 1) := by decide +kernel
theorem d_Mod_clear_21 : decode b_Mod_clear 21 = .ok (.ireturn, 1) := by decide +kernel
def f_Mod_clear (w : Mp) (h0 : Nat) : Option (Int32 × Mp) := (pF w (some h0) 5 0 (.int (0 : Int32))).bind fun w_1 => (gI w_1 (some h0) 5 13).bind fun v_2 => (pF w_1 (some h0) 5 13 (.int (0 : Int32))).bind fun w_3 => (pF w_3 (some h0) 5 15 (.int (0 : Int32))).bind fun w_4 => some (v_2, w_4)
set_option maxHeartbeats 4000000 in
set_option maxRecDepth 100000 in
theorem c_Mod_clear (l : Launch) (G : Gx) (w : Mp) (sz : Nat) (h0 : Nat) (res : Int32 × Mp) (hf : f_Mod_clear w h0 = some res) : Met l y_Mod_clear (xws y_Mod_clear b_Mod_clear 2 (some .int)) { frames := 0, cells := 0, slots := 0, locals := 0 } (xPc G vwCl xaty w sz [va_rf (some h0)]) (xQ G vwCl (some (.int res.1)) res.2 sz) (0) (0) (xA G) := by
  refine Met.ofW (cc := b_Mod_clear) (maxL := 2) (ret := (some .int)) (by decide) rfl ?_
  intro p e s m args below meth c s₁ B hml hv
  obtain ⟨ha, hE, hH, hz⟩ := hv
  have C0 : CallFix p m c b_Mod_clear 2 s args wA R_Mod := ⟨B.exec, B.bytes, hml, findClass_of_methodNamed B.named, fun w hw => atoms_spec (ws := xws y_Mod_clear b_Mod_clear 2 (some .int)) B.pre w (List.mem_cons_of_mem _ hw)⟩
  have hr := B.returns
  have hlocks := B.notSynchronized
  obtain ⟨R, hR⟩ : ∃ R, R = (headSpec (xws y_Mod_clear b_Mod_clear 2 (some .int)) { frames := 0, cells := 0, slots := 0, locals := 0 }).room := ⟨_, rfl⟩
  have hR1 : 0 ≤ R.frames := by rw [hR]; exact Nat.le_of_ble_eq_true rfl
  have hR2 : 0 ≤ R.locals := by rw [hR]; exact Nat.le_of_ble_eq_true rfl
  have hR3 : 0 ≤ R.cells := by rw [hR]; exact Nat.le_refl _
  have hR4 : 0 ≤ R.slots := by rw [hR]; exact Nat.le_refl _
  rw [← hR]
  obtain ⟨Q, hQ⟩ : ∃ Q, Q = MQ below (xQ G vwCl (some (.int res.1)) res.2 sz) args s (0) (0) (xA G) := ⟨_, rfl⟩
  rw [← hQ]
  have hS : xS G s s.heap [] := va_S.rf
  obtain ⟨ls, he, hl⟩ := x_entry m [.inr (.inl (some h0))] 2 (Nat.le_of_ble_eq_true rfl)
  rw [show entryFrame m args 2 = F0 m 0 ls [] by rw [ha]; exact he]
  have hl : xL ls 2 [(0, .inr (.inl (some h0)))] := hl
  have h := hf
  unfold f_Mod_clear at h
  suffices hmain : ∀ (H : Heap) (locs : List Loc), xhd G vwCl w H → xS G s H locs → H.size = sz → (H = s.heap ∧ locs = []) → W p l e R s m args below meth c H locs 0 0 Q (F0 m 0 ls []) from hmain _ _ hH hS hz ⟨rfl, rfl⟩
  clear hH hS hz
  intro H locs hH hS hz hP0
  refine x_aload_n C0 hl 0 d_Mod_clear_0 rfl rfl ?_
  refine lv_iconst (v := 0) C0.1 C0.2.1 d_Mod_clear_1 (by decide) ?_
  refine x_put C0 hE hH hS (ci := 5) rfl i_Mod t_Mod t_Mod_ok n_Mod 0 (by decide) kw_4_79 rfl rfl rfl d_Mod_clear_2 h (fun w_1 H locs hH hS hz9 h => ?_)
  have hz := hz9.trans hz
  refine x_aload_n C0 hl 0 d_Mod_clear_5 rfl rfl ?_
  refine x_getI C0 hE hH (ci := 5) rfl i_Mod 13 (by decide) kw_4_92 d_Mod_clear_6 h (fun v_2 h => ?_)
  refine x_istore_n (lv' := [(1, .inl v_2), (0, .inr (.inl (some h0)))]) C0 hl d_Mod_clear_9 rfl (by decide) rfl (fun ls hl => ?_)
  refine x_aload_n C0 hl 1 d_Mod_clear_10 rfl rfl ?_
  refine lv_iconst (v := 0) C0.1 C0.2.1 d_Mod_clear_11 (by decide) ?_
  refine x_put C0 hE hH hS (ci := 5) rfl i_Mod t_Mod t_Mod_ok n_Mod 13 (by decide) kw_4_92 rfl rfl rfl d_Mod_clear_12 h (fun w_3 H locs hH hS hz9 h => ?_)
  have hz := hz9.trans hz
  refine x_aload_n C0 hl 1 d_Mod_clear_15 rfl rfl ?_
  refine lv_iconst (v := 0) C0.1 C0.2.1 d_Mod_clear_16 (by decide) ?_
  refine x_put C0 hE hH hS (ci := 5) rfl i_Mod t_Mod t_Mod_ok n_Mod 15 (by decide) kw_4_94 rfl rfl rfl d_Mod_clear_17 h (fun w_4 H locs hH hS hz9 h => ?_)
  have hz := hz9.trans hz
  refine x_iload_n C0 hl 0 d_Mod_clear_20 rfl rfl ?_
  cases h
  rw [hQ]
  exact x_iret C0 hr hlocks hH hS hz d_Mod_clear_21
theorem d_Mod_walk_0 : decode b_Mod_walk 0 = .ok (.iload_n 1, 1) := by decide +kernel
theorem d_Mod_walk_1 : decode b_Mod_walk 1 = .ok (.istore_n 2, 1) := by decide +kernel
theorem d_Mod_walk_2 : decode b_Mod_walk 2 = .ok (.iconst 0, 1) := by decide +kernel
theorem d_Mod_walk_3 : decode b_Mod_walk 3 = .ok (.istore_n 3, 1) := by decide +kernel
theorem d_Mod_walk_4 : decode b_Mod_walk 4 = .ok (.iload_n 2, 1) := by decide +kernel
theorem d_Mod_walk_5 : decode b_Mod_walk 5 = .ok (.ifCond .eq 120, 3) := by decide +kernel
theorem d_Mod_walk_8 : decode b_Mod_walk 8 = .ok (.iconst 0, 1) := by decide +kernel
theorem d_Mod_walk_9 : decode b_Mod_walk 9 = .ok (.istore 4, 2) := by decide +kernel
theorem d_Mod_walk_11 : decode b_Mod_walk 11 = .ok (.iload 4, 2) := by decide +kernel
theorem d_Mod_walk_13 : decode b_Mod_walk 13 = .ok (.aload_n 0, 1) := by decide +kernel
theorem d_Mod_walk_14 : decode b_Mod_walk 14 = .ok (.getfield 142, 3) := by decide +kernel
theorem d_Mod_walk_17 : decode b_Mod_walk 17 = .ok (.if_icmp .ge 41, 3) := by decide +kernel
theorem d_Mod_walk_20 : decode b_Mod_walk 20 = .ok (.iload_n 2, 1) := by decide +kernel
theorem d_Mod_walk_21 : decode b_Mod_walk 21 = .ok (.iload 4, 2) := by decide +kernel
theorem d_Mod_walk_23 : decode b_Mod_walk 23 = .ok (.ishr, 1) := by decide +kernel
theorem d_Mod_walk_24 : decode b_Mod_walk 24 = .ok (.iconst 1, 1) := by decide +kernel
theorem d_Mod_walk_25 : decode b_Mod_walk 25 = .ok (.iand, 1) := by decide +kernel
theorem d_Mod_walk_26 : decode b_Mod_walk 26 = .ok (.ifCond .eq 26, 3) := by decide +kernel
theorem d_Mod_walk_29 : decode b_Mod_walk 29 = .ok (.aload_n 0, 1) := by decide +kernel
theorem d_Mod_walk_30 : decode b_Mod_walk 30 = .ok (.iload_n 3, 1) := by decide +kernel
theorem d_Mod_walk_31 : decode b_Mod_walk 31 = .ok (.iload_n 2, 1) := by decide +kernel
theorem d_Mod_walk_32 : decode b_Mod_walk 32 = .ok (.iload 4, 2) := by decide +kernel
theorem d_Mod_walk_34 : decode b_Mod_walk 34 = .ok (.invokevirtual 152, 3) := by decide +kernel
theorem d_Mod_walk_37 : decode b_Mod_walk 37 = .ok (.aload_n 0, 1) := by decide +kernel
theorem d_Mod_walk_38 : decode b_Mod_walk 38 = .ok (.getfield 53, 3) := by decide +kernel
theorem d_Mod_walk_41 : decode b_Mod_walk 41 = .ok (.sipush 256, 3) := by decide +kernel
theorem d_Mod_walk_44 : decode b_Mod_walk 44 = .ok (.iload_n 3, 1) := by decide +kernel
theorem d_Mod_walk_45 : decode b_Mod_walk 45 = .ok (.imul, 1) := by decide +kernel
theorem d_Mod_walk_46 : decode b_Mod_walk 46 = .ok (.iload_n 2, 1) := by decide +kernel
theorem d_Mod_walk_47 : decode b_Mod_walk 47 = .ok (.iadd, 1) := by decide +kernel
theorem d_Mod_walk_48 : decode b_Mod_walk 48 = .ok (.iaload, 1) := by decide +kernel
theorem d_Mod_walk_49 : decode b_Mod_walk 49 = .ok (.if_icmp .eq 9, 3) := by decide +kernel
theorem d_Mod_walk_52 : decode b_Mod_walk 52 = .ok (.iinc 4 1, 3) := by decide +kernel
theorem d_Mod_walk_55 : decode b_Mod_walk 55 = .ok (.goto (-44), 3) := by decide +kernel
theorem d_Mod_walk_58 : decode b_Mod_walk 58 = .ok (.iload 4, 2) := by decide +kernel
theorem d_Mod_walk_60 : decode b_Mod_walk 60 = .ok (.aload_n 0, 1) := by decide +kernel
theorem d_Mod_walk_61 : decode b_Mod_walk 61 = .ok (.getfield 142, 3) := by decide +kernel
theorem d_Mod_walk_64 : decode b_Mod_walk 64 = .ok (.if_icmp .ne 9, 3) := by decide +kernel
theorem d_Mod_walk_67 : decode b_Mod_walk 67 = .ok (.iinc 3 1, 3) := by decide +kernel
theorem d_Mod_walk_70 : decode b_Mod_walk 70 = .ok (.goto 52, 3) := by decide +kernel
theorem d_Mod_walk_73 : decode b_Mod_walk 73 = .ok (.aload_n 0, 1) := by decide +kernel
theorem d_Mod_walk_74 : decode b_Mod_walk 74 = .ok (.getfield 44, 3) := by decide +kernel
theorem d_Mod_walk_77 : decode b_Mod_walk 77 = .ok (.iload 4, 2) := by decide +kernel
theorem d_Mod_walk_79 : decode b_Mod_walk 79 = .ok (.aload_n 0, 1) := by decide +kernel
theorem d_Mod_walk_80 : decode b_Mod_walk 80 = .ok (.getfield 50, 3) := by decide +kernel
theorem d_Mod_walk_83 : decode b_Mod_walk 83 = .ok (.iload_n 3, 1) := by decide +kernel
theorem d_Mod_walk_84 : decode b_Mod_walk 84 = .ok (.iaload, 1) := by decide +kernel
theorem d_Mod_walk_85 : decode b_Mod_walk 85 = .ok (.iastore, 1) := by decide +kernel
theorem d_Mod_walk_86 : decode b_Mod_walk 86 = .ok (.aload_n 0, 1) := by decide +kernel
theorem d_Mod_walk_87 : decode b_Mod_walk 87 = .ok (.getfield 47, 3) := by decide +kernel
theorem d_Mod_walk_90 : decode b_Mod_walk 90 = .ok (.iload 4, 2) := by decide +kernel
theorem d_Mod_walk_92 : decode b_Mod_walk 92 = .ok (.aload_n 0, 1) := by decide +kernel
theorem d_Mod_walk_93 : decode b_Mod_walk 93 = .ok (.iload_n 3, 1) := by decide +kernel
theorem d_Mod_walk_94 : decode b_Mod_walk 94 = .ok (.aload_n 0, 1) := by decide +kernel
theorem d_Mod_walk_95 : decode b_Mod_walk 95 = .ok (.getfield 41, 3) := by decide +kernel
theorem d_Mod_walk_98 : decode b_Mod_walk 98 = .ok (.iload 4, 2) := by decide +kernel
theorem d_Mod_walk_100 : decode b_Mod_walk 100 = .ok (.iaload, 1) := by decide +kernel
theorem d_Mod_walk_101 : decode b_Mod_walk 101 = .ok (.invokevirtual 145, 3) := by decide +kernel
theorem d_Mod_walk_104 : decode b_Mod_walk 104 = .ok (.iastore, 1) := by decide +kernel
theorem d_Mod_walk_105 : decode b_Mod_walk 105 = .ok (.iload_n 3, 1) := by decide +kernel
theorem d_Mod_walk_106 : decode b_Mod_walk 106 = .ok (.aload_n 0, 1) := by decide +kernel
theorem d_Mod_walk_107 : decode b_Mod_walk 107 = .ok (.getfield 47, 3) := by decide +kernel
theorem d_Mod_walk_110 : decode b_Mod_walk 110 = .ok (.iload 4, 2) := by decide +kernel
theorem d_Mod_walk_112 : decode b_Mod_walk 112 = .ok (.iaload, 1) := by decide +kernel
theorem d_Mod_walk_113 : decode b_Mod_walk 113 = .ok (.iadd, 1) := by decide +kernel
theorem d_Mod_walk_114 : decode b_Mod_walk 114 = .ok (.istore_n 3, 1) := by decide +kernel
theorem d_Mod_walk_115 : decode b_Mod_walk 115 = .ok (.iload_n 2, 1) := by decide +kernel
theorem d_Mod_walk_116 : decode b_Mod_walk 116 = .ok (.iconst 1, 1) := by decide +kernel
theorem d_Mod_walk_117 : decode b_Mod_walk 117 = .ok (.iload 4, 2) := by decide +kernel
theorem d_Mod_walk_119 : decode b_Mod_walk 119 = .ok (.ishl, 1) := by decide +kernel
theorem d_Mod_walk_120 : decode b_Mod_walk 120 = .ok (.ixor, 1) := by decide +kernel
theorem d_Mod_walk_121 : decode b_Mod_walk 121 = .ok (.istore_n 2, 1) := by decide +kernel
theorem d_Mod_walk_122 : decode b_Mod_walk 122 = .ok (.goto (-118), 3) := by decide +kernel
theorem d_Mod_walk_125 : decode b_Mod_walk 125 = .ok (.return_, 1) := by decide +kernel
def f_Mod_walk_L11 (w : Mp) (h0 : Nat) (x2 : Int32) (x3 : Int32) : Nat → Int32 → Option (Nat × Int32)
  | 0, _ => none
  | n + 1, x4 => (gI w (some h0) 5 13).bind fun v_1 => if v_1 ≤ x4 then (some (0, x4)) else (if ((x2 >>> (x4 &&& 31)) &&& (1 : Int32)) = 0 then (f_Mod_walk_L11 w h0 x2 x3 n (x4 + 1)) else ((xo w (some h0) 5).bind fun b_3 => (f_Mod_lossWith w b_3 x3 x2 x4).bind fun q_2 => (gR w (some h0) 5 20).bind fun v_4 => (aI w v_4 0 (((256 : Int32) * x3) + x2)).bind fun v_5 => if q_2 = v_5 then (some (0, x4)) else (f_Mod_walk_L11 w h0 x2 x3 n (x4 + 1))))
set_option maxHeartbeats 4000000 in
set_option maxRecDepth 100000 in
theorem w_Mod_walk_L11 {p : Program} {l : Launch} {e : Env} {R : Room} {s : State} {m : MethodId} {args : Array Value} {below : List Frame} {meth : Method} {c : Code} {Q : State → Prop} {cells slots sz : Nat} {G : Gx} {h0 : Nat} {x2 : Int32} {x3 : Int32} (C0 : CallFix p m c b_Mod_walk 5 s args wA R_Mod) (hE : xE G vwCl xaty s) (hR1 : 2 ≤ R.frames) (hR2 : 49 ≤ R.locals) (hR3 : cells ≤ R.cells) (hR4 : slots ≤ R.slots) {w : Mp} {H : Heap} {locs : List Loc} (hH : xhd G vwCl w H) (hS : xS G s H locs) (hz : H.size = sz) : ∀ (n : Nat) (x4 : Int32) (q : Nat × Int32) (ls : Array Slot), xL ls 5 [(0, .inr (.inl (some h0))), (2, .inl x2), (3, .inl x3), (4, .inl x4)] → f_Mod_walk_L11 w h0 x2 x3 n x4 = some q → (∀ (ls : Array Slot), xL ls 5 [(0, .inr (.inl (some h0))), (2, .inl x2), (3, .inl x3), (4, .inl q.2)] → W p l e R s m args below meth c H locs cells slots Q (F0 m 58 ls [])) → W p l e R s m args below meth c H locs cells slots Q (F0 m 11 ls []) := by
  intro n
  induction n with
  | zero => intro _ q ls hl h; cases h
  | succ n ih =>
    intro x4 q ls hl h K
    rw [f_Mod_walk_L11] at h
    refine x_iload C0 hl 3 d_Mod_walk_11 rfl ?_
    refine x_aload_n C0 hl 0 d_Mod_walk_13 rfl rfl ?_
    refine x_getI C0 hE hH (ci := 5) rfl i_Mod 13 (by decide) kw_4_92 d_Mod_walk_14 h (fun v_1 h => ?_)
    refine x_icmp_ge C0 58 d_Mod_walk_17 (by decide) h (fun h => ?_) (fun h => ?_)
    · cases h
      exact K ls (x_sub hl [0, 1, 2, 3] rfl)
    · refine x_iload_n C0 hl 1 d_Mod_walk_20 rfl rfl ?_
      refine x_iload C0 hl 3 d_Mod_walk_21 rfl ?_
      refine lv_ishr C0.1 C0.2.1 d_Mod_walk_23 ?_
      refine lv_iconst (v := 1) C0.1 C0.2.1 d_Mod_walk_24 (by decide) ?_
      refine lv_iand C0.1 C0.2.1 d_Mod_walk_25 ?_
      refine x_if_eq C0 52 d_Mod_walk_26 (by decide) h (fun h => ?_) (fun h => ?_)
      · refine x_iinc (v := 1) (lv' := [(4, .inl (x4 + 1)), (0, .inr (.inl (some h0))), (2, .inl x2), (3, .inl x3)]) C0 hl 3 d_Mod_walk_52 rfl (by decide) (by decide) rfl (fun ls hl => ?_)
        refine x_goto C0 11 d_Mod_walk_55 (by decide) ?_
        exact ih _ q ls (x_sub hl [1, 2, 3, 0] rfl) h K
      · refine x_aload_n C0 hl 0 d_Mod_walk_29 rfl rfl ?_
        refine x_iload_n C0 hl 2 d_Mod_walk_30 rfl rfl ?_
        refine x_iload_n C0 hl 1 d_Mod_walk_31 rfl rfl ?_
        refine x_iload C0 hl 3 d_Mod_walk_32 rfl ?_
        obtain ⟨b_3, e9, h⟩ := Option.bind_eq_some_iff.mp h
        obtain ⟨e8, fs9, hb9⟩ := xo_inv e9
        obtain ⟨q_2, e9, h⟩ := Option.bind_eq_some_iff.mp h
        refine x_callP (va_runV (As := [.int x3, .int x2, .int x4]) (rest := []) C0 (c_Mod_lossWith l G w _ b_3 x3 x2 x4 q_2 e9) (x_cwV 3 C0 kw_5_52 kw_5_55 kw_1_3 kw_5_54 kw_0_33 (by decide +kernel) (x_rm hR1 hR2 (Nat.le_of_ble_eq_true rfl) (Nat.le_of_ble_eq_true rfl))) (x_preV hE hH hS (ci := 5) rfl hb9) rfl rfl hl.1 (by rw [e8]; rfl) (lv_room (by first | exact Nat.le_of_ble_eq_true rfl | simp only [List.map_cons, List.map_nil, List.sum_cons, List.sum_nil, va_rf_cat, x_catI, x_catL, x_catA] <;> decide)) d_Mod_walk_34 (x_le0 hR3 hR4)) ?_
        refine x_aload_n C0 hl 0 d_Mod_walk_37 rfl rfl ?_
        refine x_getR C0 hE hH (ci := 5) rfl i_Mod 20 (by decide) kw_4_99 d_Mod_walk_38 h (fun v_4 h => ?_)
        refine lv_sipush (v := 256) C0.1 C0.2.1 d_Mod_walk_41 (by decide) ?_
        refine x_iload_n C0 hl 2 d_Mod_walk_44 rfl rfl ?_
        refine lv_imul C0.1 C0.2.1 d_Mod_walk_45 ?_
        refine x_iload_n C0 hl 1 d_Mod_walk_46 rfl rfl ?_
        refine lv_iadd C0.1 C0.2.1 d_Mod_walk_47 ?_
        refine x_iald C0 hE hH (t := 0) rfl d_Mod_walk_48 h (fun v_5 h => ?_)
        refine x_icmp_eq C0 58 d_Mod_walk_49 (by decide) h (fun h => ?_) (fun h => ?_)
        · cases h
          exact K ls (x_sub hl [0, 1, 2, 3] rfl)
        · refine x_iinc (v := 1) (lv' := [(4, .inl (x4 + 1)), (0, .inr (.inl (some h0))), (2, .inl x2), (3, .inl x3)]) C0 hl 3 d_Mod_walk_52 rfl (by decide) (by decide) rfl (fun ls hl => ?_)
          refine x_goto C0 11 d_Mod_walk_55 (by decide) ?_
          exact ih _ q ls (x_sub hl [1, 2, 3, 0] rfl) h K
def f_Mod_walk_L4 (h0 : Nat) : Nat → Int32 → Int32 → Mp → Option (Nat × Int32 × Int32 × Mp)
  | 0, _, _, _ => none
  | n + 1, x2, x3, w => if x2 = 0 then (some (0, x2, x3, w)) else ((f_Mod_walk_L11 w h0 x2 x3 100000 (0 : Int32)).bind fun q_6 => (gI w (some h0) 5 13).bind fun v_7 => if q_6.2 = v_7 then (f_Mod_walk_L4 h0 n x2 (x3 + 1) w) else ((gR w (some h0) 5 16).bind fun v_8 => (gR w (some h0) 5 19).bind fun v_9 => (aI w v_9 0 x3).bind fun v_10 => (sI w v_8 0 q_6.2 v_10).bind fun w_11 => (gR w_11 (some h0) 5 17).bind fun v_12 => (gR w_11 (some h0) 5 14).bind fun v_13 => (aI w_11 v_13 0 q_6.2).bind fun v_14 => (xo w_11 (some h0) 5).bind fun b_16 => (f_Mod_manyFrom w_11 b_16 x3 v_14).bind fun q_15 => (sI w_11 v_12 0 q_6.2 q_15).bind fun w_17 => (gR w_17 (some h0) 5 17).bind fun v_18 => (aI w_17 v_18 0 q_6.2).bind fun v_19 => f_Mod_walk_L4 h0 n (x2 ^^^ ((1 : Int32) <<< (q_6.2 &&& 31))) (x3 + v_19) w_17))
set_option maxHeartbeats 4000000 in
set_option maxRecDepth 100000 in
theorem w_Mod_walk_L4 {p : Program} {l : Launch} {e : Env} {R : Room} {s : State} {m : MethodId} {args : Array Value} {below : List Frame} {meth : Method} {c : Code} {Q : State → Prop} {cells slots sz : Nat} {G : Gx} {h0 : Nat} (C0 : CallFix p m c b_Mod_walk 5 s args wA R_Mod) (hE : xE G vwCl xaty s) (hR1 : 2 ≤ R.frames) (hR2 : 49 ≤ R.locals) (hR3 : cells ≤ R.cells) (hR4 : slots ≤ R.slots) : ∀ (n : Nat) (x2 : Int32) (x3 : Int32) (w : Mp) (H : Heap) (locs : List Loc) (q : Nat × Int32 × Int32 × Mp) (ls : Array Slot), xhd G vwCl w H → xS G s H locs → H.size = sz → xL ls 5 [(0, .inr (.inl (some h0))), (2, .inl x2), (3, .inl x3)] → f_Mod_walk_L4 h0 n x2 x3 w = some q → (∀ (H : Heap) (locs : List Loc) (ls : Array Slot), xhd G vwCl q.2.2.2 H → xS G s H locs → H.size = sz → xL ls 5 [(0, .inr (.inl (some h0))), (2, .inl q.2.1), (3, .inl q.2.2.1)] → W p l e R s m args below meth c H locs cells slots Q (F0 m 125 ls [])) → W p l e R s m args below meth c H locs cells slots Q (F0 m 4 ls []) := by
  intro n
  induction n with
  | zero => intro _ _ _ _ _ q ls hH hS hz hl h; cases h
  | succ n ih =>
    intro x2 x3 w H locs q ls hH hS hz hl h K
    rw [f_Mod_walk_L4] at h
    refine x_iload_n C0 hl 1 d_Mod_walk_4 rfl rfl ?_
    refine x_if_eq C0 125 d_Mod_walk_5 (by decide) h (fun h => ?_) (fun h => ?_)
    · cases h
      exact K _ _ ls hH hS hz (x_sub hl [0, 1, 2] rfl)
    · refine lv_iconst (v := 0) C0.1 C0.2.1 d_Mod_walk_8 (by decide) ?_
      refine x_istore (lv' := [(4, .inl (0 : Int32)), (0, .inr (.inl (some h0))), (2, .inl x2), (3, .inl x3)]) C0 hl d_Mod_walk_9 (by decide) rfl (fun ls hl => ?_)
      obtain ⟨q_6, e9, h⟩ := Option.bind_eq_some_iff.mp h
      refine w_Mod_walk_L11 C0 hE hR1 hR2 hR3 hR4 hH hS hz 100000 _ q_6 ls (x_sub hl [1, 2, 3, 0] rfl) e9 (fun ls hl => ?_)
      refine x_iload C0 hl 3 d_Mod_walk_58 rfl ?_
      refine x_aload_n C0 hl 0 d_Mod_walk_60 rfl rfl ?_
      refine x_getI C0 hE hH (ci := 5) rfl i_Mod 13 (by decide) kw_4_92 d_Mod_walk_61 h (fun v_7 h => ?_)
      refine x_icmp_ne C0 73 d_Mod_walk_64 (by decide) h (fun h => ?_) (fun h => ?_)
      · refine x_aload_n C0 hl 0 d_Mod_walk_73 rfl rfl ?_
        refine x_getR C0 hE hH (ci := 5) rfl i_Mod 16 (by decide) kw_4_95 d_Mod_walk_74 h (fun v_8 h => ?_)
        refine x_iload C0 hl 3 d_Mod_walk_77 rfl ?_
        refine x_aload_n C0 hl 0 d_Mod_walk_79 rfl rfl ?_
        refine x_getR C0 hE hH (ci := 5) rfl i_Mod 19 (by decide) kw_4_98 d_Mod_walk_80 h (fun v_9 h => ?_)
        refine x_iload_n C0 hl 2 d_Mod_walk_83 rfl rfl ?_
        refine x_iald C0 hE hH (t := 0) rfl d_Mod_walk_84 h (fun v_10 h => ?_)
        refine x_iast C0 hE hH hS (t := 0) rfl d_Mod_walk_85 h (fun w_11 H locs hH hS hz9 h => ?_)
        have hz := hz9.trans hz
        refine x_aload_n C0 hl 0 d_Mod_walk_86 rfl rfl ?_
        refine x_getR C0 hE hH (ci := 5) rfl i_Mod 17 (by decide) kw_4_96 d_Mod_walk_87 h (fun v_12 h => ?_)
        refine x_iload C0 hl 3 d_Mod_walk_90 rfl ?_
        refine x_aload_n C0 hl 0 d_Mod_walk_92 rfl rfl ?_
        refine x_iload_n C0 hl 2 d_Mod_walk_93 rfl rfl ?_
        refine x_aload_n C0 hl 0 d_Mod_walk_94 rfl rfl ?_
        refine x_getR C0 hE hH (ci := 5) rfl i_Mod 14 (by decide) kw_4_93 d_Mod_walk_95 h (fun v_13 h => ?_)
        refine x_iload C0 hl 3 d_Mod_walk_98 rfl ?_
        refine x_iald C0 hE hH (t := 0) rfl d_Mod_walk_100 h (fun v_14 h => ?_)
        obtain ⟨b_16, e9, h⟩ := Option.bind_eq_some_iff.mp h
        obtain ⟨e8, fs9, hb9⟩ := xo_inv e9
        obtain ⟨q_15, e9, h⟩ := Option.bind_eq_some_iff.mp h
        refine x_callP (va_runV (As := [.int x3, .int v_14]) (rest := [.int q_6.2, va_rf v_12]) C0 (c_Mod_manyFrom l G w_11 _ b_16 x3 v_14 q_15 e9) (x_cwV 2 C0 kw_5_56 kw_5_59 kw_1_3 kw_5_58 kw_0_34 (by decide +kernel) (x_rm hR1 hR2 (Nat.le_of_ble_eq_true rfl) (Nat.le_of_ble_eq_true rfl))) (x_preV hE hH hS (ci := 5) rfl hb9) rfl rfl hl.1 (by rw [e8]; rfl) (lv_room (by first | exact Nat.le_of_ble_eq_true rfl | simp only [List.map_cons, List.map_nil, List.sum_cons, List.sum_nil, va_rf_cat, x_catI, x_catL, x_catA] <;> decide)) d_Mod_walk_101 (x_le0 hR3 hR4)) ?_
        refine x_iast C0 hE hH hS (t := 0) rfl d_Mod_walk_104 h (fun w_17 H locs hH hS hz9 h => ?_)
        have hz := hz9.trans hz
        refine x_iload_n C0 hl 2 d_Mod_walk_105 rfl rfl ?_
        refine x_aload_n C0 hl 0 d_Mod_walk_106 rfl rfl ?_
        refine x_getR C0 hE hH (ci := 5) rfl i_Mod 17 (by decide) kw_4_96 d_Mod_walk_107 h (fun v_18 h => ?_)
        refine x_iload C0 hl 3 d_Mod_walk_110 rfl ?_
        refine x_iald C0 hE hH (t := 0) rfl d_Mod_walk_112 h (fun v_19 h => ?_)
        refine lv_iadd C0.1 C0.2.1 d_Mod_walk_113 ?_
        refine x_istore_n (lv' := [(3, .inl (x3 + v_19)), (0, .inr (.inl (some h0))), (2, .inl x2), (4, .inl q_6.2)]) C0 hl d_Mod_walk_114 rfl (by decide) rfl (fun ls hl => ?_)
        refine x_iload_n C0 hl 2 d_Mod_walk_115 rfl rfl ?_
        refine lv_iconst (v := 1) C0.1 C0.2.1 d_Mod_walk_116 (by decide) ?_
        refine x_iload C0 hl 3 d_Mod_walk_117 rfl ?_
        refine lv_ishl C0.1 C0.2.1 d_Mod_walk_119 ?_
        refine lv_ixor C0.1 C0.2.1 d_Mod_walk_120 ?_
        refine x_istore_n (lv' := [(2, .inl (x2 ^^^ ((1 : Int32) <<< (q_6.2 &&& 31)))), (3, .inl (x3 + v_19)), (0, .inr (.inl (some h0))), (4, .inl q_6.2)]) C0 hl d_Mod_walk_121 rfl (by decide) rfl (fun ls hl => ?_)
        refine x_goto C0 4 d_Mod_walk_122 (by decide) ?_
        exact ih _ _ _ _ _ q ls hH hS hz (x_sub hl [2, 0, 1] rfl) h K
      · refine x_iinc (v := 1) (lv' := [(3, .inl (x3 + 1)), (0, .inr (.inl (some h0))), (2, .inl x2), (4, .inl q_6.2)]) C0 hl 2 d_Mod_walk_67 rfl (by decide) (by decide) rfl (fun ls hl => ?_)
        refine x_goto C0 122 d_Mod_walk_70 (by decide) ?_
        refine x_goto C0 4 d_Mod_walk_122 (by decide) ?_
        exact ih _ _ _ _ _ q ls hH hS hz (x_sub hl [1, 2, 0] rfl) h K
def f_Mod_walk (w : Mp) (h0 : Nat) (x1 : Int32) : Option (Unit × Mp) := (f_Mod_walk_L4 h0 100000 x1 (0 : Int32) w).bind fun q_20 => some ((), q_20.2.2.2)
set_option maxHeartbeats 4000000 in
set_option maxRecDepth 100000 in
theorem c_Mod_walk (l : Launch) (G : Gx) (w : Mp) (sz : Nat) (h0 : Nat) (x1 : Int32) (res : Unit × Mp) (hf : f_Mod_walk w h0 x1 = some res) : Met l y_Mod_walk (xws y_Mod_walk b_Mod_walk 5 none) { frames := 2, cells := 0, slots := 0, locals := 49 } (xPc G vwCl xaty w sz [va_rf (some h0), .int x1]) (xQ G vwCl (none) res.2 sz) (0) (0) (xA G) := by
  refine Met.ofW (cc := b_Mod_walk) (maxL := 5) (ret := none) (by decide) rfl ?_
  intro p e s m args below meth c s₁ B hml hv
  obtain ⟨ha, hE, hH, hz⟩ := hv
  have C0 : CallFix p m c b_Mod_walk 5 s args wA R_Mod := ⟨B.exec, B.bytes, hml, findClass_of_methodNamed B.named, fun w hw => atoms_spec (ws := xws y_Mod_walk b_Mod_walk 5 none) B.pre w (List.mem_cons_of_mem _ hw)⟩
  have hr := B.returns
  have hlocks := B.notSynchronized
  obtain ⟨R, hR⟩ : ∃ R, R = (headSpec (xws y_Mod_walk b_Mod_walk 5 none) { frames := 2, cells := 0, slots := 0, locals := 49 }).room := ⟨_, rfl⟩
  have hR1 : 2 ≤ R.frames := by rw [hR]; exact Nat.le_of_ble_eq_true rfl
  have hR2 : 49 ≤ R.locals := by rw [hR]; exact Nat.le_of_ble_eq_true rfl
  have hR3 : 0 ≤ R.cells := by rw [hR]; exact Nat.le_refl _
  have hR4 : 0 ≤ R.slots := by rw [hR]; exact Nat.le_refl _
  rw [← hR]
  obtain ⟨Q, hQ⟩ : ∃ Q, Q = MQ below (xQ G vwCl (none) res.2 sz) args s (0) (0) (xA G) := ⟨_, rfl⟩
  rw [← hQ]
  have hS : xS G s s.heap [] := va_S.rf
  obtain ⟨ls, he, hl⟩ := x_entry m [.inr (.inl (some h0)), .inl x1] 5 (Nat.le_of_ble_eq_true rfl)
  rw [show entryFrame m args 5 = F0 m 0 ls [] by rw [ha]; exact he]
  have hl : xL ls 5 [(0, .inr (.inl (some h0))), (1, .inl x1)] := hl
  have h := hf
  unfold f_Mod_walk at h
  suffices hmain : ∀ (H : Heap) (locs : List Loc), xhd G vwCl w H → xS G s H locs → H.size = sz → (H = s.heap ∧ locs = []) → W p l e R s m args below meth c H locs 0 0 Q (F0 m 0 ls []) from hmain _ _ hH hS hz ⟨rfl, rfl⟩
  clear hH hS hz
  intro H locs hH hS hz hP0
  refine x_iload_n C0 hl 1 d_Mod_walk_0 rfl rfl ?_
  refine x_istore_n (lv' := [(2, .inl x1), (0, .inr (.inl (some h0))), (1, .inl x1)]) C0 hl d_Mod_walk_1 rfl (by decide) rfl (fun ls hl => ?_)
  refine lv_iconst (v := 0) C0.1 C0.2.1 d_Mod_walk_2 (by decide) ?_
  refine x_istore_n (lv' := [(3, .inl (0 : Int32)), (2, .inl x1), (0, .inr (.inl (some h0))), (1, .inl x1)]) C0 hl d_Mod_walk_3 rfl (by decide) rfl (fun ls hl => ?_)
  obtain ⟨q_20, e9, h⟩ := Option.bind_eq_some_iff.mp h
  refine w_Mod_walk_L4 C0 hE hR1 hR2 hR3 hR4 100000 _ _ _ _ _ q_20 ls hH hS hz (x_sub hl [2, 1, 0] rfl) e9 (fun H locs ls hH hS hz hl => ?_)
  cases h
  rw [hQ]
  exact x_vret C0 hr hlocks hH hS hz d_Mod_walk_125
theorem d_Mod_faces_0 : decode b_Mod_faces 0 = .ok (.aload_n 0, 1) := by decide +kernel
theorem d_Mod_faces_1 : decode b_Mod_faces 1 = .ok (.iload_n 1, 1) := by decide +kernel
theorem d_Mod_faces_2 : decode b_Mod_faces 2 = .ok (.iconst 0, 1) := by decide +kernel
theorem d_Mod_faces_3 : decode b_Mod_faces 3 = .ok (.iconst 3, 1) := by decide +kernel
theorem d_Mod_faces_4 : decode b_Mod_faces 4 = .ok (.invokestatic 66, 3) := by decide +kernel
theorem d_Mod_faces_7 : decode b_Mod_faces 7 = .ok (.ifCond .eq 7, 3) := by decide +kernel
theorem d_Mod_faces_10 : decode b_Mod_faces 10 = .ok (.iconst 0, 1) := by decide +kernel
theorem d_Mod_faces_11 : decode b_Mod_faces 11 = .ok (.goto 4, 3) := by decide +kernel
theorem d_Mod_faces_14 : decode b_Mod_faces 14 = .ok (.iconst 1, 1) := by decide +kernel
theorem d_Mod_faces_15 : decode b_Mod_faces 15 = .ok (.putfield 59, 3) := by decide +kernel
theorem d_Mod_faces_18 : decode b_Mod_faces 18 = .ok (.aload_n 0, 1) := by decide +kernel
theorem d_Mod_faces_19 : decode b_Mod_faces 19 = .ok (.getfield 59, 3) := by decide +kernel
theorem d_Mod_faces_22 : decode b_Mod_faces 22 = .ok (.ifCond .le 5, 3) := by decide +kernel
theorem d_Mod_faces_25 : decode b_Mod_faces 25 = .ok (.iconst 0, 1) := by decide +kernel
theorem d_Mod_faces_26 : decode b_Mod_faces 26 = .ok (.ireturn, 1) := by decide +kernel
theorem d_Mod_faces_27 : decode b_Mod_faces 27 = .ok (.aload_n 0, 1) := by decide +kernel
theorem d_Mod_faces_28 : decode b_Mod_faces 28 = .ok (.iload_n 1, 1) := by decide +kernel
theorem d_Mod_faces_29 : decode b_Mod_faces 29 = .ok (.invokevirtual 77, 3) := by decide +kernel
theorem d_Mod_faces_32 : decode b_Mod_faces 32 = .ok (.iconst 1, 1) := by decide +kernel
theorem d_Mod_faces_33 : decode b_Mod_faces 33 = .ok (.aload_n 0, 1) := by decide +kernel
theorem d_Mod_faces_34 : decode b_Mod_faces 34 = .ok (.getfield 142, 3) := by decide +kernel
theorem d_Mod_faces_37 : decode b_Mod_faces 37 = .ok (.ishl, 1) := by decide +kernel
theorem d_Mod_faces_38 : decode b_Mod_faces 38 = .ok (.istore_n 2, 1) := by decide +kernel
theorem d_Mod_faces_39 : decode b_Mod_faces 39 = .ok (.iconst 0, 1) := by decide +kernel
theorem d_Mod_faces_40 : decode b_Mod_faces 40 = .ok (.istore_n 3, 1) := by decide +kernel
theorem d_Mod_faces_41 : decode b_Mod_faces 41 = .ok (.iload_n 3, 1) := by decide +kernel
theorem d_Mod_faces_42 : decode b_Mod_faces 42 = .ok (.iload_n 2, 1) := by decide +kernel
theorem d_Mod_faces_43 : decode b_Mod_faces 43 = .ok (.if_icmp .ge 34, 3) := by decide +kernel
theorem d_Mod_faces_46 : decode b_Mod_faces 46 = .ok (.aload_n 0, 1) := by decide +kernel
theorem d_Mod_faces_47 : decode b_Mod_faces 47 = .ok (.getfield 53, 3) := by decide +kernel
theorem d_Mod_faces_50 : decode b_Mod_faces 50 = .ok (.sipush 256, 3) := by decide +kernel
theorem d_Mod_faces_53 : decode b_Mod_faces 53 = .ok (.aload_n 0, 1) := by decide +kernel
theorem d_Mod_faces_54 : decode b_Mod_faces 54 = .ok (.getfield 74, 3) := by decide +kernel
theorem d_Mod_faces_57 : decode b_Mod_faces 57 = .ok (.imul, 1) := by decide +kernel
theorem d_Mod_faces_58 : decode b_Mod_faces 58 = .ok (.iload_n 3, 1) := by decide +kernel
theorem d_Mod_faces_59 : decode b_Mod_faces 59 = .ok (.iadd, 1) := by decide +kernel
theorem d_Mod_faces_60 : decode b_Mod_faces 60 = .ok (.iload_n 3, 1) := by decide +kernel
theorem d_Mod_faces_61 : decode b_Mod_faces 61 = .ok (.ifCond .ne 7, 3) := by decide +kernel
theorem d_Mod_faces_64 : decode b_Mod_faces 64 = .ok (.iconst 0, 1) := by decide +kernel
theorem d_Mod_faces_65 : decode b_Mod_faces 65 = .ok (.goto 5, 3) := by decide +kernel
theorem d_Mod_faces_68 : decode b_Mod_faces 68 = .ok (.ldc 148, 2) := by decide +kernel
theorem d_Mod_faces_70 : decode b_Mod_faces 70 = .ok (.iastore, 1) := by decide +kernel
theorem d_Mod_faces_71 : decode b_Mod_faces 71 = .ok (.iinc 3 1, 3) := by decide +kernel
theorem d_Mod_faces_74 : decode b_Mod_faces 74 = .ok (.goto (-33), 3) := by decide +kernel
theorem d_Mod_faces_77 : decode b_Mod_faces 77 = .ok (.aload_n 0, 1) := by decide +kernel
theorem d_Mod_faces_78 : decode b_Mod_faces 78 = .ok (.getfield 74, 3) := by decide +kernel
theorem d_Mod_faces_81 : decode b_Mod_faces 81 = .ok (.iconst 1, 1) := by decide +kernel
theorem d_Mod_faces_82 : decode b_Mod_faces 82 = .ok (.isub, 1) := by decide +kernel
theorem d_Mod_faces_83 : decode b_Mod_faces 83 = .ok (.istore_n 3, 1) := by decide +kernel
theorem d_Mod_faces_84 : decode b_Mod_faces 84 = .ok (.iload_n 3, 1) := by decide +kernel
theorem d_Mod_faces_85 : decode b_Mod_faces 85 = .ok (.ifCond .lt 112, 3) := by decide +kernel
theorem d_Mod_faces_88 : decode b_Mod_faces 88 = .ok (.iconst 0, 1) := by decide +kernel
theorem d_Mod_faces_89 : decode b_Mod_faces 89 = .ok (.istore 4, 2) := by decide +kernel
theorem d_Mod_faces_91 : decode b_Mod_faces 91 = .ok (.iload 4, 2) := by decide +kernel
theorem d_Mod_faces_93 : decode b_Mod_faces 93 = .ok (.iload_n 2, 1) := by decide +kernel
theorem d_Mod_faces_94 : decode b_Mod_faces 94 = .ok (.if_icmp .ge 97, 3) := by decide +kernel
theorem d_Mod_faces_97 : decode b_Mod_faces 97 = .ok (.aload_n 0, 1) := by decide +kernel
theorem d_Mod_faces_98 : decode b_Mod_faces 98 = .ok (.getfield 53, 3) := by decide +kernel
theorem d_Mod_faces_101 : decode b_Mod_faces 101 = .ok (.sipush 256, 3) := by decide +kernel
theorem d_Mod_faces_104 : decode b_Mod_faces 104 = .ok (.iload_n 3, 1) := by decide +kernel
theorem d_Mod_faces_105 : decode b_Mod_faces 105 = .ok (.iconst 1, 1) := by decide +kernel
theorem d_Mod_faces_106 : decode b_Mod_faces 106 = .ok (.iadd, 1) := by decide +kernel
theorem d_Mod_faces_107 : decode b_Mod_faces 107 = .ok (.imul, 1) := by decide +kernel
theorem d_Mod_faces_108 : decode b_Mod_faces 108 = .ok (.iload 4, 2) := by decide +kernel
theorem d_Mod_faces_110 : decode b_Mod_faces 110 = .ok (.iadd, 1) := by decide +kernel
theorem d_Mod_faces_111 : decode b_Mod_faces 111 = .ok (.iaload, 1) := by decide +kernel
theorem d_Mod_faces_112 : decode b_Mod_faces 112 = .ok (.istore 5, 2) := by decide +kernel
theorem d_Mod_faces_114 : decode b_Mod_faces 114 = .ok (.iconst 0, 1) := by decide +kernel
theorem d_Mod_faces_115 : decode b_Mod_faces 115 = .ok (.istore 6, 2) := by decide +kernel
theorem d_Mod_faces_117 : decode b_Mod_faces 117 = .ok (.iload 6, 2) := by decide +kernel
theorem d_Mod_faces_119 : decode b_Mod_faces 119 = .ok (.aload_n 0, 1) := by decide +kernel
theorem d_Mod_faces_120 : decode b_Mod_faces 120 = .ok (.getfield 142, 3) := by decide +kernel
theorem d_Mod_faces_123 : decode b_Mod_faces 123 = .ok (.if_icmp .ge 47, 3) := by decide +kernel
theorem d_Mod_faces_126 : decode b_Mod_faces 126 = .ok (.iload 4, 2) := by decide +kernel
theorem d_Mod_faces_128 : decode b_Mod_faces 128 = .ok (.iload 6, 2) := by decide +kernel
theorem d_Mod_faces_130 : decode b_Mod_faces 130 = .ok (.ishr, 1) := by decide +kernel
theorem d_Mod_faces_131 : decode b_Mod_faces 131 = .ok (.iconst 1, 1) := by decide +kernel
theorem d_Mod_faces_132 : decode b_Mod_faces 132 = .ok (.iand, 1) := by decide +kernel
theorem d_Mod_faces_133 : decode b_Mod_faces 133 = .ok (.iconst 1, 1) := by decide +kernel
theorem d_Mod_faces_134 : decode b_Mod_faces 134 = .ok (.if_icmp .ne 30, 3) := by decide +kernel
theorem d_Mod_faces_137 : decode b_Mod_faces 137 = .ok (.aload_n 0, 1) := by decide +kernel
theorem d_Mod_faces_138 : decode b_Mod_faces 138 = .ok (.iload_n 3, 1) := by decide +kernel
theorem d_Mod_faces_139 : decode b_Mod_faces 139 = .ok (.iload 4, 2) := by decide +kernel
theorem d_Mod_faces_141 : decode b_Mod_faces 141 = .ok (.iload 6, 2) := by decide +kernel
theorem d_Mod_faces_143 : decode b_Mod_faces 143 = .ok (.invokevirtual 152, 3) := by decide +kernel
theorem d_Mod_faces_146 : decode b_Mod_faces 146 = .ok (.istore 7, 2) := by decide +kernel
theorem d_Mod_faces_148 : decode b_Mod_faces 148 = .ok (.iload 7, 2) := by decide +kernel
theorem d_Mod_faces_150 : decode b_Mod_faces 150 = .ok (.iload 5, 2) := by decide +kernel
theorem d_Mod_faces_152 : decode b_Mod_faces 152 = .ok (.if_icmp .ge 8, 3) := by decide +kernel
theorem d_Mod_faces_155 : decode b_Mod_faces 155 = .ok (.iload 7, 2) := by decide +kernel
theorem d_Mod_faces_157 : decode b_Mod_faces 157 = .ok (.goto 5, 3) := by decide +kernel
theorem d_Mod_faces_160 : decode b_Mod_faces 160 = .ok (.iload 5, 2) := by decide +kernel
theorem d_Mod_faces_162 : decode b_Mod_faces 162 = .ok (.istore 5, 2) := by decide +kernel
theorem d_Mod_faces_164 : decode b_Mod_faces 164 = .ok (.iinc 6 1, 3) := by decide +kernel
theorem d_Mod_faces_167 : decode b_Mod_faces 167 = .ok (.goto (-50), 3) := by decide +kernel
theorem d_Mod_faces_170 : decode b_Mod_faces 170 = .ok (.aload_n 0, 1) := by decide +kernel
theorem d_Mod_faces_171 : decode b_Mod_faces 171 = .ok (.getfield 53, 3) := by decide +kernel
theorem d_Mod_faces_174 : decode b_Mod_faces 174 = .ok (.sipush 256, 3) := by decide +kernel
theorem d_Mod_faces_177 : decode b_Mod_faces 177 = .ok (.iload_n 3, 1) := by decide +kernel
theorem d_Mod_faces_178 : decode b_Mod_faces 178 = .ok (.imul, 1) := by decide +kernel
theorem d_Mod_faces_179 : decode b_Mod_faces 179 = .ok (.iload 4, 2) := by decide +kernel
theorem d_Mod_faces_181 : decode b_Mod_faces 181 = .ok (.iadd, 1) := by decide +kernel
theorem d_Mod_faces_182 : decode b_Mod_faces 182 = .ok (.iload 5, 2) := by decide +kernel
theorem d_Mod_faces_184 : decode b_Mod_faces 184 = .ok (.iastore, 1) := by decide +kernel
theorem d_Mod_faces_185 : decode b_Mod_faces 185 = .ok (.iinc 4 1, 3) := by decide +kernel
theorem d_Mod_faces_188 : decode b_Mod_faces 188 = .ok (.goto (-97), 3) := by decide +kernel
theorem d_Mod_faces_191 : decode b_Mod_faces 191 = .ok (.iinc 3 (-1), 3) := by decide +kernel
theorem d_Mod_faces_194 : decode b_Mod_faces 194 = .ok (.goto (-110), 3) := by decide +kernel
theorem d_Mod_faces_197 : decode b_Mod_faces 197 = .ok (.aload_n 0, 1) := by decide +kernel
theorem d_Mod_faces_198 : decode b_Mod_faces 198 = .ok (.getfield 53, 3) := by decide +kernel
theorem d_Mod_faces_201 : decode b_Mod_faces 201 = .ok (.iload_n 2, 1) := by decide +kernel
theorem d_Mod_faces_202 : decode b_Mod_faces 202 = .ok (.iconst 1, 1) := by decide +kernel
theorem d_Mod_faces_203 : decode b_Mod_faces 203 = .ok (.isub, 1) := by decide +kernel
theorem d_Mod_faces_204 : decode b_Mod_faces 204 = .ok (.iaload, 1) := by decide +kernel
theorem d_Mod_faces_205 : decode b_Mod_faces 205 = .ok (.ldc 148, 2) := by decide +kernel
theorem d_Mod_faces_207 : decode b_Mod_faces 207 = .ok (.if_icmp .lt 5, 3) := by decide +kernel
theorem d_Mod_faces_210 : decode b_Mod_faces 210 = .ok (.iconst (-1), 1) := by decide +kernel
theorem d_Mod_faces_211 : decode b_Mod_faces 211 = .ok (.ireturn, 1) := by decide +kernel
theorem d_Mod_faces_212 : decode b_Mod_faces 212 = .ok (.aload_n 0, 1) := by decide +kernel
theorem d_Mod_faces_213 : decode b_Mod_faces 213 = .ok (.iload_n 2, 1) := by decide +kernel
theorem d_Mod_faces_214 : decode b_Mod_faces 214 = .ok (.iconst 1, 1) := by decide +kernel
theorem d_Mod_faces_215 : decode b_Mod_faces 215 = .ok (.isub, 1) := by decide +kernel
theorem d_Mod_faces_216 : decode b_Mod_faces 216 = .ok (.invokevirtual 155, 3) := by decide +kernel
theorem d_Mod_faces_219 : decode b_Mod_faces 219 = .ok (.aload_n 0, 1) := by decide +kernel
theorem d_Mod_faces_220 : decode b_Mod_faces 220 = .ok (.iconst 1, 1) := by decide +kernel
theorem d_Mod_faces_221 : decode b_Mod_faces 221 = .ok (.putfield 70, 3) := by decide +kernel
theorem d_Mod_faces_224 : decode b_Mod_faces 224 = .ok (.aload_n 0, 1) := by decide +kernel
theorem d_Mod_faces_225 : decode b_Mod_faces 225 = .ok (.getfield 53, 3) := by decide +kernel
theorem d_Mod_faces_228 : decode b_Mod_faces 228 = .ok (.iload_n 2, 1) := by decide +kernel
theorem d_Mod_faces_229 : decode b_Mod_faces 229 = .ok (.iconst 1, 1) := by decide +kernel
theorem d_Mod_faces_230 : decode b_Mod_faces 230 = .ok (.isub, 1) := by decide +kernel
theorem d_Mod_faces_231 : decode b_Mod_faces 231 = .ok (.iaload, 1) := by decide +kernel
theorem d_Mod_faces_232 : decode b_Mod_faces 232 = .ok (.ireturn, 1) := by decide +kernel
def f_Mod_faces_L41 (h0 : Nat) (x2 : Int32) : Nat → Int32 → Mp → Option (Nat × Int32 × Mp)
  | 0, _, _ => none
  | n + 1, x3, w => if x2 ≤ x3 then (some (0, x3, w)) else ((gR w (some h0) 5 20).bind fun v_9 => (gI w (some h0) 5 18).bind fun v_10 => if x3 = 0 then ((sI w v_9 0 (((256 : Int32) * v_10) + x3) (0 : Int32)).bind fun w_12 => f_Mod_faces_L41 h0 x2 n (x3 + 1) w_12) else ((sI w v_9 0 (((256 : Int32) * v_10) + x3) (1000000 : Int32)).bind fun w_11 => f_Mod_faces_L41 h0 x2 n (x3 + 1) w_11))
set_option maxHeartbeats 4000000 in
set_option maxRecDepth 100000 in
theorem w_Mod_faces_L41 {p : Program} {l : Launch} {e : Env} {R : Room} {s : State} {m : MethodId} {args : Array Value} {below : List Frame} {meth : Method} {c : Code} {Q : State → Prop} {cells slots sz : Nat} {G : Gx} {h0 : Nat} {x2 : Int32} (C0 : CallFix p m c b_Mod_faces 8 s args wA R_Mod) (hE : xE G vwCl xaty s) (hR1 : 3 ≤ R.frames) (hR2 : 73 ≤ R.locals) (hR3 : cells ≤ R.cells) (hR4 : slots ≤ R.slots) : ∀ (n : Nat) (x3 : Int32) (w : Mp) (H : Heap) (locs : List Loc) (q : Nat × Int32 × Mp) (ls : Array Slot), xhd G vwCl w H → xS G s H locs → H.size = sz → xL ls 8 [(0, .inr (.inl (some h0))), (2, .inl x2), (3, .inl x3)] → f_Mod_faces_L41 h0 x2 n x3 w = some q → (∀ (H : Heap) (locs : List Loc) (ls : Array Slot), xhd G vwCl q.2.2 H → xS G s H locs → H.size = sz → xL ls 8 [(0, .inr (.inl (some h0))), (2, .inl x2), (3, .inl q.2.1)] → W p l e R s m args below meth c H locs cells slots Q (F0 m 77 ls [])) → W p l e R s m args below meth c H locs cells slots Q (F0 m 41 ls []) := by
  intro n
  induction n with
  | zero => intro _ _ _ _ q ls hH hS hz hl h; cases h
  | succ n ih =>
    intro x3 w H locs q ls hH hS hz hl h K
    rw [f_Mod_faces_L41] at h
    refine x_iload_n C0 hl 2 d_Mod_faces_41 rfl rfl ?_
    refine x_iload_n C0 hl 1 d_Mod_faces_42 rfl rfl ?_
    refine x_icmp_ge C0 77 d_Mod_faces_43 (by decide) h (fun h => ?_) (fun h => ?_)
    · cases h
      exact K _ _ ls hH hS hz (x_sub hl [0, 1, 2] rfl)
    · refine x_aload_n C0 hl 0 d_Mod_faces_46 rfl rfl ?_
      refine x_getR C0 hE hH (ci := 5) rfl i_Mod 20 (by decide) kw_4_99 d_Mod_faces_47 h (fun v_9 h => ?_)
      refine lv_sipush (v := 256) C0.1 C0.2.1 d_Mod_faces_50 (by decide) ?_
      refine x_aload_n C0 hl 0 d_Mod_faces_53 rfl rfl ?_
      refine x_getI C0 hE hH (ci := 5) rfl i_Mod 18 (by decide) kw_4_97 d_Mod_faces_54 h (fun v_10 h => ?_)
      refine lv_imul C0.1 C0.2.1 d_Mod_faces_57 ?_
      refine x_iload_n C0 hl 2 d_Mod_faces_58 rfl rfl ?_
      refine lv_iadd C0.1 C0.2.1 d_Mod_faces_59 ?_
      refine x_iload_n C0 hl 2 d_Mod_faces_60 rfl rfl ?_
      refine x_if_ne C0 68 d_Mod_faces_61 (by decide) h (fun h => ?_) (fun h => ?_)
      · refine lv_ldc (v := 1000000) C0.1 C0.2.1 C0.2.2.2.1 (C0.2.2.2.2 _ kw_5_51) d_Mod_faces_68 ?_
        refine x_iast C0 hE hH hS (t := 0) rfl d_Mod_faces_70 h (fun w_11 H locs hH hS hz9 h => ?_)
        have hz := hz9.trans hz
        refine x_iinc (v := 1) (lv' := [(3, .inl (x3 + 1)), (0, .inr (.inl (some h0))), (2, .inl x2)]) C0 hl 2 d_Mod_faces_71 rfl (by decide) (by decide) rfl (fun ls hl => ?_)
        refine x_goto C0 41 d_Mod_faces_74 (by decide) ?_
        exact ih _ _ _ _ q ls hH hS hz (x_sub hl [1, 2, 0] rfl) h K
      · refine lv_iconst (v := 0) C0.1 C0.2.1 d_Mod_faces_64 (by decide) ?_
        refine x_goto C0 70 d_Mod_faces_65 (by decide) ?_
        refine x_iast C0 hE hH hS (t := 0) rfl d_Mod_faces_70 h (fun w_12 H locs hH hS hz9 h => ?_)
        have hz := hz9.trans hz
        refine x_iinc (v := 1) (lv' := [(3, .inl (x3 + 1)), (0, .inr (.inl (some h0))), (2, .inl x2)]) C0 hl 2 d_Mod_faces_71 rfl (by decide) (by decide) rfl (fun ls hl => ?_)
        refine x_goto C0 41 d_Mod_faces_74 (by decide) ?_
        exact ih _ _ _ _ q ls hH hS hz (x_sub hl [1, 2, 0] rfl) h K
def f_Mod_faces_L117 (w : Mp) (h0 : Nat) (x2 : Int32) (x3 : Int32) (x4 : Int32) : Nat → Int32 → Int32 → Option (Nat × Int32 × Int32)
  | 0, _, _ => none
  | n + 1, x5, x6 => (gI w (some h0) 5 13).bind fun v_17 => if v_17 ≤ x6 then (some (0, x5, x6)) else (if ((x4 >>> (x6 &&& 31)) &&& (1 : Int32)) = (1 : Int32) then ((xo w (some h0) 5).bind fun b_19 => (f_Mod_lossWith w b_19 x3 x4 x6).bind fun q_18 => if x5 ≤ q_18 then (f_Mod_faces_L117 w h0 x2 x3 x4 n x5 (x6 + 1)) else (f_Mod_faces_L117 w h0 x2 x3 x4 n q_18 (x6 + 1))) else (f_Mod_faces_L117 w h0 x2 x3 x4 n x5 (x6 + 1)))
set_option maxHeartbeats 4000000 in
set_option maxRecDepth 100000 in
theorem w_Mod_faces_L117 {p : Program} {l : Launch} {e : Env} {R : Room} {s : State} {m : MethodId} {args : Array Value} {below : List Frame} {meth : Method} {c : Code} {Q : State → Prop} {cells slots sz : Nat} {G : Gx} {h0 : Nat} {x2 : Int32} {x3 : Int32} {x4 : Int32} (C0 : CallFix p m c b_Mod_faces 8 s args wA R_Mod) (hE : xE G vwCl xaty s) (hR1 : 3 ≤ R.frames) (hR2 : 73 ≤ R.locals) (hR3 : cells ≤ R.cells) (hR4 : slots ≤ R.slots) {w : Mp} {H : Heap} {locs : List Loc} (hH : xhd G vwCl w H) (hS : xS G s H locs) (hz : H.size = sz) : ∀ (n : Nat) (x5 : Int32) (x6 : Int32) (q : Nat × Int32 × Int32) (ls : Array Slot), xL ls 8 [(0, .inr (.inl (some h0))), (2, .inl x2), (3, .inl x3), (4, .inl x4), (5, .inl x5), (6, .inl x6)] → f_Mod_faces_L117 w h0 x2 x3 x4 n x5 x6 = some q → (∀ (ls : Array Slot), xL ls 8 [(0, .inr (.inl (some h0))), (2, .inl x2), (3, .inl x3), (4, .inl x4), (5, .inl q.2.1), (6, .inl q.2.2)] → W p l e R s m args below meth c H locs cells slots Q (F0 m 170 ls [])) → W p l e R s m args below meth c H locs cells slots Q (F0 m 117 ls []) := by
  intro n
  induction n with
  | zero => intro _ _ q ls hl h; cases h
  | succ n ih =>
    intro x5 x6 q ls hl h K
    rw [f_Mod_faces_L117] at h
    refine x_iload C0 hl 5 d_Mod_faces_117 rfl ?_
    refine x_aload_n C0 hl 0 d_Mod_faces_119 rfl rfl ?_
    refine x_getI C0 hE hH (ci := 5) rfl i_Mod 13 (by decide) kw_4_92 d_Mod_faces_120 h (fun v_17 h => ?_)
    refine x_icmp_ge C0 170 d_Mod_faces_123 (by decide) h (fun h => ?_) (fun h => ?_)
    · cases h
      exact K ls (x_sub hl [0, 1, 2, 3, 4, 5] rfl)
    · refine x_iload C0 hl 3 d_Mod_faces_126 rfl ?_
      refine x_iload C0 hl 5 d_Mod_faces_128 rfl ?_
      refine lv_ishr C0.1 C0.2.1 d_Mod_faces_130 ?_
      refine lv_iconst (v := 1) C0.1 C0.2.1 d_Mod_faces_131 (by decide) ?_
      refine lv_iand C0.1 C0.2.1 d_Mod_faces_132 ?_
      refine lv_iconst (v := 1) C0.1 C0.2.1 d_Mod_faces_133 (by decide) ?_
      refine x_icmp_ne C0 164 d_Mod_faces_134 (by decide) h (fun h => ?_) (fun h => ?_)
      · refine x_iinc (v := 1) (lv' := [(6, .inl (x6 + 1)), (0, .inr (.inl (some h0))), (2, .inl x2), (3, .inl x3), (4, .inl x4), (5, .inl x5)]) C0 hl 5 d_Mod_faces_164 rfl (by decide) (by decide) rfl (fun ls hl => ?_)
        refine x_goto C0 117 d_Mod_faces_167 (by decide) ?_
        exact ih _ _ q ls (x_sub hl [1, 2, 3, 4, 5, 0] rfl) h K
      · refine x_aload_n C0 hl 0 d_Mod_faces_137 rfl rfl ?_
        refine x_iload_n C0 hl 2 d_Mod_faces_138 rfl rfl ?_
        refine x_iload C0 hl 3 d_Mod_faces_139 rfl ?_
        refine x_iload C0 hl 5 d_Mod_faces_141 rfl ?_
        obtain ⟨b_19, e9, h⟩ := Option.bind_eq_some_iff.mp h
        obtain ⟨e8, fs9, hb9⟩ := xo_inv e9
        obtain ⟨q_18, e9, h⟩ := Option.bind_eq_some_iff.mp h
        refine x_callP (va_runV (As := [.int x3, .int x4, .int x6]) (rest := []) C0 (c_Mod_lossWith l G w _ b_19 x3 x4 x6 q_18 e9) (x_cwV 3 C0 kw_5_52 kw_5_55 kw_1_3 kw_5_54 kw_0_33 (by decide +kernel) (x_rm hR1 hR2 (Nat.le_of_ble_eq_true rfl) (Nat.le_of_ble_eq_true rfl))) (x_preV hE hH hS (ci := 5) rfl hb9) rfl rfl hl.1 (by rw [e8]; rfl) (lv_room (by first | exact Nat.le_of_ble_eq_true rfl | simp only [List.map_cons, List.map_nil, List.sum_cons, List.sum_nil, va_rf_cat, x_catI, x_catL, x_catA] <;> decide)) d_Mod_faces_143 (x_le0 hR3 hR4)) ?_
        refine x_istore (lv' := [(7, .inl q_18), (0, .inr (.inl (some h0))), (2, .inl x2), (3, .inl x3), (4, .inl x4), (5, .inl x5), (6, .inl x6)]) C0 hl d_Mod_faces_146 (by decide) rfl (fun ls hl => ?_)
        refine x_iload C0 hl 0 d_Mod_faces_148 rfl ?_
        refine x_iload C0 hl 5 d_Mod_faces_150 rfl ?_
        refine x_icmp_ge C0 160 d_Mod_faces_152 (by decide) h (fun h => ?_) (fun h => ?_)
        · refine x_iload C0 hl 5 d_Mod_faces_160 rfl ?_
          refine x_istore (lv' := [(5, .inl x5), (7, .inl q_18), (0, .inr (.inl (some h0))), (2, .inl x2), (3, .inl x3), (4, .inl x4), (6, .inl x6)]) C0 hl d_Mod_faces_162 (by decide) rfl (fun ls hl => ?_)
          refine x_iinc (v := 1) (lv' := [(6, .inl (x6 + 1)), (5, .inl x5), (7, .inl q_18), (0, .inr (.inl (some h0))), (2, .inl x2), (3, .inl x3), (4, .inl x4)]) C0 hl 6 d_Mod_faces_164 rfl (by decide) (by decide) rfl (fun ls hl => ?_)
          refine x_goto C0 117 d_Mod_faces_167 (by decide) ?_
          exact ih _ _ q ls (x_sub hl [3, 4, 5, 6, 1, 0] rfl) h K
        · refine x_iload C0 hl 0 d_Mod_faces_155 rfl ?_
          refine x_goto C0 162 d_Mod_faces_157 (by decide) ?_
          refine x_istore (lv' := [(5, .inl q_18), (7, .inl q_18), (0, .inr (.inl (some h0))), (2, .inl x2), (3, .inl x3), (4, .inl x4), (6, .inl x6)]) C0 hl d_Mod_faces_162 (by decide) rfl (fun ls hl => ?_)
          refine x_iinc (v := 1) (lv' := [(6, .inl (x6 + 1)), (5, .inl q_18), (7, .inl q_18), (0, .inr (.inl (some h0))), (2, .inl x2), (3, .inl x3), (4, .inl x4)]) C0 hl 6 d_Mod_faces_164 rfl (by decide) (by decide) rfl (fun ls hl => ?_)
          refine x_goto C0 117 d_Mod_faces_167 (by decide) ?_
          exact ih _ _ q ls (x_sub hl [3, 4, 5, 6, 1, 0] rfl) h K
def f_Mod_faces_L91 (h0 : Nat) (x2 : Int32) (x3 : Int32) : Nat → Int32 → Mp → Option (Nat × Int32 × Mp)
  | 0, _, _ => none
  | n + 1, x4, w => if x2 ≤ x4 then (some (0, x4, w)) else ((gR w (some h0) 5 20).bind fun v_15 => (aI w v_15 0 (((256 : Int32) * (x3 + (1 : Int32))) + x4)).bind fun v_16 => (f_Mod_faces_L117 w h0 x2 x3 x4 100000 v_16 (0 : Int32)).bind fun q_20 => (gR w (some h0) 5 20).bind fun v_21 => (sI w v_21 0 (((256 : Int32) * x3) + x4) q_20.2.1).bind fun w_22 => f_Mod_faces_L91 h0 x2 x3 n (x4 + 1) w_22)
set_option maxHeartbeats 4000000 in
set_option maxRecDepth 100000 in
theorem w_Mod_faces_L91 {p : Program} {l : Launch} {e : Env} {R : Room} {s : State} {m : MethodId} {args : Array Value} {below : List Frame} {meth : Method} {c : Code} {Q : State → Prop} {cells slots sz : Nat} {G : Gx} {h0 : Nat} {x2 : Int32} {x3 : Int32} (C0 : CallFix p m c b_Mod_faces 8 s args wA R_Mod) (hE : xE G vwCl xaty s) (hR1 : 3 ≤ R.frames) (hR2 : 73 ≤ R.locals) (hR3 : cells ≤ R.cells) (hR4 : slots ≤ R.slots) : ∀ (n : Nat) (x4 : Int32) (w : Mp) (H : Heap) (locs : List Loc) (q : Nat × Int32 × Mp) (ls : Array Slot), xhd G vwCl w H → xS G s H locs → H.size = sz → xL ls 8 [(0, .inr (.inl (some h0))), (2, .inl x2), (3, .inl x3), (4, .inl x4)] → f_Mod_faces_L91 h0 x2 x3 n x4 w = some q → (∀ (H : Heap) (locs : List Loc) (ls : Array Slot), xhd G vwCl q.2.2 H → xS G s H locs → H.size = sz → xL ls 8 [(0, .inr (.inl (some h0))), (2, .inl x2), (3, .inl x3), (4, .inl q.2.1)] → W p l e R s m args below meth c H locs cells slots Q (F0 m 191 ls [])) → W p l e R s m args below meth c H locs cells slots Q (F0 m 91 ls []) := by
  intro n
  induction n with
  | zero => intro _ _ _ _ q ls hH hS hz hl h; cases h
  | succ n ih =>
    intro x4 w H locs q ls hH hS hz hl h K
    rw [f_Mod_faces_L91] at h
    refine x_iload C0 hl 3 d_Mod_faces_91 rfl ?_
    refine x_iload_n C0 hl 1 d_Mod_faces_93 rfl rfl ?_
    refine x_icmp_ge C0 191 d_Mod_faces_94 (by decide) h (fun h => ?_) (fun h => ?_)
    · cases h
      exact K _ _ ls hH hS hz (x_sub hl [0, 1, 2, 3] rfl)
    · refine x_aload_n C0 hl 0 d_Mod_faces_97 rfl rfl ?_
      refine x_getR C0 hE hH (ci := 5) rfl i_Mod 20 (by decide) kw_4_99 d_Mod_faces_98 h (fun v_15 h => ?_)
      refine lv_sipush (v := 256) C0.1 C0.2.1 d_Mod_faces_101 (by decide) ?_
      refine x_iload_n C0 hl 2 d_Mod_faces_104 rfl rfl ?_
      refine lv_iconst (v := 1) C0.1 C0.2.1 d_Mod_faces_105 (by decide) ?_
      refine lv_iadd C0.1 C0.2.1 d_Mod_faces_106 ?_
      refine lv_imul C0.1 C0.2.1 d_Mod_faces_107 ?_
      refine x_iload C0 hl 3 d_Mod_faces_108 rfl ?_
      refine lv_iadd C0.1 C0.2.1 d_Mod_faces_110 ?_
      refine x_iald C0 hE hH (t := 0) rfl d_Mod_faces_111 h (fun v_16 h => ?_)
      refine x_istore (lv' := [(5, .inl v_16), (0, .inr (.inl (some h0))), (2, .inl x2), (3, .inl x3), (4, .inl x4)]) C0 hl d_Mod_faces_112 (by decide) rfl (fun ls hl => ?_)
      refine lv_iconst (v := 0) C0.1 C0.2.1 d_Mod_faces_114 (by decide) ?_
      refine x_istore (lv' := [(6, .inl (0 : Int32)), (5, .inl v_16), (0, .inr (.inl (some h0))), (2, .inl x2), (3, .inl x3), (4, .inl x4)]) C0 hl d_Mod_faces_115 (by decide) rfl (fun ls hl => ?_)
      obtain ⟨q_20, e9, h⟩ := Option.bind_eq_some_iff.mp h
      refine w_Mod_faces_L117 C0 hE hR1 hR2 hR3 hR4 hH hS hz 100000 _ _ q_20 ls (x_sub hl [2, 3, 4, 5, 1, 0] rfl) e9 (fun ls hl => ?_)
      refine x_aload_n C0 hl 0 d_Mod_faces_170 rfl rfl ?_
      refine x_getR C0 hE hH (ci := 5) rfl i_Mod 20 (by decide) kw_4_99 d_Mod_faces_171 h (fun v_21 h => ?_)
      refine lv_sipush (v := 256) C0.1 C0.2.1 d_Mod_faces_174 (by decide) ?_
      refine x_iload_n C0 hl 2 d_Mod_faces_177 rfl rfl ?_
      refine lv_imul C0.1 C0.2.1 d_Mod_faces_178 ?_
      refine x_iload C0 hl 3 d_Mod_faces_179 rfl ?_
      refine lv_iadd C0.1 C0.2.1 d_Mod_faces_181 ?_
      refine x_iload C0 hl 4 d_Mod_faces_182 rfl ?_
      refine x_iast C0 hE hH hS (t := 0) rfl d_Mod_faces_184 h (fun w_22 H locs hH hS hz9 h => ?_)
      have hz := hz9.trans hz
      refine x_iinc (v := 1) (lv' := [(4, .inl (x4 + 1)), (0, .inr (.inl (some h0))), (2, .inl x2), (3, .inl x3), (5, .inl q_20.2.1), (6, .inl q_20.2.2)]) C0 hl 3 d_Mod_faces_185 rfl (by decide) (by decide) rfl (fun ls hl => ?_)
      refine x_goto C0 91 d_Mod_faces_188 (by decide) ?_
      exact ih _ _ _ _ q ls hH hS hz (x_sub hl [1, 2, 3, 0] rfl) h K
def f_Mod_faces_L84 (h0 : Nat) (x2 : Int32) : Nat → Int32 → Mp → Option (Nat × Int32 × Mp)
  | 0, _, _ => none
  | n + 1, x3, w => if x3 < 0 then (some (0, x3, w)) else ((f_Mod_faces_L91 h0 x2 x3 100000 (0 : Int32) w).bind fun q_23 => f_Mod_faces_L84 h0 x2 n (x3 + (-1)) q_23.2.2)
set_option maxHeartbeats 4000000 in
set_option maxRecDepth 100000 in
theorem w_Mod_faces_L84 {p : Program} {l : Launch} {e : Env} {R : Room} {s : State} {m : MethodId} {args : Array Value} {below : List Frame} {meth : Method} {c : Code} {Q : State → Prop} {cells slots sz : Nat} {G : Gx} {h0 : Nat} {x2 : Int32} (C0 : CallFix p m c b_Mod_faces 8 s args wA R_Mod) (hE : xE G vwCl xaty s) (hR1 : 3 ≤ R.frames) (hR2 : 73 ≤ R.locals) (hR3 : cells ≤ R.cells) (hR4 : slots ≤ R.slots) : ∀ (n : Nat) (x3 : Int32) (w : Mp) (H : Heap) (locs : List Loc) (q : Nat × Int32 × Mp) (ls : Array Slot), xhd G vwCl w H → xS G s H locs → H.size = sz → xL ls 8 [(0, .inr (.inl (some h0))), (2, .inl x2), (3, .inl x3)] → f_Mod_faces_L84 h0 x2 n x3 w = some q → (∀ (H : Heap) (locs : List Loc) (ls : Array Slot), xhd G vwCl q.2.2 H → xS G s H locs → H.size = sz → xL ls 8 [(0, .inr (.inl (some h0))), (2, .inl x2), (3, .inl q.2.1)] → W p l e R s m args below meth c H locs cells slots Q (F0 m 197 ls [])) → W p l e R s m args below meth c H locs cells slots Q (F0 m 84 ls []) := by
  intro n
  induction n with
  | zero => intro _ _ _ _ q ls hH hS hz hl h; cases h
  | succ n ih =>
    intro x3 w H locs q ls hH hS hz hl h K
    rw [f_Mod_faces_L84] at h
    refine x_iload_n C0 hl 2 d_Mod_faces_84 rfl rfl ?_
    refine x_if_lt C0 197 d_Mod_faces_85 (by decide) h (fun h => ?_) (fun h => ?_)
    · cases h
      exact K _ _ ls hH hS hz (x_sub hl [0, 1, 2] rfl)
    · refine lv_iconst (v := 0) C0.1 C0.2.1 d_Mod_faces_88 (by decide) ?_
      refine x_istore (lv' := [(4, .inl (0 : Int32)), (0, .inr (.inl (some h0))), (2, .inl x2), (3, .inl x3)]) C0 hl d_Mod_faces_89 (by decide) rfl (fun ls hl => ?_)
      obtain ⟨q_23, e9, h⟩ := Option.bind_eq_some_iff.mp h
      refine w_Mod_faces_L91 C0 hE hR1 hR2 hR3 hR4 100000 _ _ _ _ q_23 ls hH hS hz (x_sub hl [1, 2, 3, 0] rfl) e9 (fun H locs ls hH hS hz hl => ?_)
      refine x_iinc (v := -1) (lv' := [(3, .inl (x3 + (-1))), (0, .inr (.inl (some h0))), (2, .inl x2), (4, .inl q_23.2.1)]) C0 hl 2 d_Mod_faces_191 rfl (by decide) (by decide) rfl (fun ls hl => ?_)
      refine x_goto C0 84 d_Mod_faces_194 (by decide) ?_
      exact ih _ _ _ _ q ls hH hS hz (x_sub hl [1, 2, 0] rfl) h K
def f_Mod_faces (w : Mp) (h0 : Nat) (x1 : Int32) : Option (Int32 × Mp) := (f_Mod_isIn w x1 (0 : Int32) (3 : Int32)).bind fun q_1 => xJ1 (fun (x_2 : Int32) => (pF w (some h0) 5 0 (.int x_2)).bind fun w_4 => (gI w_4 (some h0) 5 0).bind fun v_5 => if v_5 ≤ 0 then ((xo w_4 (some h0) 5).bind fun b_7 => (f_Mod_fillRow w_4 b_7 x1).bind fun q_6 => (gI q_6.2 (some h0) 5 13).bind fun v_8 => (f_Mod_faces_L41 h0 ((1 : Int32) <<< (v_8 &&& 31)) 100000 (0 : Int32) q_6.2).bind fun q_13 => (gI q_13.2.2 (some h0) 5 18).bind fun v_14 => (f_Mod_faces_L84 h0 ((1 : Int32) <<< (v_8 &&& 31)) 100000 (v_14 - (1 : Int32)) q_13.2.2).bind fun q_24 => (gR q_24.2.2 (some h0) 5 20).bind fun v_25 => (aI q_24.2.2 v_25 0 (((1 : Int32) <<< (v_8 &&& 31)) - (1 : Int32))).bind fun v_26 => if v_26 < (1000000 : Int32) then ((xo q_24.2.2 (some h0) 5).bind fun b_28 => (f_Mod_walk q_24.2.2 b_28 (((1 : Int32) <<< (v_8 &&& 31)) - (1 : Int32))).bind fun q_27 => (pF q_27.2 (some h0) 5 15 (.int (1 : Int32))).bind fun w_29 => (gR w_29 (some h0) 5 20).bind fun v_30 => (aI w_29 v_30 0 (((1 : Int32) <<< (v_8 &&& 31)) - (1 : Int32))).bind fun v_31 => some (v_31, w_29)) else (some ((-1 : Int32), q_24.2.2))) else (some ((0 : Int32), w_4))) fun J_3 => if q_1 = 0 then (J_3 (1 : Int32)) else (J_3 (0 : Int32))
set_option maxHeartbeats 4000000 in
set_option maxRecDepth 100000 in
theorem c_Mod_faces (l : Launch) (G : Gx) (w : Mp) (sz : Nat) (h0 : Nat) (x1 : Int32) (res : Int32 × Mp) (hf : f_Mod_faces w h0 x1 = some res) : Met l y_Mod_faces (xws y_Mod_faces b_Mod_faces 8 (some .int)) { frames := 3, cells := 0, slots := 0, locals := 73 } (xPc G vwCl xaty w sz [va_rf (some h0), .int x1]) (xQ G vwCl (some (.int res.1)) res.2 sz) (0) (0) (xA G) := by
  refine Met.ofW (cc := b_Mod_faces) (maxL := 8) (ret := (some .int)) (by decide) rfl ?_
  intro p e s m args below meth c s₁ B hml hv
  obtain ⟨ha, hE, hH, hz⟩ := hv
  have C0 : CallFix p m c b_Mod_faces 8 s args wA R_Mod := ⟨B.exec, B.bytes, hml, findClass_of_methodNamed B.named, fun w hw => atoms_spec (ws := xws y_Mod_faces b_Mod_faces 8 (some .int)) B.pre w (List.mem_cons_of_mem _ hw)⟩
  have hr := B.returns
  have hlocks := B.notSynchronized
  obtain ⟨R, hR⟩ : ∃ R, R = (headSpec (xws y_Mod_faces b_Mod_faces 8 (some .int)) { frames := 3, cells := 0, slots := 0, locals := 73 }).room := ⟨_, rfl⟩
  have hR1 : 3 ≤ R.frames := by rw [hR]; exact Nat.le_of_ble_eq_true rfl
  have hR2 : 73 ≤ R.locals := by rw [hR]; exact Nat.le_of_ble_eq_true rfl
  have hR3 : 0 ≤ R.cells := by rw [hR]; exact Nat.le_refl _
  have hR4 : 0 ≤ R.slots := by rw [hR]; exact Nat.le_refl _
  rw [← hR]
  obtain ⟨Q, hQ⟩ : ∃ Q, Q = MQ below (xQ G vwCl (some (.int res.1)) res.2 sz) args s (0) (0) (xA G) := ⟨_, rfl⟩
  rw [← hQ]
  have hS : xS G s s.heap [] := va_S.rf
  obtain ⟨ls, he, hl⟩ := x_entry m [.inr (.inl (some h0)), .inl x1] 8 (Nat.le_of_ble_eq_true rfl)
  rw [show entryFrame m args 8 = F0 m 0 ls [] by rw [ha]; exact he]
  have hl : xL ls 8 [(0, .inr (.inl (some h0))), (1, .inl x1)] := hl
  have h := hf
  unfold f_Mod_faces at h
  suffices hmain : ∀ (H : Heap) (locs : List Loc), xhd G vwCl w H → xS G s H locs → H.size = sz → (H = s.heap ∧ locs = []) → W p l e R s m args below meth c H locs 0 0 Q (F0 m 0 ls []) from hmain _ _ hH hS hz ⟨rfl, rfl⟩
  clear hH hS hz
  intro H locs hH hS hz hP0
  refine x_aload_n C0 hl 0 d_Mod_faces_0 rfl rfl ?_
  refine x_iload_n C0 hl 1 d_Mod_faces_1 rfl rfl ?_
  refine lv_iconst (v := 0) C0.1 C0.2.1 d_Mod_faces_2 (by decide) ?_
  refine lv_iconst (v := 3) C0.1 C0.2.1 d_Mod_faces_3 (by decide) ?_
  obtain ⟨q_1, e9, h⟩ := Option.bind_eq_some_iff.mp h
  refine x_callP (va_runS (As := [.int x1, .int (0 : Int32), .int (3 : Int32)]) (rest := [va_rf (some h0)]) C0 (c_Mod_isIn l G w _ x1 (0 : Int32) (3 : Int32) q_1 e9) (x_cwS 3 C0 kw_4_155 kw_4_157 kw_1_3 kw_4_156 (by decide +kernel) (x_rm hR1 hR2 (Nat.le_of_ble_eq_true rfl) (Nat.le_of_ble_eq_true rfl))) (x_preS hE hH hS) rfl rfl hl.1 rfl (lv_room (by first | exact Nat.le_of_ble_eq_true rfl | simp only [List.map_cons, List.map_nil, List.sum_cons, List.sum_nil, va_rf_cat, x_catI, x_catL, x_catA] <;> decide)) d_Mod_faces_4 (x_le0 hR3 hR4)) ?_
  refine xj1 h (fun J_3 eJ_3 h => ?_)
  have kJ_3 : ∀ (x_2 : Int32) (ls : Array Slot), xL ls 8 [(0, .inr (.inl (some h0))), (1, .inl x1)] → J_3 x_2 = some res → W p l e R s m args below meth c H locs 0 0 Q (F0 m 15 ls [.int x_2, va_rf (some h0)]) := by
    intro x_2 ls hl h
    rw [eJ_3] at h
    refine x_put C0 hE hH hS (ci := 5) rfl i_Mod t_Mod t_Mod_ok n_Mod 0 (by decide) kw_4_79 rfl rfl rfl d_Mod_faces_15 h (fun w_4 H locs hH hS hz9 h => ?_)
    have hz := hz9.trans hz
    refine x_aload_n C0 hl 0 d_Mod_faces_18 rfl rfl ?_
    refine x_getI C0 hE hH (ci := 5) rfl i_Mod 0 (by decide) kw_4_79 d_Mod_faces_19 h (fun v_5 h => ?_)
    refine x_if_le C0 27 d_Mod_faces_22 (by decide) h (fun h => ?_) (fun h => ?_)
    · refine x_aload_n C0 hl 0 d_Mod_faces_27 rfl rfl ?_
      refine x_iload_n C0 hl 1 d_Mod_faces_28 rfl rfl ?_
      obtain ⟨b_7, e9, h⟩ := Option.bind_eq_some_iff.mp h
      obtain ⟨e8, fs9, hb9⟩ := xo_inv e9
      obtain ⟨q_6, e9, h⟩ := Option.bind_eq_some_iff.mp h
      refine x_call0 hS (va_runV (As := [.int x1]) (rest := []) C0 (c_Mod_fillRow l G w_4 _ b_7 x1 q_6 e9) (x_cwV 1 C0 kw_4_170 kw_4_173 kw_1_3 kw_4_172 kw_0_15 (by decide +kernel) (x_rm hR1 hR2 (Nat.le_of_ble_eq_true rfl) (Nat.le_of_ble_eq_true rfl))) (x_preV hE hH hS (ci := 5) rfl hb9) rfl rfl hl.1 (by rw [e8]; rfl) (lv_room (by first | exact Nat.le_of_ble_eq_true rfl | simp only [List.map_cons, List.map_nil, List.sum_cons, List.sum_nil, va_rf_cat, x_catI, x_catL, x_catA] <;> decide)) d_Mod_faces_29 (x_le0 hR3 hR4)) (fun H locs hH hS hz9 => ?_)
      have hz := hz9.trans hz
      refine lv_iconst (v := 1) C0.1 C0.2.1 d_Mod_faces_32 (by decide) ?_
      refine x_aload_n C0 hl 0 d_Mod_faces_33 rfl rfl ?_
      refine x_getI C0 hE hH (ci := 5) rfl i_Mod 13 (by decide) kw_4_92 d_Mod_faces_34 h (fun v_8 h => ?_)
      refine lv_ishl C0.1 C0.2.1 d_Mod_faces_37 ?_
      refine x_istore_n (lv' := [(2, .inl ((1 : Int32) <<< (v_8 &&& 31))), (0, .inr (.inl (some h0))), (1, .inl x1)]) C0 hl d_Mod_faces_38 rfl (by decide) rfl (fun ls hl => ?_)
      refine lv_iconst (v := 0) C0.1 C0.2.1 d_Mod_faces_39 (by decide) ?_
      refine x_istore_n (lv' := [(3, .inl (0 : Int32)), (2, .inl ((1 : Int32) <<< (v_8 &&& 31))), (0, .inr (.inl (some h0))), (1, .inl x1)]) C0 hl d_Mod_faces_40 rfl (by decide) rfl (fun ls hl => ?_)
      obtain ⟨q_13, e9, h⟩ := Option.bind_eq_some_iff.mp h
      refine w_Mod_faces_L41 C0 hE hR1 hR2 hR3 hR4 100000 _ _ _ _ q_13 ls hH hS hz (x_sub hl [2, 1, 0] rfl) e9 (fun H locs ls hH hS hz hl => ?_)
      refine x_aload_n C0 hl 0 d_Mod_faces_77 rfl rfl ?_
      refine x_getI C0 hE hH (ci := 5) rfl i_Mod 18 (by decide) kw_4_97 d_Mod_faces_78 h (fun v_14 h => ?_)
      refine lv_iconst (v := 1) C0.1 C0.2.1 d_Mod_faces_81 (by decide) ?_
      refine lv_isub C0.1 C0.2.1 d_Mod_faces_82 ?_
      refine x_istore_n (lv' := [(3, .inl (v_14 - (1 : Int32))), (0, .inr (.inl (some h0))), (2, .inl ((1 : Int32) <<< (v_8 &&& 31)))]) C0 hl d_Mod_faces_83 rfl (by decide) rfl (fun ls hl => ?_)
      obtain ⟨q_24, e9, h⟩ := Option.bind_eq_some_iff.mp h
      refine w_Mod_faces_L84 C0 hE hR1 hR2 hR3 hR4 100000 _ _ _ _ q_24 ls hH hS hz (x_sub hl [1, 2, 0] rfl) e9 (fun H locs ls hH hS hz hl => ?_)
      refine x_aload_n C0 hl 0 d_Mod_faces_197 rfl rfl ?_
      refine x_getR C0 hE hH (ci := 5) rfl i_Mod 20 (by decide) kw_4_99 d_Mod_faces_198 h (fun v_25 h => ?_)
      refine x_iload_n C0 hl 1 d_Mod_faces_201 rfl rfl ?_
      refine lv_iconst (v := 1) C0.1 C0.2.1 d_Mod_faces_202 (by decide) ?_
      refine lv_isub C0.1 C0.2.1 d_Mod_faces_203 ?_
      refine x_iald C0 hE hH (t := 0) rfl d_Mod_faces_204 h (fun v_26 h => ?_)
      refine lv_ldc (v := 1000000) C0.1 C0.2.1 C0.2.2.2.1 (C0.2.2.2.2 _ kw_5_51) d_Mod_faces_205 ?_
      refine x_icmp_lt C0 212 d_Mod_faces_207 (by decide) h (fun h => ?_) (fun h => ?_)
      · refine x_aload_n C0 hl 0 d_Mod_faces_212 rfl rfl ?_
        refine x_iload_n C0 hl 1 d_Mod_faces_213 rfl rfl ?_
        refine lv_iconst (v := 1) C0.1 C0.2.1 d_Mod_faces_214 (by decide) ?_
        refine lv_isub C0.1 C0.2.1 d_Mod_faces_215 ?_
        obtain ⟨b_28, e9, h⟩ := Option.bind_eq_some_iff.mp h
        obtain ⟨e8, fs9, hb9⟩ := xo_inv e9
        obtain ⟨q_27, e9, h⟩ := Option.bind_eq_some_iff.mp h
        refine x_call0 hS (va_runV (As := [.int (((1 : Int32) <<< (v_8 &&& 31)) - (1 : Int32))]) (rest := []) C0 (c_Mod_walk l G q_24.2.2 _ b_28 (((1 : Int32) <<< (v_8 &&& 31)) - (1 : Int32)) q_27 e9) (x_cwV 1 C0 kw_5_64 kw_5_67 kw_1_3 kw_5_66 kw_0_36 (by decide +kernel) (x_rm hR1 hR2 (Nat.le_of_ble_eq_true rfl) (Nat.le_of_ble_eq_true rfl))) (x_preV hE hH hS (ci := 5) rfl hb9) rfl rfl hl.1 (by rw [e8]; rfl) (lv_room (by first | exact Nat.le_of_ble_eq_true rfl | simp only [List.map_cons, List.map_nil, List.sum_cons, List.sum_nil, va_rf_cat, x_catI, x_catL, x_catA] <;> decide)) d_Mod_faces_216 (x_le0 hR3 hR4)) (fun H locs hH hS hz9 => ?_)
        have hz := hz9.trans hz
        refine x_aload_n C0 hl 0 d_Mod_faces_219 rfl rfl ?_
        refine lv_iconst (v := 1) C0.1 C0.2.1 d_Mod_faces_220 (by decide) ?_
        refine x_put C0 hE hH hS (ci := 5) rfl i_Mod t_Mod t_Mod_ok n_Mod 15 (by decide) kw_4_94 rfl rfl rfl d_Mod_faces_221 h (fun w_29 H locs hH hS hz9 h => ?_)
        have hz := hz9.trans hz
        refine x_aload_n C0 hl 0 d_Mod_faces_224 rfl rfl ?_
        refine x_getR C0 hE hH (ci := 5) rfl i_Mod 20 (by decide) kw_4_99 d_Mod_faces_225 h (fun v_30 h => ?_)
        refine x_iload_n C0 hl 1 d_Mod_faces_228 rfl rfl ?_
        refine lv_iconst (v := 1) C0.1 C0.2.1 d_Mod_faces_229 (by decide) ?_
        refine lv_isub C0.1 C0.2.1 d_Mod_faces_230 ?_
        refine x_iald C0 hE hH (t := 0) rfl d_Mod_faces_231 h (fun v_31 h => ?_)
        cases h
        rw [hQ]
        exact x_iret C0 hr hlocks hH hS hz d_Mod_faces_232
      · refine lv_iconst (v := -1) C0.1 C0.2.1 d_Mod_faces_210 (by decide) ?_
        cases h
        rw [hQ]
        exact x_iret C0 hr hlocks hH hS hz d_Mod_faces_211
    · refine lv_iconst (v := 0) C0.1 C0.2.1 d_Mod_faces_25 (by decide) ?_
      cases h
      rw [hQ]
      exact x_iret C0 hr hlocks hH hS hz d_Mod_faces_26
  refine x_if_eq C0 14 d_Mod_faces_7 (by decide) h (fun h => ?_) (fun h => ?_)
  · refine lv_iconst (v := 1) C0.1 C0.2.1 d_Mod_faces_14 (by decide) ?_
    exact kJ_3 _ ls (x_sub hl [0, 1] rfl) h
  · refine lv_iconst (v := 0) C0.1 C0.2.1 d_Mod_faces_10 (by decide) ?_
    refine x_goto C0 15 d_Mod_faces_11 (by decide) ?_
    exact kJ_3 _ ls (x_sub hl [0, 1] rfl) h
theorem d_Mod_planned_0 : decode b_Mod_planned 0 = .ok (.aload_n 0, 1) := by decide +kernel
theorem d_Mod_planned_1 : decode b_Mod_planned 1 = .ok (.aload_n 0, 1) := by decide +kernel
theorem d_Mod_planned_2 : decode b_Mod_planned 2 = .ok (.getfield 70, 3) := by decide +kernel
theorem d_Mod_planned_5 : decode b_Mod_planned 5 = .ok (.ifCond .ne 7, 3) := by decide +kernel
theorem d_Mod_planned_8 : decode b_Mod_planned 8 = .ok (.iconst 1, 1) := by decide +kernel
theorem d_Mod_planned_9 : decode b_Mod_planned 9 = .ok (.goto 33, 3) := by decide +kernel
theorem d_Mod_planned_12 : decode b_Mod_planned 12 = .ok (.iload_n 1, 1) := by decide +kernel
theorem d_Mod_planned_13 : decode b_Mod_planned 13 = .ok (.ifCond .lt 11, 3) := by decide +kernel
theorem d_Mod_planned_16 : decode b_Mod_planned 16 = .ok (.iload_n 1, 1) := by decide +kernel
theorem d_Mod_planned_17 : decode b_Mod_planned 17 = .ok (.aload_n 0, 1) := by decide +kernel
theorem d_Mod_planned_18 : decode b_Mod_planned 18 = .ok (.getfield 142, 3) := by decide +kernel
theorem d_Mod_planned_21 : decode b_Mod_planned 21 = .ok (.if_icmp .lt 7, 3) := by decide +kernel
theorem d_Mod_planned_24 : decode b_Mod_planned 24 = .ok (.iconst 2, 1) := by decide +kernel
theorem d_Mod_planned_25 : decode b_Mod_planned 25 = .ok (.goto 17, 3) := by decide +kernel
theorem d_Mod_planned_28 : decode b_Mod_planned 28 = .ok (.iload_n 2, 1) := by decide +kernel
theorem d_Mod_planned_29 : decode b_Mod_planned 29 = .ok (.iconst 0, 1) := by decide +kernel
theorem d_Mod_planned_30 : decode b_Mod_planned 30 = .ok (.iconst 1, 1) := by decide +kernel
theorem d_Mod_planned_31 : decode b_Mod_planned 31 = .ok (.invokestatic 66, 3) := by decide +kernel
theorem d_Mod_planned_34 : decode b_Mod_planned 34 = .ok (.ifCond .eq 7, 3) := by decide +kernel
theorem d_Mod_planned_37 : decode b_Mod_planned 37 = .ok (.iconst 0, 1) := by decide +kernel
theorem d_Mod_planned_38 : decode b_Mod_planned 38 = .ok (.goto 4, 3) := by decide +kernel
theorem d_Mod_planned_41 : decode b_Mod_planned 41 = .ok (.iconst 3, 1) := by decide +kernel
theorem d_Mod_planned_42 : decode b_Mod_planned 42 = .ok (.putfield 59, 3) := by decide +kernel
theorem d_Mod_planned_45 : decode b_Mod_planned 45 = .ok (.aload_n 0, 1) := by decide +kernel
theorem d_Mod_planned_46 : decode b_Mod_planned 46 = .ok (.getfield 59, 3) := by decide +kernel
theorem d_Mod_planned_49 : decode b_Mod_planned 49 = .ok (.ifCond .le 5, 3) := by decide +kernel
theorem d_Mod_planned_52 : decode b_Mod_planned 52 = .ok (.iconst 0, 1) := by decide +kernel
theorem d_Mod_planned_53 : decode b_Mod_planned 53 = .ok (.ireturn, 1) := by decide +kernel
theorem d_Mod_planned_54 : decode b_Mod_planned 54 = .ok (.iload_n 2, 1) := by decide +kernel
theorem d_Mod_planned_55 : decode b_Mod_planned 55 = .ok (.ifCond .ne 12, 3) := by decide +kernel
theorem d_Mod_planned_58 : decode b_Mod_planned 58 = .ok (.aload_n 0, 1) := by decide +kernel
theorem d_Mod_planned_59 : decode b_Mod_planned 59 = .ok (.getfield 44, 3) := by decide +kernel
theorem d_Mod_planned_62 : decode b_Mod_planned 62 = .ok (.iload_n 1, 1) := by decide +kernel
theorem d_Mod_planned_63 : decode b_Mod_planned 63 = .ok (.iaload, 1) := by decide +kernel
theorem d_Mod_planned_64 : decode b_Mod_planned 64 = .ok (.goto 9, 3) := by decide +kernel
theorem d_Mod_planned_67 : decode b_Mod_planned 67 = .ok (.aload_n 0, 1) := by decide +kernel
theorem d_Mod_planned_68 : decode b_Mod_planned 68 = .ok (.getfield 47, 3) := by decide +kernel
theorem d_Mod_planned_71 : decode b_Mod_planned 71 = .ok (.iload_n 1, 1) := by decide +kernel
theorem d_Mod_planned_72 : decode b_Mod_planned 72 = .ok (.iaload, 1) := by decide +kernel
theorem d_Mod_planned_73 : decode b_Mod_planned 73 = .ok (.ireturn, 1) := by decide +kernel
def f_Mod_planned (w : Mp) (h0 : Nat) (x1 : Int32) (x2 : Int32) : Option (Int32 × Mp) := (gI w (some h0) 5 15).bind fun v_1 => xJ1 (fun (x_2 : Int32) => (pF w (some h0) 5 0 (.int x_2)).bind fun w_4 => (gI w_4 (some h0) 5 0).bind fun v_5 => if v_5 ≤ 0 then (if x2 = 0 then ((gR w_4 (some h0) 5 16).bind fun v_8 => (aI w_4 v_8 0 x1).bind fun v_9 => some (v_9, w_4)) else ((gR w_4 (some h0) 5 17).bind fun v_6 => (aI w_4 v_6 0 x1).bind fun v_7 => some (v_7, w_4))) else (some ((0 : Int32), w_4))) fun J_3 => if v_1 = 0 then (J_3 (1 : Int32)) else (if x1 < 0 then (J_3 (2 : Int32)) else ((gI w (some h0) 5 13).bind fun v_10 => if x1 < v_10 then ((f_Mod_isIn w x2 (0 : Int32) (1 : Int32)).bind fun q_11 => if q_11 = 0 then (J_3 (3 : Int32)) else (J_3 (0 : Int32))) else (J_3 (2 : Int32))))
set_option maxHeartbeats 4000000 in
set_option maxRecDepth 100000 in
theorem c_Mod_planned (l : Launch) (G : Gx) (w : Mp) (sz : Nat) (h0 : Nat) (x1 : Int32) (x2 : Int32) (res : Int32 × Mp) (hf : f_Mod_planned w h0 x1 x2 = some res) : Met l y_Mod_planned (xws y_Mod_planned b_Mod_planned 3 (some .int)) { frames := 1, cells := 0, slots := 0, locals := 22 } (xPc G vwCl xaty w sz [va_rf (some h0), .int x1, .int x2]) (xQ G vwCl (some (.int res.1)) res.2 sz) (0) (0) (xA G) := by
  refine Met.ofW (cc := b_Mod_planned) (maxL := 3) (ret := (some .int)) (by decide) rfl ?_
  intro p e s m args below meth c s₁ B hml hv
  obtain ⟨ha, hE, hH, hz⟩ := hv
  have C0 : CallFix p m c b_Mod_planned 3 s args wA R_Mod := ⟨B.exec, B.bytes, hml, findClass_of_methodNamed B.named, fun w hw => atoms_spec (ws := xws y_Mod_planned b_Mod_planned 3 (some .int)) B.pre w (List.mem_cons_of_mem _ hw)⟩
  have hr := B.returns
  have hlocks := B.notSynchronized
  obtain ⟨R, hR⟩ : ∃ R, R = (headSpec (xws y_Mod_planned b_Mod_planned 3 (some .int)) { frames := 1, cells := 0, slots := 0, locals := 22 }).room := ⟨_, rfl⟩
  have hR1 : 1 ≤ R.frames := by rw [hR]; exact Nat.le_of_ble_eq_true rfl
  have hR2 : 22 ≤ R.locals := by rw [hR]; exact Nat.le_of_ble_eq_true rfl
  have hR3 : 0 ≤ R.cells := by rw [hR]; exact Nat.le_refl _
  have hR4 : 0 ≤ R.slots := by rw [hR]; exact Nat.le_refl _
  rw [← hR]
  obtain ⟨Q, hQ⟩ : ∃ Q, Q = MQ below (xQ G vwCl (some (.int res.1)) res.2 sz) args s (0) (0) (xA G) := ⟨_, rfl⟩
  rw [← hQ]
  have hS : xS G s s.heap [] := va_S.rf
  obtain ⟨ls, he, hl⟩ := x_entry m [.inr (.inl (some h0)), .inl x1, .inl x2] 3 (Nat.le_of_ble_eq_true rfl)
  rw [show entryFrame m args 3 = F0 m 0 ls [] by rw [ha]; exact he]
  have hl : xL ls 3 [(0, .inr (.inl (some h0))), (1, .inl x1), (2, .inl x2)] := hl
  have h := hf
  unfold f_Mod_planned at h
  suffices hmain : ∀ (H : Heap) (locs : List Loc), xhd G vwCl w H → xS G s H locs → H.size = sz → (H = s.heap ∧ locs = []) → W p l e R s m args below meth c H locs 0 0 Q (F0 m 0 ls []) from hmain _ _ hH hS hz ⟨rfl, rfl⟩
  clear hH hS hz
  intro H locs hH hS hz hP0
  refine x_aload_n C0 hl 0 d_Mod_planned_0 rfl rfl ?_
  refine x_aload_n C0 hl 0 d_Mod_planned_1 rfl rfl ?_
  refine x_getI C0 hE hH (ci := 5) rfl i_Mod 15 (by decide) kw_4_94 d_Mod_planned_2 h (fun v_1 h => ?_)
  refine xj1 h (fun J_3 eJ_3 h => ?_)
  have kJ_3 : ∀ (x_2 : Int32) (ls : Array Slot), xL ls 3 [(0, .inr (.inl (some h0))), (1, .inl x1), (2, .inl x2)] → J_3 x_2 = some res → W p l e R s m args below meth c H locs 0 0 Q (F0 m 42 ls [.int x_2, va_rf (some h0)]) := by
    intro x_2 ls hl h
    rw [eJ_3] at h
    refine x_put C0 hE hH hS (ci := 5) rfl i_Mod t_Mod t_Mod_ok n_Mod 0 (by decide) kw_4_79 rfl rfl rfl d_Mod_planned_42 h (fun w_4 H locs hH hS hz9 h => ?_)
    have hz := hz9.trans hz
    refine x_aload_n C0 hl 0 d_Mod_planned_45 rfl rfl ?_
    refine x_getI C0 hE hH (ci := 5) rfl i_Mod 0 (by decide) kw_4_79 d_Mod_planned_46 h (fun v_5 h => ?_)
    refine x_if_le C0 54 d_Mod_planned_49 (by decide) h (fun h => ?_) (fun h => ?_)
    · refine x_iload_n C0 hl 2 d_Mod_planned_54 rfl rfl ?_
      refine x_if_ne C0 67 d_Mod_planned_55 (by decide) h (fun h => ?_) (fun h => ?_)
      · refine x_aload_n C0 hl 0 d_Mod_planned_67 rfl rfl ?_
        refine x_getR C0 hE hH (ci := 5) rfl i_Mod 17 (by decide) kw_4_96 d_Mod_planned_68 h (fun v_6 h => ?_)
        refine x_iload_n C0 hl 1 d_Mod_planned_71 rfl rfl ?_
        refine x_iald C0 hE hH (t := 0) rfl d_Mod_planned_72 h (fun v_7 h => ?_)
        cases h
        rw [hQ]
        exact x_iret C0 hr hlocks hH hS hz d_Mod_planned_73
      · refine x_aload_n C0 hl 0 d_Mod_planned_58 rfl rfl ?_
        refine x_getR C0 hE hH (ci := 5) rfl i_Mod 16 (by decide) kw_4_95 d_Mod_planned_59 h (fun v_8 h => ?_)
        refine x_iload_n C0 hl 1 d_Mod_planned_62 rfl rfl ?_
        refine x_iald C0 hE hH (t := 0) rfl d_Mod_planned_63 h (fun v_9 h => ?_)
        refine x_goto C0 73 d_Mod_planned_64 (by decide) ?_
        cases h
        rw [hQ]
        exact x_iret C0 hr hlocks hH hS hz d_Mod_planned_73
    · refine lv_iconst (v := 0) C0.1 C0.2.1 d_Mod_planned_52 (by decide) ?_
      cases h
      rw [hQ]
      exact x_iret C0 hr hlocks hH hS hz d_Mod_planned_53
  refine x_if_ne C0 12 d_Mod_planned_5 (by decide) h (fun h => ?_) (fun h => ?_)
  · refine x_iload_n C0 hl 1 d_Mod_planned_12 rfl rfl ?_
    refine x_if_lt C0 24 d_Mod_planned_13 (by decide) h (fun h => ?_) (fun h => ?_)
    · refine lv_iconst (v := 2) C0.1 C0.2.1 d_Mod_planned_24 (by decide) ?_
      refine x_goto C0 42 d_Mod_planned_25 (by decide) ?_
      exact kJ_3 _ ls (x_sub hl [0, 1, 2] rfl) h
    · refine x_iload_n C0 hl 1 d_Mod_planned_16 rfl rfl ?_
      refine x_aload_n C0 hl 0 d_Mod_planned_17 rfl rfl ?_
      refine x_getI C0 hE hH (ci := 5) rfl i_Mod 13 (by decide) kw_4_92 d_Mod_planned_18 h (fun v_10 h => ?_)
      refine x_icmp_lt C0 28 d_Mod_planned_21 (by decide) h (fun h => ?_) (fun h => ?_)
      · refine x_iload_n C0 hl 2 d_Mod_planned_28 rfl rfl ?_
        refine lv_iconst (v := 0) C0.1 C0.2.1 d_Mod_planned_29 (by decide) ?_
        refine lv_iconst (v := 1) C0.1 C0.2.1 d_Mod_planned_30 (by decide) ?_
        obtain ⟨q_11, e9, h⟩ := Option.bind_eq_some_iff.mp h
        refine x_callP (va_runS (As := [.int x2, .int (0 : Int32), .int (1 : Int32)]) (rest := [va_rf (some h0)]) C0 (c_Mod_isIn l G w _ x2 (0 : Int32) (1 : Int32) q_11 e9) (x_cwS 3 C0 kw_4_155 kw_4_157 kw_1_3 kw_4_156 (by decide +kernel) (x_rm hR1 hR2 (Nat.le_of_ble_eq_true rfl) (Nat.le_of_ble_eq_true rfl))) (x_preS hE hH hS) rfl rfl hl.1 rfl (lv_room (by first | exact Nat.le_of_ble_eq_true rfl | simp only [List.map_cons, List.map_nil, List.sum_cons, List.sum_nil, va_rf_cat, x_catI, x_catL, x_catA] <;> decide)) d_Mod_planned_31 (x_le0 hR3 hR4)) ?_
        refine x_if_eq C0 41 d_Mod_planned_34 (by decide) h (fun h => ?_) (fun h => ?_)
        · refine lv_iconst (v := 3) C0.1 C0.2.1 d_Mod_planned_41 (by decide) ?_
          exact kJ_3 _ ls (x_sub hl [0, 1, 2] rfl) h
        · refine lv_iconst (v := 0) C0.1 C0.2.1 d_Mod_planned_37 (by decide) ?_
          refine x_goto C0 42 d_Mod_planned_38 (by decide) ?_
          exact kJ_3 _ ls (x_sub hl [0, 1, 2] rfl) h
      · refine lv_iconst (v := 2) C0.1 C0.2.1 d_Mod_planned_24 (by decide) ?_
        refine x_goto C0 42 d_Mod_planned_25 (by decide) ?_
        exact kJ_3 _ ls (x_sub hl [0, 1, 2] rfl) h
  · refine lv_iconst (v := 1) C0.1 C0.2.1 d_Mod_planned_8 (by decide) ?_
    refine x_goto C0 42 d_Mod_planned_9 (by decide) ?_
    exact kJ_3 _ ls (x_sub hl [0, 1, 2] rfl) h
