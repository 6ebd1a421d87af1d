theorem kw_1_14 : (Jvm.Cond.initialized "java/lang/AbstractStringBuilder") ∈ wA := ku_1 14 rfl rfl
theorem kw_1_15 : (Jvm.Cond.initialized "java/lang/StringBuilder") ∈ wA := ku_1 15 rfl rfl
theorem kw_1_16 : (Jvm.Cond.initialized "java/lang/String") ∈ wA := ku_1 16 rfl rfl
theorem kw_1_21 : (Jvm.Cond.initialized "java/lang/StringLatin1") ∈ wA := ku_1 21 rfl rfl
theorem kw_1_22 : (Jvm.Cond.initialized "jdk/internal/util/Preconditions") ∈ wA := ku_1 22 rfl rfl
theorem kw_1_23 : (Jvm.Cond.initialized "java/lang/Integer") ∈ wA := ku_1 23 rfl rfl
theorem kw_1_178 : (Jvm.Cond.arrayClass Jvm.ClassFile.FieldType.byte) ∈ wA := ku_1 178 rfl rfl
theorem kw_2_106 : (Jvm.Cond.fieldLink "LeafMatches" (142 : Nat) "LeafMatches$Piece" "leaf" "LLeafMatches$Leaf;") ∈ wA := ku_2 106 rfl rfl
theorem kw_2_108 : (Jvm.Cond.fieldLink "LeafMatches" (151 : Nat) "LeafMatches$Piece" "isMirrored" "Z") ∈ wA := ku_2 108 rfl rfl
theorem kw_2_110 : (Jvm.Cond.fieldLink "LeafMatches" (154 : Nat) "LeafMatches$Piece" "isTurned" "Z") ∈ wA := ku_2 110 rfl rfl
theorem kw_3_51 : (Jvm.Cond.classLink "LeafMatches" (208 : Nat) "java/lang/StringBuilder") ∈ wA := ku_3 51 rfl rfl
theorem kw_3_52 : (Jvm.Cond.instantiable "java/lang/StringBuilder" (4 : Nat)) ∈ wA := ku_3 52 rfl rfl
theorem kw_3_53 : (Jvm.Cond.methodLink "LeafMatches" (268 : Nat) ({ cls := "java/lang/StringBuilder", name := "<init>", desc := "()V" } : Jvm.MethodName)) ∈ wA := ku_3 53 rfl rfl
theorem kw_3_54 : (Jvm.Cond.instanceMethod ({ cls := "java/lang/StringBuilder", name := "<init>", desc := "()V" } : Jvm.MethodName)) ∈ wA := ku_3 54 rfl rfl
theorem kw_3_55 : (Jvm.Cond.code ({ cls := "java/lang/StringBuilder", name := "<init>", desc := "()V" } : Jvm.MethodName) prog_18_method_1_code (1 : Nat) (Option.none : Option Jvm.ClassFile.FieldType)) ∈ wA := ku_3 55 rfl rfl
theorem kw_3_56 : (Jvm.Cond.methodLink "java/lang/StringBuilder" (1 : Nat) ({ cls := "java/lang/AbstractStringBuilder", name := "<init>", desc := "(I)V" } : Jvm.MethodName)) ∈ wA := ku_3 56 rfl rfl
theorem kw_3_57 : (Jvm.Cond.instanceMethod ({ cls := "java/lang/AbstractStringBuilder", name := "<init>", desc := "(I)V" } : Jvm.MethodName)) ∈ wA := ku_3 57 rfl rfl
theorem kw_3_58 : (Jvm.Cond.code ({ cls := "java/lang/AbstractStringBuilder", name := "<init>", desc := "(I)V" } : Jvm.MethodName) prog_8_method_2_code (2 : Nat) (Option.none : Option Jvm.ClassFile.FieldType)) ∈ wA := ku_3 58 rfl rfl
theorem kw_3_59 : (Jvm.Cond.methodLink "java/lang/AbstractStringBuilder" (3 : Nat) ({ cls := "java/lang/Object", name := "<init>", desc := "()V" } : Jvm.MethodName)) ∈ wA := ku_3 59 rfl rfl
theorem kw_3_60 : (Jvm.Cond.fieldLink "java/lang/AbstractStringBuilder" (18 : Nat) "java/lang/String" "COMPACT_STRINGS" "Z") ∈ wA := ku_3 60 rfl rfl
theorem kw_3_69 : (Jvm.Cond.fieldLink "java/lang/AbstractStringBuilder" (15 : Nat) "java/lang/AbstractStringBuilder" "value" "[B") ∈ wA := ku_3 69 rfl rfl
theorem kw_3_70 : (Jvm.Cond.fieldLink "java/lang/AbstractStringBuilder" (22 : Nat) "java/lang/AbstractStringBuilder" "coder" "B") ∈ wA := ku_3 70 rfl rfl
theorem kw_3_71 : (Jvm.Cond.fieldLink "java/lang/AbstractStringBuilder" (79 : Nat) "java/lang/AbstractStringBuilder" "count" "I") ∈ wA := ku_3 71 rfl rfl
theorem kw_3_80 : (Jvm.Cond.superclass "java/lang/StringBuilder" "java/lang/AbstractStringBuilder") ∈ wA := ku_3 80 rfl rfl
theorem kw_3_81 : (Jvm.Cond.methodLink "LeafMatches" (269 : Nat) ({ cls := "java/lang/StringBuilder", name := "append", desc := "(C)Ljava/lang/StringBuilder;" } : Jvm.MethodName)) ∈ wA := ku_3 81 rfl rfl
theorem kw_3_82 : (Jvm.Cond.instanceMethod ({ cls := "java/lang/StringBuilder", name := "append", desc := "(C)Ljava/lang/StringBuilder;" } : Jvm.MethodName)) ∈ wA := ku_3 82 rfl rfl
theorem kw_3_83 : (Jvm.Cond.selects "java/lang/StringBuilder" ({ cls := "java/lang/StringBuilder", name := "append", desc := "(C)Ljava/lang/StringBuilder;" } : Jvm.MethodName) ({ cls := "java/lang/StringBuilder", name := "append", desc := "(C)Ljava/lang/StringBuilder;" } : Jvm.MethodName)) ∈ wA := ku_3 83 rfl rfl
theorem kw_3_84 : (Jvm.Cond.code ({ cls := "java/lang/StringBuilder", name := "append", desc := "(C)Ljava/lang/StringBuilder;" } : Jvm.MethodName) prog_18_method_14_code (2 : Nat) (Option.some (Jvm.ClassFile.FieldType.object "java/lang/StringBuilder"))) ∈ wA := ku_3 84 rfl rfl
theorem kw_3_85 : (Jvm.Cond.methodLink "java/lang/StringBuilder" (50 : Nat) ({ cls := "java/lang/AbstractStringBuilder", name := "append", desc := "(C)Ljava/lang/AbstractStringBuilder;" } : Jvm.MethodName)) ∈ wA := ku_3 85 rfl rfl
theorem kw_3_86 : (Jvm.Cond.instanceMethod ({ cls := "java/lang/AbstractStringBuilder", name := "append", desc := "(C)Ljava/lang/AbstractStringBuilder;" } : Jvm.MethodName)) ∈ wA := ku_3 86 rfl rfl
theorem kw_3_87 : (Jvm.Cond.code ({ cls := "java/lang/AbstractStringBuilder", name := "append", desc := "(C)Ljava/lang/AbstractStringBuilder;" } : Jvm.MethodName) prog_8_method_31_code (2 : Nat) (Option.some (Jvm.ClassFile.FieldType.object "java/lang/AbstractStringBuilder"))) ∈ wA := ku_3 87 rfl rfl
theorem kw_3_88 : (Jvm.Cond.methodLink "java/lang/AbstractStringBuilder" (100 : Nat) ({ cls := "java/lang/AbstractStringBuilder", name := "ensureCapacityInternal", desc := "(I)V" } : Jvm.MethodName)) ∈ wA := ku_3 88 rfl rfl
theorem kw_3_90 : (Jvm.Cond.instanceMethod ({ cls := "java/lang/AbstractStringBuilder", name := "ensureCapacityInternal", desc := "(I)V" } : Jvm.MethodName)) ∈ wA := ku_3 90 rfl rfl
theorem kw_3_91 : (Jvm.Cond.code ({ cls := "java/lang/AbstractStringBuilder", name := "ensureCapacityInternal", desc := "(I)V" } : Jvm.MethodName) prog_8_method_9_code (3 : Nat) (Option.none : Option Jvm.ClassFile.FieldType)) ∈ wA := ku_3 91 rfl rfl
theorem kw_3_119 : (Jvm.Cond.methodLink "java/lang/AbstractStringBuilder" (83 : Nat) ({ cls := "java/lang/AbstractStringBuilder", name := "isLatin1", desc := "()Z" } : Jvm.MethodName)) ∈ wA := ku_3 119 rfl rfl
theorem kw_3_120 : (Jvm.Cond.instanceMethod ({ cls := "java/lang/AbstractStringBuilder", name := "isLatin1", desc := "()Z" } : Jvm.MethodName)) ∈ wA := ku_3 120 rfl rfl
theorem kw_3_122 : (Jvm.Cond.selects "java/lang/StringBuilder" ({ cls := "java/lang/AbstractStringBuilder", name := "isLatin1", desc := "()Z" } : Jvm.MethodName) ({ cls := "java/lang/AbstractStringBuilder", name := "isLatin1", desc := "()Z" } : Jvm.MethodName)) ∈ wA := ku_3 122 rfl rfl
theorem kw_3_123 : (Jvm.Cond.code ({ cls := "java/lang/AbstractStringBuilder", name := "isLatin1", desc := "()Z" } : Jvm.MethodName) prog_8_method_68_code (1 : Nat) (Option.some Jvm.ClassFile.FieldType.boolean)) ∈ wA := ku_3 123 rfl rfl
theorem kw_3_124 : (Jvm.Cond.methodLink "java/lang/AbstractStringBuilder" (191 : Nat) ({ cls := "java/lang/StringLatin1", name := "canEncode", desc := "(C)Z" } : Jvm.MethodName)) ∈ wA := ku_3 124 rfl rfl
theorem kw_3_125 : (Jvm.Cond.static ({ cls := "java/lang/StringLatin1", name := "canEncode", desc := "(C)Z" } : Jvm.MethodName)) ∈ wA := ku_3 125 rfl rfl
theorem kw_3_126 : (Jvm.Cond.code ({ cls := "java/lang/StringLatin1", name := "canEncode", desc := "(C)Z" } : Jvm.MethodName) prog_19_method_3_code (1 : Nat) (Option.some Jvm.ClassFile.FieldType.boolean)) ∈ wA := ku_3 126 rfl rfl
theorem kw_3_146 : (Jvm.Cond.fieldLink "java/lang/String" (1053 : Nat) "jdk/internal/util/Preconditions" "SIOOBE_FORMATTER" "Ljava/util/function/BiFunction;") ∈ wA := ku_3 146 rfl rfl
theorem kw_3_167 : (Jvm.Cond.static ({ cls := "java/lang/String", name := "checkIndex", desc := "(II)V" } : Jvm.MethodName)) ∈ wA := ku_3 167 rfl rfl
theorem kw_3_168 : (Jvm.Cond.code ({ cls := "java/lang/String", name := "checkIndex", desc := "(II)V" } : Jvm.MethodName) prog_17_method_155_code (2 : Nat) (Option.none : Option Jvm.ClassFile.FieldType)) ∈ wA := ku_3 168 rfl rfl
theorem kw_3_169 : (Jvm.Cond.methodLink "java/lang/String" (1059 : Nat) ({ cls := "jdk/internal/util/Preconditions", name := "checkIndex", desc := "(IILjava/util/function/BiFunction;)I" } : Jvm.MethodName)) ∈ wA := ku_3 169 rfl rfl
theorem kw_3_170 : (Jvm.Cond.static ({ cls := "jdk/internal/util/Preconditions", name := "checkIndex", desc := "(IILjava/util/function/BiFunction;)I" } : Jvm.MethodName)) ∈ wA := ku_3 170 rfl rfl
theorem kw_3_171 : (Jvm.Cond.code ({ cls := "jdk/internal/util/Preconditions", name := "checkIndex", desc := "(IILjava/util/function/BiFunction;)I" } : Jvm.MethodName) prog_25_method_11_code (3 : Nat) (Option.some Jvm.ClassFile.FieldType.int)) ∈ wA := ku_3 171 rfl rfl
theorem kw_3_172 : (Jvm.Cond.methodLink "LeafMatches" (273 : Nat) ({ cls := "java/lang/StringBuilder", name := "append", desc := "(I)Ljava/lang/StringBuilder;" } : Jvm.MethodName)) ∈ wA := ku_3 172 rfl rfl
theorem kw_3_173 : (Jvm.Cond.instanceMethod ({ cls := "java/lang/StringBuilder", name := "append", desc := "(I)Ljava/lang/StringBuilder;" } : Jvm.MethodName)) ∈ wA := ku_3 173 rfl rfl
theorem kw_3_174 : (Jvm.Cond.selects "java/lang/StringBuilder" ({ cls := "java/lang/StringBuilder", name := "append", desc := "(I)Ljava/lang/StringBuilder;" } : Jvm.MethodName) ({ cls := "java/lang/StringBuilder", name := "append", desc := "(I)Ljava/lang/StringBuilder;" } : Jvm.MethodName)) ∈ wA := ku_3 174 rfl rfl
theorem kw_3_175 : (Jvm.Cond.code ({ cls := "java/lang/StringBuilder", name := "append", desc := "(I)Ljava/lang/StringBuilder;" } : Jvm.MethodName) prog_18_method_15_code (2 : Nat) (Option.some (Jvm.ClassFile.FieldType.object "java/lang/StringBuilder"))) ∈ wA := ku_3 175 rfl rfl
theorem kw_3_176 : (Jvm.Cond.methodLink "java/lang/StringBuilder" (53 : Nat) ({ cls := "java/lang/AbstractStringBuilder", name := "append", desc := "(I)Ljava/lang/AbstractStringBuilder;" } : Jvm.MethodName)) ∈ wA := ku_3 176 rfl rfl
theorem kw_3_177 : (Jvm.Cond.instanceMethod ({ cls := "java/lang/AbstractStringBuilder", name := "append", desc := "(I)Ljava/lang/AbstractStringBuilder;" } : Jvm.MethodName)) ∈ wA := ku_3 177 rfl rfl
theorem kw_3_178 : (Jvm.Cond.code ({ cls := "java/lang/AbstractStringBuilder", name := "append", desc := "(I)Ljava/lang/AbstractStringBuilder;" } : Jvm.MethodName) prog_8_method_32_code (4 : Nat) (Option.some (Jvm.ClassFile.FieldType.object "java/lang/AbstractStringBuilder"))) ∈ wA := ku_3 178 rfl rfl
theorem kw_3_179 : (Jvm.Cond.methodLink "java/lang/AbstractStringBuilder" (245 : Nat) ({ cls := "java/lang/Integer", name := "stringSize", desc := "(I)I" } : Jvm.MethodName)) ∈ wA := ku_3 179 rfl rfl
theorem kw_3_180 : (Jvm.Cond.static ({ cls := "java/lang/Integer", name := "stringSize", desc := "(I)I" } : Jvm.MethodName)) ∈ wA := ku_3 180 rfl rfl
theorem kw_3_181 : (Jvm.Cond.code ({ cls := "java/lang/Integer", name := "stringSize", desc := "(I)I" } : Jvm.MethodName) prog_14_method_13_code (4 : Nat) (Option.some Jvm.ClassFile.FieldType.int)) ∈ wA := ku_3 181 rfl rfl
theorem kw_3_182 : (Jvm.Cond.methodLink "java/lang/AbstractStringBuilder" (248 : Nat) ({ cls := "java/lang/Integer", name := "getChars", desc := "(II[B)I" } : Jvm.MethodName)) ∈ wA := ku_3 182 rfl rfl
theorem kw_3_183 : (Jvm.Cond.static ({ cls := "java/lang/Integer", name := "getChars", desc := "(II[B)I" } : Jvm.MethodName)) ∈ wA := ku_3 183 rfl rfl
theorem kw_3_184 : (Jvm.Cond.code ({ cls := "java/lang/Integer", name := "getChars", desc := "(II[B)I" } : Jvm.MethodName) prog_14_method_12_code (7 : Nat) (Option.some Jvm.ClassFile.FieldType.int)) ∈ wA := ku_3 184 rfl rfl
theorem kw_3_185 : (Jvm.Cond.fieldLink "java/lang/Integer" (83 : Nat) "java/lang/Integer" "DigitOnes" "[B") ∈ wA := ku_3 185 rfl rfl
theorem kw_3_187 : (Jvm.Cond.fieldLink "java/lang/Integer" (87 : Nat) "java/lang/Integer" "DigitTens" "[B") ∈ wA := ku_3 187 rfl rfl
theorem kw_3_207 : (Jvm.Cond.methodLink "LeafMatches" (278 : Nat) ({ cls := "java/lang/String", name := "charAt", desc := "(I)C" } : Jvm.MethodName)) ∈ wA := ku_3 207 rfl rfl
theorem kw_3_208 : (Jvm.Cond.instanceMethod ({ cls := "java/lang/String", name := "charAt", desc := "(I)C" } : Jvm.MethodName)) ∈ wA := ku_3 208 rfl rfl
theorem kw_3_209 : (Jvm.Cond.selects "java/lang/String" ({ cls := "java/lang/String", name := "charAt", desc := "(I)C" } : Jvm.MethodName) ({ cls := "java/lang/String", name := "charAt", desc := "(I)C" } : Jvm.MethodName)) ∈ wA := ku_3 209 rfl rfl
theorem kw_3_210 : (Jvm.Cond.code ({ cls := "java/lang/String", name := "charAt", desc := "(I)C" } : Jvm.MethodName) prog_17_method_56_code (2 : Nat) (Option.some Jvm.ClassFile.FieldType.char)) ∈ wA := ku_3 210 rfl rfl
theorem kw_3_211 : (Jvm.Cond.methodLink "java/lang/String" (492 : Nat) ({ cls := "java/lang/String", name := "isLatin1", desc := "()Z" } : Jvm.MethodName)) ∈ wA := ku_3 211 rfl rfl
theorem kw_3_212 : (Jvm.Cond.instanceMethod ({ cls := "java/lang/String", name := "isLatin1", desc := "()Z" } : Jvm.MethodName)) ∈ wA := ku_3 212 rfl rfl
theorem kw_3_213 : (Jvm.Cond.selects "java/lang/String" ({ cls := "java/lang/String", name := "isLatin1", desc := "()Z" } : Jvm.MethodName) ({ cls := "java/lang/String", name := "isLatin1", desc := "()Z" } : Jvm.MethodName)) ∈ wA := ku_3 213 rfl rfl
theorem kw_3_214 : (Jvm.Cond.code ({ cls := "java/lang/String", name := "isLatin1", desc := "()Z" } : Jvm.MethodName) prog_17_method_154_code (1 : Nat) (Option.some Jvm.ClassFile.FieldType.boolean)) ∈ wA := ku_3 214 rfl rfl
theorem kw_3_215 : (Jvm.Cond.fieldLink "java/lang/String" (38 : Nat) "java/lang/String" "COMPACT_STRINGS" "Z") ∈ wA := ku_3 215 rfl rfl
theorem kw_3_216 : (Jvm.Cond.methodLink "java/lang/String" (495 : Nat) ({ cls := "java/lang/StringLatin1", name := "charAt", desc := "([BI)C" } : Jvm.MethodName)) ∈ wA := ku_3 216 rfl rfl
theorem kw_3_217 : (Jvm.Cond.static ({ cls := "java/lang/StringLatin1", name := "charAt", desc := "([BI)C" } : Jvm.MethodName)) ∈ wA := ku_3 217 rfl rfl
theorem kw_3_218 : (Jvm.Cond.code ({ cls := "java/lang/StringLatin1", name := "charAt", desc := "([BI)C" } : Jvm.MethodName) prog_19_method_2_code (2 : Nat) (Option.some Jvm.ClassFile.FieldType.char)) ∈ wA := ku_3 218 rfl rfl
theorem kw_3_219 : (Jvm.Cond.methodLink "java/lang/StringLatin1" (9 : Nat) ({ cls := "java/lang/String", name := "checkIndex", desc := "(II)V" } : Jvm.MethodName)) ∈ wA := ku_3 219 rfl rfl
theorem kw_3_230 : (Jvm.Cond.methodLink "java/lang/StringBuilder" (343 : Nat) ({ cls := "java/lang/AbstractStringBuilder", name := "length", desc := "()I" } : Jvm.MethodName)) ∈ wA := ku_3 230 rfl rfl
theorem kw_3_231 : (Jvm.Cond.instanceMethod ({ cls := "java/lang/AbstractStringBuilder", name := "length", desc := "()I" } : Jvm.MethodName)) ∈ wA := ku_3 231 rfl rfl
theorem kw_3_232 : (Jvm.Cond.code ({ cls := "java/lang/AbstractStringBuilder", name := "length", desc := "()I" } : Jvm.MethodName) prog_8_method_6_code (1 : Nat) (Option.some Jvm.ClassFile.FieldType.int)) ∈ wA := ku_3 232 rfl rfl
theorem kw_3_237 : (Jvm.Cond.methodLink "java/lang/StringBuilder" (329 : Nat) ({ cls := "java/lang/AbstractStringBuilder", name := "charAt", desc := "(I)C" } : Jvm.MethodName)) ∈ wA := ku_3 237 rfl rfl
theorem kw_3_238 : (Jvm.Cond.instanceMethod ({ cls := "java/lang/AbstractStringBuilder", name := "charAt", desc := "(I)C" } : Jvm.MethodName)) ∈ wA := ku_3 238 rfl rfl
theorem kw_3_239 : (Jvm.Cond.code ({ cls := "java/lang/AbstractStringBuilder", name := "charAt", desc := "(I)C" } : Jvm.MethodName) prog_8_method_14_code (5 : Nat) (Option.some Jvm.ClassFile.FieldType.char)) ∈ wA := ku_3 239 rfl rfl
theorem kw_4_0 : (Jvm.Cond.methodLink "java/lang/AbstractStringBuilder" (138 : Nat) ({ cls := "java/lang/Math", name := "min", desc := "(II)I" } : Jvm.MethodName)) ∈ wA := ku_4 0 rfl rfl
theorem kw_4_1 : (Jvm.Cond.methodLink "java/lang/AbstractStringBuilder" (144 : Nat) ({ cls := "java/lang/String", name := "checkIndex", desc := "(II)V" } : Jvm.MethodName)) ∈ wA := ku_4 1 rfl rfl
theorem kw_5_74 : (Jvm.Cond.sameMethod "java/lang/AbstractStringBuilder" "java/lang/AbstractStringBuilder" "append" "(C)Ljava/lang/AbstractStringBuilder;") ∈ wA := ku_5 74 rfl rfl
theorem kw_5_78 : (Jvm.Cond.sameMethod "java/lang/AbstractStringBuilder" "java/lang/AbstractStringBuilder" "append" "(I)Ljava/lang/AbstractStringBuilder;") ∈ wA := ku_5 78 rfl rfl
theorem kw_5_79 : (Jvm.Cond.sameMethod "java/lang/AbstractStringBuilder" "java/lang/AbstractStringBuilder" "length" "()I") ∈ wA := ku_5 79 rfl rfl
theorem kw_5_80 : (Jvm.Cond.sameMethod "java/lang/AbstractStringBuilder" "java/lang/AbstractStringBuilder" "charAt" "(I)C") ∈ wA := ku_5 80 rfl rfl
theorem kw_5_81 : (Jvm.Cond.fieldLink "java/lang/String" (15 : Nat) "java/lang/String" "coder" "B") ∈ wA := ku_5 81 rfl rfl
theorem kw_5_82 : (Jvm.Cond.fieldLink "java/lang/String" (9 : Nat) "java/lang/String" "value" "[B") ∈ wA := ku_5 82 rfl rfl
theorem d_ASB_init_0 : decode b_ASB_init 0 = .ok (.aload_n 0, 1) := by decide +kernel
theorem d_ASB_init_1 : decode b_ASB_init 1 = .ok (.invokespecial 3, 3) := by decide +kernel
theorem d_ASB_init_4 : decode b_ASB_init 4 = .ok (.getstatic 18, 3) := by decide +kernel
theorem d_ASB_init_7 : decode b_ASB_init 7 = .ok (.ifCond .eq 18, 3) := by decide +kernel
theorem d_ASB_init_10 : decode b_ASB_init 10 = .ok (.aload_n 0, 1) := by decide +kernel
theorem d_ASB_init_11 : decode b_ASB_init 11 = .ok (.iload_n 1, 1) := by decide +kernel
theorem d_ASB_init_12 : decode b_ASB_init 12 = .ok (.newarray .byte, 2) := by decide +kernel
theorem d_ASB_init_14 : decode b_ASB_init 14 = .ok (.putfield 15, 3) := by decide +kernel
theorem d_ASB_init_17 : decode b_ASB_init 17 = .ok (.aload_n 0, 1) := by decide +kernel
theorem d_ASB_init_18 : decode b_ASB_init 18 = .ok (.iconst 0, 1) := by decide +kernel
theorem d_ASB_init_19 : decode b_ASB_init 19 = .ok (.putfield 22, 3) := by decide +kernel
theorem d_ASB_init_22 : decode b_ASB_init 22 = .ok (.goto 16, 3) := by decide +kernel
theorem d_ASB_init_25 : decode b_ASB_init 25 = .ok (.aload_n 0, 1) := by decide +kernel
theorem d_ASB_init_26 : decode b_ASB_init 26 = .ok (.iload_n 1, 1) := by decide +kernel
theorem d_ASB_init_27 : decode b_ASB_init 27 = .ok (.invokestatic 26, 3) := by decide +kernel
theorem d_ASB_init_30 : decode b_ASB_init 30 = .ok (.putfield 15, 3) := by decide +kernel
theorem d_ASB_init_33 : decode b_ASB_init 33 = .ok (.aload_n 0, 1) := by decide +kernel
theorem d_ASB_init_34 : decode b_ASB_init 34 = .ok (.iconst 1, 1) := by decide +kernel
theorem d_ASB_init_35 : decode b_ASB_init 35 = .ok (.putfield 22, 3) := by decide +kernel
theorem d_ASB_init_38 : decode b_ASB_init 38 = .ok (.return_, 1) := by decide +kernel
def f_ASB_init (w : Mp) (sz : Nat) (h0 : Nat) (x1 : Int32) : Option (Unit × Mp × Nat) := if (1 : Int32) = 0 then (none) else ((xnI w sz 6 16 x1).bind fun w_1 => (pF w_1 (some h0) 6 0 (va_rf (some sz))).bind fun w_2 => (pF w_2 (some h0) 6 1 (.int (0 : Int32))).bind fun w_3 => some ((), w_3, sz + 1))
set_option maxHeartbeats 4000000 in
set_option maxRecDepth 100000 in
theorem c_ASB_init (l : Launch) (G : Gx) (w : Mp) (sz : Nat) (h0 : Nat) (x1 : Int32) (res : Unit × Mp × Nat) (hf : f_ASB_init w sz h0 x1 = some res) : Met l y_ASB_init (xws y_ASB_init b_ASB_init 2 none) { frames := 1, cells := 1, slots := 16, locals := 24 } (xPc G vwCl xaty w sz [va_rf (some h0), .int x1]) (xQ G vwCl (none) res.2.1 res.2.2) (1) (16) (xA G) := by
  refine Met.ofW (cc := b_ASB_init) (maxL := 2) (ret := none) (by decide) rfl ?_
  intro p e s m args below meth c s₁ B hml hv
  obtain ⟨ha, hE, hH, hz⟩ := hv
  have C0 : CallFix p m c b_ASB_init 2 s args wA R_ASB := ⟨B.exec, B.bytes, hml, findClass_of_methodNamed B.named, fun w hw => atoms_spec (ws := xws y_ASB_init b_ASB_init 2 none) B.pre w (List.mem_cons_of_mem _ hw)⟩
  have hr := B.returns
  have hlocks := B.notSynchronized
  have hin : meth.name = "<init>" := (name_of_methodNamed B.named B.method).1
  obtain ⟨R, hR⟩ : ∃ R, R = (headSpec (xws y_ASB_init b_ASB_init 2 none) { frames := 1, cells := 1, slots := 16, locals := 24 }).room := ⟨_, rfl⟩
  have hR1 : 1 ≤ R.frames := by rw [hR]; exact Nat.le_of_ble_eq_true rfl
  have hR2 : 24 ≤ R.locals := by rw [hR]; exact Nat.le_of_ble_eq_true rfl
  have hR3 : 1 ≤ R.cells := by rw [hR]; exact Nat.le_refl _
  have hR4 : 16 ≤ R.slots := by rw [hR]; exact Nat.le_refl _
  rw [← hR]
  obtain ⟨Q, hQ⟩ : ∃ Q, Q = MQ below (xQ G vwCl (none) res.2.1 res.2.2) args s (1) (16) (xA G) := ⟨_, rfl⟩
  rw [← hQ]
  have hS : xS G s s.heap [] := va_S.rf
  obtain ⟨ls, he, hl⟩ := x_entry m [.inr (.inl (some h0)), .inl x1] 2 (Nat.le_of_ble_eq_true rfl)
  rw [show entryFrame m args 2 = F0 m 0 ls [] by rw [ha]; exact he]
  have hl : xL ls 2 [(0, .inr (.inl (some h0))), (1, .inl x1)] := hl
  have h := hf
  unfold f_ASB_init at h
  suffices hmain : ∀ (H : Heap) (locs : List Loc), xhd G vwCl w H → xS G s H locs → H.size = sz → (H = s.heap ∧ locs = []) → W p l e R s m args below meth c H locs 0 0 Q (F0 m 0 ls []) from hmain _ _ hH hS hz ⟨rfl, rfl⟩
  clear hH hS hz
  intro H locs hH hS hz hP0
  refine x_aload_n C0 hl 0 d_ASB_init_0 rfl rfl ?_
  refine x_obj C0 hl kw_3_59 kw_1_30 kw_1_31 d_ASB_init_1 (Nat.le_trans (by decide) hR1) (Nat.le_trans (by first | exact Nat.le_of_ble_eq_true rfl | simp only [List.map_cons, List.map_nil, List.sum_cons, List.sum_nil, va_rf_cat, x_catI, x_catL, x_catA] <;> decide) hR2) ?_
  refine x_gz C0 hE hS kw_3_60 d_ASB_init_4 ?_
  refine x_if_eq C0 25 d_ASB_init_7 (by decide) h (fun h => ?_) (fun h => ?_)
  · refine x_aload_n C0 hl 0 d_ASB_init_25 rfl rfl ?_
    refine x_iload_n C0 hl 1 d_ASB_init_26 rfl rfl ?_
    cases h
  · refine x_aload_n C0 hl 0 d_ASB_init_10 rfl rfl ?_
    refine x_iload_n C0 hl 1 d_ASB_init_11 rfl rfl ?_
    refine x_newb C0 hE hH hS hz (t := 6) (lim := 16) rfl kw_1_178 (Nat.le_trans (by omega) hR3) (Nat.le_trans (by omega) hR4) d_ASB_init_12 h (fun w_1 H hH hS hz h => ?_)
    refine W.widen (k := 1) (n := 16) (by omega) (by omega) ?_
    refine x_put C0 hE hH hS (ci := 6) rfl i_SB t_SB t_SB_ok n_SB 0 (by decide) kw_3_69 rfl (x_narR _ _) (x_fitR (Or.inr ⟨_, rfl⟩) _) d_ASB_init_14 h (fun w_2 H locs hH hS hz9 h => ?_)
    have hz := hz9.trans hz
    refine x_aload_n C0 hl 0 d_ASB_init_17 rfl rfl ?_
    refine lv_iconst (v := 0) C0.1 C0.2.1 d_ASB_init_18 (by decide) ?_
    refine x_put C0 hE hH hS (ci := 6) rfl i_SB t_SB t_SB_ok n_SB 1 (by decide) kw_3_70 rfl rfl rfl d_ASB_init_19 h (fun w_3 H locs hH hS hz9 h => ?_)
    have hz := hz9.trans hz
    refine x_goto C0 38 d_ASB_init_22 (by decide) ?_
    have h := Option.some.inj h
    subst h
    rw [hQ]
    refine W.widen (k := 1) (n := 16) (by omega) (by omega) ?_
    exact x_vret C0 hr hlocks hH hS hz d_ASB_init_38
theorem d_SB_init_0 : decode b_SB_init 0 = .ok (.aload_n 0, 1) := by decide +kernel
theorem d_SB_init_1 : decode b_SB_init 1 = .ok (.bipush 16, 2) := by decide +kernel
theorem d_SB_init_3 : decode b_SB_init 3 = .ok (.invokespecial 1, 3) := by decide +kernel
theorem d_SB_init_6 : decode b_SB_init 6 = .ok (.return_, 1) := by decide +kernel
def f_SB_init (w : Mp) (sz : Nat) (h0 : Nat) : Option (Unit × Mp × Nat) := (xo w (some h0) 6).bind fun b_2 => (f_ASB_init w sz b_2 (16 : Int32)).bind fun q_1 => some ((), q_1.2.1, q_1.2.2)
set_option maxHeartbeats 4000000 in
set_option maxRecDepth 100000 in
theorem c_SB_init (l : Launch) (G : Gx) (w : Mp) (sz : Nat) (h0 : Nat) (res : Unit × Mp × Nat) (hf : f_SB_init w sz h0 = some res) : Met l y_SB_init (xws y_SB_init b_SB_init 1 none) { frames := 2, cells := 1, slots := 16, locals := 45 } (xPc G vwCl xaty w sz [va_rf (some h0)]) (xQ G vwCl (none) res.2.1 res.2.2) (1) (16) (xA G) := by
  refine Met.ofW (cc := b_SB_init) (maxL := 1) (ret := none) (by decide) rfl ?_
  intro p e s m args below meth c s₁ B hml hv
  obtain ⟨ha, hE, hH, hz⟩ := hv
  have C0 : CallFix p m c b_SB_init 1 s args wA R_SB := ⟨B.exec, B.bytes, hml, findClass_of_methodNamed B.named, fun w hw => atoms_spec (ws := xws y_SB_init b_SB_init 1 none) B.pre w (List.mem_cons_of_mem _ hw)⟩
  have hr := B.returns
  have hlocks := B.notSynchronized
  have hin : meth.name = "<init>" := (name_of_methodNamed B.named B.method).1
  obtain ⟨R, hR⟩ : ∃ R, R = (headSpec (xws y_SB_init b_SB_init 1 none) { frames := 2, cells := 1, slots := 16, locals := 45 }).room := ⟨_, rfl⟩
  have hR1 : 2 ≤ R.frames := by rw [hR]; exact Nat.le_of_ble_eq_true rfl
  have hR2 : 45 ≤ R.locals := by rw [hR]; exact Nat.le_of_ble_eq_true rfl
  have hR3 : 1 ≤ R.cells := by rw [hR]; exact Nat.le_refl _
  have hR4 : 16 ≤ R.slots := by rw [hR]; exact Nat.le_refl _
  rw [← hR]
  obtain ⟨Q, hQ⟩ : ∃ Q, Q = MQ below (xQ G vwCl (none) res.2.1 res.2.2) args s (1) (16) (xA G) := ⟨_, rfl⟩
  rw [← hQ]
  have hS : xS G s s.heap [] := va_S.rf
  obtain ⟨ls, he, hl⟩ := x_entry m [.inr (.inl (some h0))] 1 (Nat.le_of_ble_eq_true rfl)
  rw [show entryFrame m args 1 = F0 m 0 ls [] by rw [ha]; exact he]
  have hl : xL ls 1 [(0, .inr (.inl (some h0)))] := hl
  have h := hf
  unfold f_SB_init at h
  suffices hmain : ∀ (H : Heap) (locs : List Loc), xhd G vwCl w H → xS G s H locs → H.size = sz → (H = s.heap ∧ locs = []) → W p l e R s m args below meth c H locs 0 0 Q (F0 m 0 ls []) from hmain _ _ hH hS hz ⟨rfl, rfl⟩
  clear hH hS hz
  intro H locs hH hS hz hP0
  refine x_aload_n C0 hl 0 d_SB_init_0 rfl rfl ?_
  refine lv_bipush (v := 16) C0.1 C0.2.1 d_SB_init_1 (by decide) ?_
  obtain ⟨b_2, e9, h⟩ := Option.bind_eq_some_iff.mp h
  obtain ⟨e8, fs9, hb9⟩ := xo_inv e9
  obtain ⟨q_1, e9, h⟩ := Option.bind_eq_some_iff.mp h
  have e9 := (show f_ASB_init w (Array.size H) b_2 (16 : Int32) = some q_1 by rw [hz]; exact e9)
  refine x_call hS (va_runI (As := [.int (16 : Int32)]) (rest := []) C0 (c_ASB_init l G w _ b_2 (16 : Int32) q_1 e9) (x_cwI 1 C0 kw_3_56 kw_3_58 kw_1_14 kw_3_57 rfl (by decide +kernel) (x_rm hR1 hR2 (Nat.le_of_ble_eq_true rfl) (Nat.le_of_ble_eq_true rfl))) (x_preS hE hH hS) rfl rfl hl.1 (by rw [e8]; rfl) (lv_room (by first | exact Nat.le_of_ble_eq_true rfl | simp only [List.map_cons, List.map_nil, List.sum_cons, List.sum_nil, va_rf_cat, x_catI, x_catL, x_catA] <;> decide)) d_SB_init_3 ⟨Nat.le_trans (by omega) hR3, Nat.le_trans (by omega) hR4⟩) (fun H locs hH hS hz => ?_)
  refine W.widen (k := 1) (n := 16) (by omega) (by omega) ?_
  have h := Option.some.inj h
  subst h
  rw [hQ]
  refine W.widen (k := 1) (n := 16) (by omega) (by omega) ?_
  exact x_vret C0 hr hlocks hH hS hz d_SB_init_6
theorem d_ASB_ensureCapacityInternal_0 : decode b_ASB_ensureCapacityInternal 0 = .ok (.aload_n 0, 1) := by decide +kernel
theorem d_ASB_ensureCapacityInternal_1 : decode b_ASB_ensureCapacityInternal 1 = .ok (.getfield 15, 3) := by decide +kernel
theorem d_ASB_ensureCapacityInternal_4 : decode b_ASB_ensureCapacityInternal 4 = .ok (.arraylength, 1) := by decide +kernel
theorem d_ASB_ensureCapacityInternal_5 : decode b_ASB_ensureCapacityInternal 5 = .ok (.aload_n 0, 1) := by decide +kernel
theorem d_ASB_ensureCapacityInternal_6 : decode b_ASB_ensureCapacityInternal 6 = .ok (.getfield 22, 3) := by decide +kernel
theorem d_ASB_ensureCapacityInternal_9 : decode b_ASB_ensureCapacityInternal 9 = .ok (.ishr, 1) := by decide +kernel
theorem d_ASB_ensureCapacityInternal_10 : decode b_ASB_ensureCapacityInternal 10 = .ok (.istore_n 2, 1) := by decide +kernel
theorem d_ASB_ensureCapacityInternal_11 : decode b_ASB_ensureCapacityInternal 11 = .ok (.iload_n 1, 1) := by decide +kernel
theorem d_ASB_ensureCapacityInternal_12 : decode b_ASB_ensureCapacityInternal 12 = .ok (.iload_n 2, 1) := by decide +kernel
theorem d_ASB_ensureCapacityInternal_13 : decode b_ASB_ensureCapacityInternal 13 = .ok (.isub, 1) := by decide +kernel
theorem d_ASB_ensureCapacityInternal_14 : decode b_ASB_ensureCapacityInternal 14 = .ok (.ifCond .le 24, 3) := by decide +kernel
theorem d_ASB_ensureCapacityInternal_17 : decode b_ASB_ensureCapacityInternal 17 = .ok (.aload_n 0, 1) := by decide +kernel
theorem d_ASB_ensureCapacityInternal_18 : decode b_ASB_ensureCapacityInternal 18 = .ok (.aload_n 0, 1) := by decide +kernel
theorem d_ASB_ensureCapacityInternal_19 : decode b_ASB_ensureCapacityInternal 19 = .ok (.getfield 15, 3) := by decide +kernel
theorem d_ASB_ensureCapacityInternal_22 : decode b_ASB_ensureCapacityInternal 22 = .ok (.aload_n 0, 1) := by decide +kernel
theorem d_ASB_ensureCapacityInternal_23 : decode b_ASB_ensureCapacityInternal 23 = .ok (.iload_n 1, 1) := by decide +kernel
theorem d_ASB_ensureCapacityInternal_24 : decode b_ASB_ensureCapacityInternal 24 = .ok (.invokevirtual 104, 3) := by decide +kernel
theorem d_ASB_ensureCapacityInternal_27 : decode b_ASB_ensureCapacityInternal 27 = .ok (.aload_n 0, 1) := by decide +kernel
theorem d_ASB_ensureCapacityInternal_28 : decode b_ASB_ensureCapacityInternal 28 = .ok (.getfield 22, 3) := by decide +kernel
theorem d_ASB_ensureCapacityInternal_31 : decode b_ASB_ensureCapacityInternal 31 = .ok (.ishl, 1) := by decide +kernel
theorem d_ASB_ensureCapacityInternal_32 : decode b_ASB_ensureCapacityInternal 32 = .ok (.invokestatic 108, 3) := by decide +kernel
theorem d_ASB_ensureCapacityInternal_35 : decode b_ASB_ensureCapacityInternal 35 = .ok (.putfield 15, 3) := by decide +kernel
theorem d_ASB_ensureCapacityInternal_38 : decode b_ASB_ensureCapacityInternal 38 = .ok (.return_, 1) := by decide +kernel
def f_ASB_ensureCapacityInternal (w : Mp) (h0 : Nat) (x1 : Int32) : Option (Unit) := (gR w (some h0) 6 0).bind fun v_1 => (aL w v_1 6).bind fun v_2 => (gI w (some h0) 6 1).bind fun v_3 => if (x1 - (v_2 >>> (v_3 &&& 31))) ≤ 0 then (some ()) else ((gR w (some h0) 6 0).bind fun v_4 => none)
set_option maxHeartbeats 4000000 in
set_option maxRecDepth 100000 in
theorem c_ASB_ensureCapacityInternal (l : Launch) (G : Gx) (w : Mp) (sz : Nat) (h0 : Nat) (x1 : Int32) (res : Unit) (hf : f_ASB_ensureCapacityInternal w h0 x1 = some res) : Met l y_ASB_ensureCapacityInternal (xws y_ASB_ensureCapacityInternal b_ASB_ensureCapacityInternal 3 none) { frames := 0, cells := 0, slots := 0, locals := 0 } (xPc G vwCl xaty w sz [va_rf (some h0), .int x1]) (qP (none)) (0) (0) (fun _ => False) := by
  refine Met.ofW (cc := b_ASB_ensureCapacityInternal) (maxL := 3) (ret := none) (by decide) rfl ?_
  intro p e s m args below meth c s₁ B hml hv
  obtain ⟨ha, hE, hH, hz⟩ := hv
  have C0 : CallFix p m c b_ASB_ensureCapacityInternal 3 s args wA R_ASB := ⟨B.exec, B.bytes, hml, findClass_of_methodNamed B.named, fun w hw => atoms_spec (ws := xws y_ASB_ensureCapacityInternal b_ASB_ensureCapacityInternal 3 none) B.pre w (List.mem_cons_of_mem _ hw)⟩
  have hr := B.returns
  have hlocks := B.notSynchronized
  obtain ⟨R, hR⟩ : ∃ R, R = (headSpec (xws y_ASB_ensureCapacityInternal b_ASB_ensureCapacityInternal 3 none) { frames := 0, cells := 0, slots := 0, locals := 0 }).room := ⟨_, rfl⟩
  have hR1 : 0 ≤ R.frames := by rw [hR]; exact Nat.le_of_ble_eq_true rfl
  have hR2 : 0 ≤ R.locals := by rw [hR]; exact Nat.le_of_ble_eq_true rfl
  have hR3 : 0 ≤ R.cells := by rw [hR]; exact Nat.le_refl _
  have hR4 : 0 ≤ R.slots := by rw [hR]; exact Nat.le_refl _
  rw [← hR]
  obtain ⟨Q, hQ⟩ : ∃ Q, Q = MQ below (qP (none)) args s (0) (0) (fun _ => False) := ⟨_, rfl⟩
  rw [← hQ]
  have hS : xS G s s.heap [] := va_S.rf
  obtain ⟨ls, he, hl⟩ := x_entry m [.inr (.inl (some h0)), .inl x1] 3 (Nat.le_of_ble_eq_true rfl)
  rw [show entryFrame m args 3 = F0 m 0 ls [] by rw [ha]; exact he]
  have hl : xL ls 3 [(0, .inr (.inl (some h0))), (1, .inl x1)] := hl
  have h := hf
  unfold f_ASB_ensureCapacityInternal at h
  suffices hmain : ∀ (H : Heap) (locs : List Loc), xhd G vwCl w H → xS G s H locs → H.size = sz → (H = s.heap ∧ locs = []) → W p l e R s m args below meth c H locs 0 0 Q (F0 m 0 ls []) from hmain _ _ hH hS hz ⟨rfl, rfl⟩
  clear hH hS hz
  intro H locs hH hS hz hP0
  refine x_aload_n C0 hl 0 d_ASB_ensureCapacityInternal_0 rfl rfl ?_
  refine x_getR C0 hE hH (ci := 6) rfl i_SB 0 (by decide) kw_3_69 d_ASB_ensureCapacityInternal_1 h (fun v_1 h => ?_)
  refine x_alen C0 hE hH (t := 6) rfl d_ASB_ensureCapacityInternal_4 h (fun v_2 h => ?_)
  refine x_aload_n C0 hl 0 d_ASB_ensureCapacityInternal_5 rfl rfl ?_
  refine x_getI C0 hE hH (ci := 6) rfl i_SB 1 (by decide) kw_3_70 d_ASB_ensureCapacityInternal_6 h (fun v_3 h => ?_)
  refine lv_ishr C0.1 C0.2.1 d_ASB_ensureCapacityInternal_9 ?_
  refine x_istore_n (lv' := [(2, .inl (v_2 >>> (v_3 &&& 31))), (0, .inr (.inl (some h0))), (1, .inl x1)]) C0 hl d_ASB_ensureCapacityInternal_10 rfl (by decide) rfl (fun ls hl => ?_)
  refine x_iload_n C0 hl 2 d_ASB_ensureCapacityInternal_11 rfl rfl ?_
  refine x_iload_n C0 hl 0 d_ASB_ensureCapacityInternal_12 rfl rfl ?_
  refine lv_isub C0.1 C0.2.1 d_ASB_ensureCapacityInternal_13 ?_
  refine x_if_le C0 38 d_ASB_ensureCapacityInternal_14 (by decide) h (fun h => ?_) (fun h => ?_)
  · have h := Option.some.inj h
    subst h
    rw [hQ]
    exact x_vretP C0 hr hlocks hP0 d_ASB_ensureCapacityInternal_38
  · refine x_aload_n C0 hl 1 d_ASB_ensureCapacityInternal_17 rfl rfl ?_
    refine x_aload_n C0 hl 1 d_ASB_ensureCapacityInternal_18 rfl rfl ?_
    refine x_getR C0 hE hH (ci := 6) rfl i_SB 0 (by decide) kw_3_69 d_ASB_ensureCapacityInternal_19 h (fun v_4 h => ?_)
    refine x_aload_n C0 hl 1 d_ASB_ensureCapacityInternal_22 rfl rfl ?_
    refine x_iload_n C0 hl 2 d_ASB_ensureCapacityInternal_23 rfl rfl ?_
    cases h
theorem d_ASB_isLatin1_0 : decode b_ASB_isLatin1 0 = .ok (.getstatic 18, 3) := by decide +kernel
theorem d_ASB_isLatin1_3 : decode b_ASB_isLatin1 3 = .ok (.ifCond .eq 14, 3) := by decide +kernel
theorem d_ASB_isLatin1_6 : decode b_ASB_isLatin1 6 = .ok (.aload_n 0, 1) := by decide +kernel
theorem d_ASB_isLatin1_7 : decode b_ASB_isLatin1 7 = .ok (.getfield 22, 3) := by decide +kernel
theorem d_ASB_isLatin1_10 : decode b_ASB_isLatin1 10 = .ok (.ifCond .ne 7, 3) := by decide +kernel
theorem d_ASB_isLatin1_13 : decode b_ASB_isLatin1 13 = .ok (.iconst 1, 1) := by decide +kernel
theorem d_ASB_isLatin1_14 : decode b_ASB_isLatin1 14 = .ok (.goto 4, 3) := by decide +kernel
theorem d_ASB_isLatin1_17 : decode b_ASB_isLatin1 17 = .ok (.iconst 0, 1) := by decide +kernel
theorem d_ASB_isLatin1_18 : decode b_ASB_isLatin1 18 = .ok (.ireturn, 1) := by decide +kernel
def f_ASB_isLatin1 (w : Mp) (h0 : Nat) : Option (Int32) := if (1 : Int32) = 0 then (some (0 : Int32)) else ((gI w (some h0) 6 1).bind fun v_1 => if v_1 = 0 then (some (1 : Int32)) else (some (0 : Int32)))
set_option maxHeartbeats 4000000 in
set_option maxRecDepth 100000 in
theorem c_ASB_isLatin1 (l : Launch) (G : Gx) (w : Mp) (sz : Nat) (h0 : Nat) (res : Int32) (hf : f_ASB_isLatin1 w h0 = some res) : Met l y_ASB_isLatin1 (xws y_ASB_isLatin1 b_ASB_isLatin1 1 (some .boolean)) { frames := 0, cells := 0, slots := 0, locals := 0 } (xPc G vwCl xaty w sz [va_rf (some h0)]) (qP (some (.int res))) (0) (0) (fun _ => False) := by
  refine Met.ofW (cc := b_ASB_isLatin1) (maxL := 1) (ret := (some .boolean)) (by decide) rfl ?_
  intro p e s m args below meth c s₁ B hml hv
  obtain ⟨ha, hE, hH, hz⟩ := hv
  have C0 : CallFix p m c b_ASB_isLatin1 1 s args wA R_ASB := ⟨B.exec, B.bytes, hml, findClass_of_methodNamed B.named, fun w hw => atoms_spec (ws := xws y_ASB_isLatin1 b_ASB_isLatin1 1 (some .boolean)) B.pre w (List.mem_cons_of_mem _ hw)⟩
  have hr := B.returns
  have hlocks := B.notSynchronized
  obtain ⟨R, hR⟩ : ∃ R, R = (headSpec (xws y_ASB_isLatin1 b_ASB_isLatin1 1 (some .boolean)) { frames := 0, cells := 0, slots := 0, locals := 0 }).room := ⟨_, rfl⟩
  have hR1 : 0 ≤ R.frames := by rw [hR]; exact Nat.le_of_ble_eq_true rfl
  have hR2 : 0 ≤ R.locals := by rw [hR]; exact Nat.le_of_ble_eq_true rfl
  have hR3 : 0 ≤ R.cells := by rw [hR]; exact Nat.le_refl _
  have hR4 : 0 ≤ R.slots := by rw [hR]; exact Nat.le_refl _
  rw [← hR]
  obtain ⟨Q, hQ⟩ : ∃ Q, Q = MQ below (qP (some (.int res))) args s (0) (0) (fun _ => False) := ⟨_, rfl⟩
  rw [← hQ]
  have hS : xS G s s.heap [] := va_S.rf
  obtain ⟨ls, he, hl⟩ := x_entry m [.inr (.inl (some h0))] 1 (Nat.le_of_ble_eq_true rfl)
  rw [show entryFrame m args 1 = F0 m 0 ls [] by rw [ha]; exact he]
  have hl : xL ls 1 [(0, .inr (.inl (some h0)))] := hl
  have h := hf
  unfold f_ASB_isLatin1 at h
  suffices hmain : ∀ (H : Heap) (locs : List Loc), xhd G vwCl w H → xS G s H locs → H.size = sz → (H = s.heap ∧ locs = []) → W p l e R s m args below meth c H locs 0 0 Q (F0 m 0 ls []) from hmain _ _ hH hS hz ⟨rfl, rfl⟩
  clear hH hS hz
  intro H locs hH hS hz hP0
  refine x_gz C0 hE hS kw_3_60 d_ASB_isLatin1_0 ?_
  refine x_if_eq C0 17 d_ASB_isLatin1_3 (by decide) h (fun h => ?_) (fun h => ?_)
  · refine lv_iconst (v := 0) C0.1 C0.2.1 d_ASB_isLatin1_17 (by decide) ?_
    have h := Option.some.inj h
    subst h
    rw [hQ]
    exact x_zretP C0 hr hlocks hP0 rfl d_ASB_isLatin1_18
  · refine x_aload_n C0 hl 0 d_ASB_isLatin1_6 rfl rfl ?_
    refine x_getI C0 hE hH (ci := 6) rfl i_SB 1 (by decide) kw_3_70 d_ASB_isLatin1_7 h (fun v_1 h => ?_)
    refine x_if_ne C0 17 d_ASB_isLatin1_10 (by decide) h (fun h => ?_) (fun h => ?_)
    · refine lv_iconst (v := 0) C0.1 C0.2.1 d_ASB_isLatin1_17 (by decide) ?_
      have h := Option.some.inj h
      subst h
      rw [hQ]
      exact x_zretP C0 hr hlocks hP0 rfl d_ASB_isLatin1_18
    · refine lv_iconst (v := 1) C0.1 C0.2.1 d_ASB_isLatin1_13 (by decide) ?_
      refine x_goto C0 18 d_ASB_isLatin1_14 (by decide) ?_
      have h := Option.some.inj h
      subst h
      rw [hQ]
      exact x_zretP C0 hr hlocks hP0 rfl d_ASB_isLatin1_18
theorem d_SL1_canEncode_0 : decode b_SL1_canEncode 0 = .ok (.iload_n 0, 1) := by decide +kernel
theorem d_SL1_canEncode_1 : decode b_SL1_canEncode 1 = .ok (.sipush 255, 3) := by decide +kernel
theorem d_SL1_canEncode_4 : decode b_SL1_canEncode 4 = .ok (.if_icmp .gt 7, 3) := by decide +kernel
theorem d_SL1_canEncode_7 : decode b_SL1_canEncode 7 = .ok (.iconst 1, 1) := by decide +kernel
theorem d_SL1_canEncode_8 : decode b_SL1_canEncode 8 = .ok (.goto 4, 3) := by decide +kernel
theorem d_SL1_canEncode_11 : decode b_SL1_canEncode 11 = .ok (.iconst 0, 1) := by decide +kernel
theorem d_SL1_canEncode_12 : decode b_SL1_canEncode 12 = .ok (.ireturn, 1) := by decide +kernel
def f_SL1_canEncode (w : Mp) (x0 : Int32) : Option (Int32) := if (255 : Int32) < x0 then (some (0 : Int32)) else (some (1 : Int32))
set_option maxHeartbeats 4000000 in
set_option maxRecDepth 100000 in
theorem c_SL1_canEncode (l : Launch) (G : Gx) (w : Mp) (sz : Nat) (x0 : Int32) (res : Int32) (hf : f_SL1_canEncode w x0 = some res) : Met l y_SL1_canEncode (xws y_SL1_canEncode b_SL1_canEncode 1 (some .boolean)) { frames := 0, cells := 0, slots := 0, locals := 0 } (xPc G vwCl xaty w sz [.int x0]) (qP (some (.int res))) (0) (0) (fun _ => False) := by
  refine Met.ofW (cc := b_SL1_canEncode) (maxL := 1) (ret := (some .boolean)) (by decide) rfl ?_
  intro p e s m args below meth c s₁ B hml hv
  obtain ⟨ha, hE, hH, hz⟩ := hv
  have C0 : CallFix p m c b_SL1_canEncode 1 s args wA R_SL1 := ⟨B.exec, B.bytes, hml, findClass_of_methodNamed B.named, fun w hw => atoms_spec (ws := xws y_SL1_canEncode b_SL1_canEncode 1 (some .boolean)) B.pre w (List.mem_cons_of_mem _ hw)⟩
  have hr := B.returns
  have hlocks := B.notSynchronized
  obtain ⟨R, hR⟩ : ∃ R, R = (headSpec (xws y_SL1_canEncode b_SL1_canEncode 1 (some .boolean)) { frames := 0, cells := 0, slots := 0, locals := 0 }).room := ⟨_, rfl⟩
  have hR1 : 0 ≤ R.frames := by rw [hR]; exact Nat.le_of_ble_eq_true rfl
  have hR2 : 0 ≤ R.locals := by rw [hR]; exact Nat.le_of_ble_eq_true rfl
  have hR3 : 0 ≤ R.cells := by rw [hR]; exact Nat.le_refl _
  have hR4 : 0 ≤ R.slots := by rw [hR]; exact Nat.le_refl _
  rw [← hR]
  obtain ⟨Q, hQ⟩ : ∃ Q, Q = MQ below (qP (some (.int res))) args s (0) (0) (fun _ => False) := ⟨_, rfl⟩
  rw [← hQ]
  have hS : xS G s s.heap [] := va_S.rf
  obtain ⟨ls, he, hl⟩ := x_entry m [.inl x0] 1 (Nat.le_of_ble_eq_true rfl)
  rw [show entryFrame m args 1 = F0 m 0 ls [] by rw [ha]; exact he]
  have hl : xL ls 1 [(0, .inl x0)] := hl
  have h := hf
  unfold f_SL1_canEncode at h
  suffices hmain : ∀ (H : Heap) (locs : List Loc), xhd G vwCl w H → xS G s H locs → H.size = sz → (H = s.heap ∧ locs = []) → W p l e R s m args below meth c H locs 0 0 Q (F0 m 0 ls []) from hmain _ _ hH hS hz ⟨rfl, rfl⟩
  clear hH hS hz
  intro H locs hH hS hz hP0
  refine x_iload_n C0 hl 0 d_SL1_canEncode_0 rfl rfl ?_
  refine lv_sipush (v := 255) C0.1 C0.2.1 d_SL1_canEncode_1 (by decide) ?_
  refine x_icmp_gt C0 11 d_SL1_canEncode_4 (by decide) h (fun h => ?_) (fun h => ?_)
  · refine lv_iconst (v := 0) C0.1 C0.2.1 d_SL1_canEncode_11 (by decide) ?_
    have h := Option.some.inj h
    subst h
    rw [hQ]
    exact x_zretP C0 hr hlocks hP0 rfl d_SL1_canEncode_12
  · refine lv_iconst (v := 1) C0.1 C0.2.1 d_SL1_canEncode_7 (by decide) ?_
    refine x_goto C0 12 d_SL1_canEncode_8 (by decide) ?_
    have h := Option.some.inj h
    subst h
    rw [hQ]
    exact x_zretP C0 hr hlocks hP0 rfl d_SL1_canEncode_12
theorem d_ASB_append0_0 : decode b_ASB_append0 0 = .ok (.aload_n 0, 1) := by decide +kernel
theorem d_ASB_append0_1 : decode b_ASB_append0 1 = .ok (.aload_n 0, 1) := by decide +kernel
theorem d_ASB_append0_2 : decode b_ASB_append0 2 = .ok (.getfield 79, 3) := by decide +kernel
theorem d_ASB_append0_5 : decode b_ASB_append0 5 = .ok (.iconst 1, 1) := by decide +kernel
theorem d_ASB_append0_6 : decode b_ASB_append0 6 = .ok (.iadd, 1) := by decide +kernel
theorem d_ASB_append0_7 : decode b_ASB_append0 7 = .ok (.invokevirtual 100, 3) := by decide +kernel
theorem d_ASB_append0_10 : decode b_ASB_append0 10 = .ok (.aload_n 0, 1) := by decide +kernel
theorem d_ASB_append0_11 : decode b_ASB_append0 11 = .ok (.invokevirtual 83, 3) := by decide +kernel
theorem d_ASB_append0_14 : decode b_ASB_append0 14 = .ok (.ifCond .eq 31, 3) := by decide +kernel
theorem d_ASB_append0_17 : decode b_ASB_append0 17 = .ok (.iload_n 1, 1) := by decide +kernel
theorem d_ASB_append0_18 : decode b_ASB_append0 18 = .ok (.invokestatic 191, 3) := by decide +kernel
theorem d_ASB_append0_21 : decode b_ASB_append0 21 = .ok (.ifCond .eq 24, 3) := by decide +kernel
theorem d_ASB_append0_24 : decode b_ASB_append0 24 = .ok (.aload_n 0, 1) := by decide +kernel
theorem d_ASB_append0_25 : decode b_ASB_append0 25 = .ok (.getfield 15, 3) := by decide +kernel
theorem d_ASB_append0_28 : decode b_ASB_append0 28 = .ok (.aload_n 0, 1) := by decide +kernel
theorem d_ASB_append0_29 : decode b_ASB_append0 29 = .ok (.dup, 1) := by decide +kernel
theorem d_ASB_append0_30 : decode b_ASB_append0 30 = .ok (.getfield 79, 3) := by decide +kernel
theorem d_ASB_append0_33 : decode b_ASB_append0 33 = .ok (.dup_x1, 1) := by decide +kernel
theorem d_ASB_append0_34 : decode b_ASB_append0 34 = .ok (.iconst 1, 1) := by decide +kernel
theorem d_ASB_append0_35 : decode b_ASB_append0 35 = .ok (.iadd, 1) := by decide +kernel
theorem d_ASB_append0_36 : decode b_ASB_append0 36 = .ok (.putfield 79, 3) := by decide +kernel
theorem d_ASB_append0_39 : decode b_ASB_append0 39 = .ok (.iload_n 1, 1) := by decide +kernel
theorem d_ASB_append0_40 : decode b_ASB_append0 40 = .ok (.i2b, 1) := by decide +kernel
theorem d_ASB_append0_41 : decode b_ASB_append0 41 = .ok (.bastore, 1) := by decide +kernel
theorem d_ASB_append0_42 : decode b_ASB_append0 42 = .ok (.goto 33, 3) := by decide +kernel
theorem d_ASB_append0_45 : decode b_ASB_append0 45 = .ok (.aload_n 0, 1) := by decide +kernel
theorem d_ASB_append0_46 : decode b_ASB_append0 46 = .ok (.invokevirtual 83, 3) := by decide +kernel
theorem d_ASB_append0_49 : decode b_ASB_append0 49 = .ok (.ifCond .eq 7, 3) := by decide +kernel
theorem d_ASB_append0_52 : decode b_ASB_append0 52 = .ok (.aload_n 0, 1) := by decide +kernel
theorem d_ASB_append0_53 : decode b_ASB_append0 53 = .ok (.invokevirtual 195, 3) := by decide +kernel
theorem d_ASB_append0_56 : decode b_ASB_append0 56 = .ok (.aload_n 0, 1) := by decide +kernel
theorem d_ASB_append0_57 : decode b_ASB_append0 57 = .ok (.getfield 15, 3) := by decide +kernel
theorem d_ASB_append0_60 : decode b_ASB_append0 60 = .ok (.aload_n 0, 1) := by decide +kernel
theorem d_ASB_append0_61 : decode b_ASB_append0 61 = .ok (.dup, 1) := by decide +kernel
theorem d_ASB_append0_62 : decode b_ASB_append0 62 = .ok (.getfield 79, 3) := by decide +kernel
theorem d_ASB_append0_65 : decode b_ASB_append0 65 = .ok (.dup_x1, 1) := by decide +kernel
theorem d_ASB_append0_66 : decode b_ASB_append0 66 = .ok (.iconst 1, 1) := by decide +kernel
theorem d_ASB_append0_67 : decode b_ASB_append0 67 = .ok (.iadd, 1) := by decide +kernel
theorem d_ASB_append0_68 : decode b_ASB_append0 68 = .ok (.putfield 79, 3) := by decide +kernel
theorem d_ASB_append0_71 : decode b_ASB_append0 71 = .ok (.iload_n 1, 1) := by decide +kernel
theorem d_ASB_append0_72 : decode b_ASB_append0 72 = .ok (.invokestatic 197, 3) := by decide +kernel
theorem d_ASB_append0_75 : decode b_ASB_append0 75 = .ok (.aload_n 0, 1) := by decide +kernel
theorem d_ASB_append0_76 : decode b_ASB_append0 76 = .ok (.areturn, 1) := by decide +kernel
def f_ASB_append0 (w : Mp) (h0 : Nat) (x1 : Int32) : Option (Option Nat × Mp) := (gI w (some h0) 6 3).bind fun v_1 => (xo w (some h0) 6).bind fun b_3 => (f_ASB_ensureCapacityInternal w b_3 (v_1 + (1 : Int32))).bind fun q_2 => (xo w (some h0) 6).bind fun b_5 => (f_ASB_isLatin1 w b_5).bind fun q_4 => if q_4 = 0 then ((xo w (some h0) 6).bind fun b_7 => (f_ASB_isLatin1 w b_7).bind fun q_6 => if q_6 = 0 then ((gR w (some h0) 6 0).bind fun v_8 => (gI w (some h0) 6 3).bind fun v_9 => (pF w (some h0) 6 3 (.int (v_9 + (1 : Int32)))).bind fun w_10 => none) else (none)) else ((f_SL1_canEncode w x1).bind fun q_11 => if q_11 = 0 then ((xo w (some h0) 6).bind fun b_13 => (f_ASB_isLatin1 w b_13).bind fun q_12 => if q_12 = 0 then ((gR w (some h0) 6 0).bind fun v_14 => (gI w (some h0) 6 3).bind fun v_15 => (pF w (some h0) 6 3 (.int (v_15 + (1 : Int32)))).bind fun w_16 => none) else (none)) else ((gR w (some h0) 6 0).bind fun v_17 => (gI w (some h0) 6 3).bind fun v_18 => (pF w (some h0) 6 3 (.int (v_18 + (1 : Int32)))).bind fun w_19 => (sI w_19 v_17 6 v_18 (vp_nar .byte x1.toInt8.toInt32)).bind fun w_20 => some ((some h0), w_20)))
set_option maxHeartbeats 4000000 in
set_option maxRecDepth 100000 in
theorem c_ASB_append0 (l : Launch) (G : Gx) (w : Mp) (sz : Nat) (h0 : Nat) (x1 : Int32) (res : Option Nat × Mp) (hf : f_ASB_append0 w h0 x1 = some res) : Met l y_ASB_append0 (xws y_ASB_append0 b_ASB_append0 2 (some (.object "java/lang/AbstractStringBuilder"))) { frames := 1, cells := 0, slots := 0, locals := 22 } (xPc G vwCl xaty w sz [va_rf (some h0), .int x1]) (xQ G vwCl (some (va_rf res.1)) res.2 sz) (0) (0) (xA G) := by
  refine Met.ofW (cc := b_ASB_append0) (maxL := 2) (ret := (some (.object "java/lang/AbstractStringBuilder"))) (by decide) rfl ?_
  intro p e s m args below meth c s₁ B hml hv
  obtain ⟨ha, hE, hH, hz⟩ := hv
  have C0 : CallFix p m c b_ASB_append0 2 s args wA R_ASB := ⟨B.exec, B.bytes, hml, findClass_of_methodNamed B.named, fun w hw => atoms_spec (ws := xws y_ASB_append0 b_ASB_append0 2 (some (.object "java/lang/AbstractStringBuilder"))) B.pre w (List.mem_cons_of_mem _ hw)⟩
  have hr := B.returns
  have hlocks := B.notSynchronized
  obtain ⟨R, hR⟩ : ∃ R, R = (headSpec (xws y_ASB_append0 b_ASB_append0 2 (some (.object "java/lang/AbstractStringBuilder"))) { frames := 1, cells := 0, slots := 0, locals := 22 }).room := ⟨_, rfl⟩
  have hR1 : 1 ≤ R.frames := by rw [hR]; exact Nat.le_of_ble_eq_true rfl
  have hR2 : 22 ≤ R.locals := by rw [hR]; exact Nat.le_of_ble_eq_true rfl
  have hR3 : 0 ≤ R.cells := by rw [hR]; exact Nat.le_refl _
  have hR4 : 0 ≤ R.slots := by rw [hR]; exact Nat.le_refl _
  rw [← hR]
  obtain ⟨Q, hQ⟩ : ∃ Q, Q = MQ below (xQ G vwCl (some (va_rf res.1)) res.2 sz) args s (0) (0) (xA G) := ⟨_, rfl⟩
  rw [← hQ]
  have hS : xS G s s.heap [] := va_S.rf
  obtain ⟨ls, he, hl⟩ := x_entry m [.inr (.inl (some h0)), .inl x1] 2 (Nat.le_of_ble_eq_true rfl)
  rw [show entryFrame m args 2 = F0 m 0 ls [] by rw [ha]; exact he]
  have hl : xL ls 2 [(0, .inr (.inl (some h0))), (1, .inl x1)] := hl
  have h := hf
  unfold f_ASB_append0 at h
  suffices hmain : ∀ (H : Heap) (locs : List Loc), xhd G vwCl w H → xS G s H locs → H.size = sz → (H = s.heap ∧ locs = []) → W p l e R s m args below meth c H locs 0 0 Q (F0 m 0 ls []) from hmain _ _ hH hS hz ⟨rfl, rfl⟩
  clear hH hS hz
  intro H locs hH hS hz hP0
  refine x_aload_n C0 hl 0 d_ASB_append0_0 rfl rfl ?_
  refine x_aload_n C0 hl 0 d_ASB_append0_1 rfl rfl ?_
  refine x_getI C0 hE hH (ci := 6) rfl i_SB 3 (by decide) kw_3_71 d_ASB_append0_2 h (fun v_1 h => ?_)
  refine lv_iconst (v := 1) C0.1 C0.2.1 d_ASB_append0_5 (by decide) ?_
  refine lv_iadd C0.1 C0.2.1 d_ASB_append0_6 ?_
  obtain ⟨b_3, e9, h⟩ := Option.bind_eq_some_iff.mp h
  obtain ⟨e8, fs9, hb9⟩ := xo_inv e9
  obtain ⟨q_2, e9, h⟩ := Option.bind_eq_some_iff.mp h
  refine x_callP (va_runV (As := [.int (v_1 + (1 : Int32))]) (rest := []) C0 (c_ASB_ensureCapacityInternal l G w _ b_3 (v_1 + (1 : Int32)) q_2 e9) (x_cwVP (C := "java/lang/StringBuilder") 1 C0 kw_3_88 kw_3_91 kw_1_14 kw_3_90 (va_Nw.use rfl hE.2.1.2.2.2.2.2.2.2) (by decide +kernel) (x_rm hR1 hR2 (Nat.le_of_ble_eq_true rfl) (Nat.le_of_ble_eq_true rfl))) (x_preV hE hH hS (ci := 6) rfl hb9) rfl rfl hl.1 (by rw [e8]; rfl) (lv_room (by first | exact Nat.le_of_ble_eq_true rfl | simp only [List.map_cons, List.map_nil, List.sum_cons, List.sum_nil, va_rf_cat, x_catI, x_catL, x_catA] <;> decide)) d_ASB_append0_7 (x_le0 hR3 hR4)) ?_
  refine x_aload_n C0 hl 0 d_ASB_append0_10 rfl rfl ?_
  obtain ⟨b_5, e9, h⟩ := Option.bind_eq_some_iff.mp h
  obtain ⟨e8, fs9, hb9⟩ := xo_inv e9
  obtain ⟨q_4, e9, h⟩ := Option.bind_eq_some_iff.mp h
  refine x_callP (va_runV (As := []) (rest := []) C0 (c_ASB_isLatin1 l G w _ b_5 q_4 e9) (x_cwV 0 C0 kw_3_119 kw_3_123 kw_1_14 kw_3_120 kw_3_122 (by decide +kernel) (x_rm hR1 hR2 (Nat.le_of_ble_eq_true rfl) (Nat.le_of_ble_eq_true rfl))) (x_preV hE hH hS (ci := 6) rfl hb9) rfl rfl hl.1 (by rw [e8]; rfl) (lv_room (by first | exact Nat.le_of_ble_eq_true rfl | simp only [List.map_cons, List.map_nil, List.sum_cons, List.sum_nil, va_rf_cat, x_catI, x_catL, x_catA] <;> decide)) d_ASB_append0_11 (x_le0 hR3 hR4)) ?_
  refine x_if_eq C0 45 d_ASB_append0_14 (by decide) h (fun h => ?_) (fun h => ?_)
  · refine x_aload_n C0 hl 0 d_ASB_append0_45 rfl rfl ?_
    obtain ⟨b_7, e9, h⟩ := Option.bind_eq_some_iff.mp h
    obtain ⟨e8, fs9, hb9⟩ := xo_inv e9
    obtain ⟨q_6, e9, h⟩ := Option.bind_eq_some_iff.mp h
    refine x_callP (va_runV (As := []) (rest := []) C0 (c_ASB_isLatin1 l G w _ b_7 q_6 e9) (x_cwV 0 C0 kw_3_119 kw_3_123 kw_1_14 kw_3_120 kw_3_122 (by decide +kernel) (x_rm hR1 hR2 (Nat.le_of_ble_eq_true rfl) (Nat.le_of_ble_eq_true rfl))) (x_preV hE hH hS (ci := 6) rfl hb9) rfl rfl hl.1 (by rw [e8]; rfl) (lv_room (by first | exact Nat.le_of_ble_eq_true rfl | simp only [List.map_cons, List.map_nil, List.sum_cons, List.sum_nil, va_rf_cat, x_catI, x_catL, x_catA] <;> decide)) d_ASB_append0_46 (x_le0 hR3 hR4)) ?_
    refine x_if_eq C0 56 d_ASB_append0_49 (by decide) h (fun h => ?_) (fun h => ?_)
    · refine x_aload_n C0 hl 0 d_ASB_append0_56 rfl rfl ?_
      refine x_getR C0 hE hH (ci := 6) rfl i_SB 0 (by decide) kw_3_69 d_ASB_append0_57 h (fun v_8 h => ?_)
      refine x_aload_n C0 hl 0 d_ASB_append0_60 rfl rfl ?_
      refine lv_dup C0.1 C0.2.1 d_ASB_append0_61 (va_rf_cat _) ?_
      refine x_getI C0 hE hH (ci := 6) rfl i_SB 3 (by decide) kw_3_71 d_ASB_append0_62 h (fun v_9 h => ?_)
      refine lv_dup_x1 C0.1 C0.2.1 d_ASB_append0_65 rfl (va_rf_cat _) ?_
      refine lv_iconst (v := 1) C0.1 C0.2.1 d_ASB_append0_66 (by decide) ?_
      refine lv_iadd C0.1 C0.2.1 d_ASB_append0_67 ?_
      refine x_put C0 hE hH hS (ci := 6) rfl i_SB t_SB t_SB_ok n_SB 3 (by decide) kw_3_71 rfl rfl rfl d_ASB_append0_68 h (fun w_10 H locs hH hS hz9 h => ?_)
      have hz := hz9.trans hz
      refine x_iload_n C0 hl 1 d_ASB_append0_71 rfl rfl ?_
      cases h
    · refine x_aload_n C0 hl 0 d_ASB_append0_52 rfl rfl ?_
      cases h
  · refine x_iload_n C0 hl 1 d_ASB_append0_17 rfl rfl ?_
    obtain ⟨q_11, e9, h⟩ := Option.bind_eq_some_iff.mp h
    refine x_callP (va_runS (As := [.int x1]) (rest := []) C0 (c_SL1_canEncode l G w _ x1 q_11 e9) (x_cwS 1 C0 kw_3_124 kw_3_126 kw_1_21 kw_3_125 (by decide +kernel) (x_rm hR1 hR2 (Nat.le_of_ble_eq_true rfl) (Nat.le_of_ble_eq_true rfl))) (x_preS hE hH hS) rfl rfl hl.1 rfl (lv_room (by first | exact Nat.le_of_ble_eq_true rfl | simp only [List.map_cons, List.map_nil, List.sum_cons, List.sum_nil, va_rf_cat, x_catI, x_catL, x_catA] <;> decide)) d_ASB_append0_18 (x_le0 hR3 hR4)) ?_
    refine x_if_eq C0 45 d_ASB_append0_21 (by decide) h (fun h => ?_) (fun h => ?_)
    · refine x_aload_n C0 hl 0 d_ASB_append0_45 rfl rfl ?_
      obtain ⟨b_13, e9, h⟩ := Option.bind_eq_some_iff.mp h
      obtain ⟨e8, fs9, hb9⟩ := xo_inv e9
      obtain ⟨q_12, e9, h⟩ := Option.bind_eq_some_iff.mp h
      refine x_callP (va_runV (As := []) (rest := []) C0 (c_ASB_isLatin1 l G w _ b_13 q_12 e9) (x_cwV 0 C0 kw_3_119 kw_3_123 kw_1_14 kw_3_120 kw_3_122 (by decide +kernel) (x_rm hR1 hR2 (Nat.le_of_ble_eq_true rfl) (Nat.le_of_ble_eq_true rfl))) (x_preV hE hH hS (ci := 6) rfl hb9) rfl rfl hl.1 (by rw [e8]; rfl) (lv_room (by first | exact Nat.le_of_ble_eq_true rfl | simp only [List.map_cons, List.map_nil, List.sum_cons, List.sum_nil, va_rf_cat, x_catI, x_catL, x_catA] <;> decide)) d_ASB_append0_46 (x_le0 hR3 hR4)) ?_
      refine x_if_eq C0 56 d_ASB_append0_49 (by decide) h (fun h => ?_) (fun h => ?_)
      · refine x_aload_n C0 hl 0 d_ASB_append0_56 rfl rfl ?_
        refine x_getR C0 hE hH (ci := 6) rfl i_SB 0 (by decide) kw_3_69 d_ASB_append0_57 h (fun v_14 h => ?_)
        refine x_aload_n C0 hl 0 d_ASB_append0_60 rfl rfl ?_
        refine lv_dup C0.1 C0.2.1 d_ASB_append0_61 (va_rf_cat _) ?_
        refine x_getI C0 hE hH (ci := 6) rfl i_SB 3 (by decide) kw_3_71 d_ASB_append0_62 h (fun v_15 h => ?_)
        refine lv_dup_x1 C0.1 C0.2.1 d_ASB_append0_65 rfl (va_rf_cat _) ?_
        refine lv_iconst (v := 1) C0.1 C0.2.1 d_ASB_append0_66 (by decide) ?_
        refine lv_iadd C0.1 C0.2.1 d_ASB_append0_67 ?_
        refine x_put C0 hE hH hS (ci := 6) rfl i_SB t_SB t_SB_ok n_SB 3 (by decide) kw_3_71 rfl rfl rfl d_ASB_append0_68 h (fun w_16 H locs hH hS hz9 h => ?_)
        have hz := hz9.trans hz
        refine x_iload_n C0 hl 1 d_ASB_append0_71 rfl rfl ?_
        cases h
      · refine x_aload_n C0 hl 0 d_ASB_append0_52 rfl rfl ?_
        cases h
    · refine x_aload_n C0 hl 0 d_ASB_append0_24 rfl rfl ?_
      refine x_getR C0 hE hH (ci := 6) rfl i_SB 0 (by decide) kw_3_69 d_ASB_append0_25 h (fun v_17 h => ?_)
      refine x_aload_n C0 hl 0 d_ASB_append0_28 rfl rfl ?_
      refine lv_dup C0.1 C0.2.1 d_ASB_append0_29 (va_rf_cat _) ?_
      refine x_getI C0 hE hH (ci := 6) rfl i_SB 3 (by decide) kw_3_71 d_ASB_append0_30 h (fun v_18 h => ?_)
      refine lv_dup_x1 C0.1 C0.2.1 d_ASB_append0_33 rfl (va_rf_cat _) ?_
      refine lv_iconst (v := 1) C0.1 C0.2.1 d_ASB_append0_34 (by decide) ?_
      refine lv_iadd C0.1 C0.2.1 d_ASB_append0_35 ?_
      refine x_put C0 hE hH hS (ci := 6) rfl i_SB t_SB t_SB_ok n_SB 3 (by decide) kw_3_71 rfl rfl rfl d_ASB_append0_36 h (fun w_19 H locs hH hS hz9 h => ?_)
      have hz := hz9.trans hz
      refine x_iload_n C0 hl 1 d_ASB_append0_39 rfl rfl ?_
      refine lv_i2b C0.1 C0.2.1 d_ASB_append0_40 rfl ?_
      refine x_bast C0 hE hH hS (t := 6) rfl d_ASB_append0_41 h (fun w_20 H locs hH hS hz9 h => ?_)
      have hz := hz9.trans hz
      refine x_goto C0 75 d_ASB_append0_42 (by decide) ?_
      refine x_aload_n C0 hl 0 d_ASB_append0_75 rfl rfl ?_
      have h := Option.some.inj h
      subst h
      rw [hQ]
      exact x_aret C0 hr (Or.inl ⟨_, rfl⟩) hlocks hH hS hz d_ASB_append0_76
theorem d_SB_append0_0 : decode b_SB_append0 0 = .ok (.aload_n 0, 1) := by decide +kernel
theorem d_SB_append0_1 : decode b_SB_append0 1 = .ok (.iload_n 1, 1) := by decide +kernel
theorem d_SB_append0_2 : decode b_SB_append0 2 = .ok (.invokespecial 50, 3) := by decide +kernel
theorem d_SB_append0_5 : decode b_SB_append0 5 = .ok (.pop, 1) := by decide +kernel
theorem d_SB_append0_6 : decode b_SB_append0 6 = .ok (.aload_n 0, 1) := by decide +kernel
theorem d_SB_append0_7 : decode b_SB_append0 7 = .ok (.areturn, 1) := by decide +kernel
def f_SB_append0 (w : Mp) (h0 : Nat) (x1 : Int32) : Option (Option Nat × Mp) := (xo w (some h0) 6).bind fun b_2 => (f_ASB_append0 w b_2 x1).bind fun q_1 => some ((some h0), q_1.2)
set_option maxHeartbeats 4000000 in
set_option maxRecDepth 100000 in
theorem c_SB_append0 (l : Launch) (G : Gx) (w : Mp) (sz : Nat) (h0 : Nat) (x1 : Int32) (res : Option Nat × Mp) (hf : f_SB_append0 w h0 x1 = some res) : Met l y_SB_append0 (xws y_SB_append0 b_SB_append0 2 (some (.object "java/lang/StringBuilder"))) { frames := 2, cells := 0, slots := 0, locals := 43 } (xPc G vwCl xaty w sz [va_rf (some h0), .int x1]) (xQ G vwCl (some (va_rf res.1)) res.2 sz) (0) (0) (xA G) := by
  refine Met.ofW (cc := b_SB_append0) (maxL := 2) (ret := (some (.object "java/lang/StringBuilder"))) (by decide) rfl ?_
  intro p e s m args below meth c s₁ B hml hv
  obtain ⟨ha, hE, hH, hz⟩ := hv
  have C0 : CallFix p m c b_SB_append0 2 s args wA R_SB := ⟨B.exec, B.bytes, hml, findClass_of_methodNamed B.named, fun w hw => atoms_spec (ws := xws y_SB_append0 b_SB_append0 2 (some (.object "java/lang/StringBuilder"))) B.pre w (List.mem_cons_of_mem _ hw)⟩
  have hr := B.returns
  have hlocks := B.notSynchronized
  obtain ⟨R, hR⟩ : ∃ R, R = (headSpec (xws y_SB_append0 b_SB_append0 2 (some (.object "java/lang/StringBuilder"))) { frames := 2, cells := 0, slots := 0, locals := 43 }).room := ⟨_, rfl⟩
  have hR1 : 2 ≤ R.frames := by rw [hR]; exact Nat.le_of_ble_eq_true rfl
  have hR2 : 43 ≤ R.locals := by rw [hR]; exact Nat.le_of_ble_eq_true rfl
  have hR3 : 0 ≤ R.cells := by rw [hR]; exact Nat.le_refl _
  have hR4 : 0 ≤ R.slots := by rw [hR]; exact Nat.le_refl _
  rw [← hR]
  obtain ⟨Q, hQ⟩ : ∃ Q, Q = MQ below (xQ G vwCl (some (va_rf res.1)) res.2 sz) args s (0) (0) (xA G) := ⟨_, rfl⟩
  rw [← hQ]
  have hS : xS G s s.heap [] := va_S.rf
  obtain ⟨ls, he, hl⟩ := x_entry m [.inr (.inl (some h0)), .inl x1] 2 (Nat.le_of_ble_eq_true rfl)
  rw [show entryFrame m args 2 = F0 m 0 ls [] by rw [ha]; exact he]
  have hl : xL ls 2 [(0, .inr (.inl (some h0))), (1, .inl x1)] := hl
  have h := hf
  unfold f_SB_append0 at h
  suffices hmain : ∀ (H : Heap) (locs : List Loc), xhd G vwCl w H → xS G s H locs → H.size = sz → (H = s.heap ∧ locs = []) → W p l e R s m args below meth c H locs 0 0 Q (F0 m 0 ls []) from hmain _ _ hH hS hz ⟨rfl, rfl⟩
  clear hH hS hz
  intro H locs hH hS hz hP0
  refine x_aload_n C0 hl 0 d_SB_append0_0 rfl rfl ?_
  refine x_iload_n C0 hl 1 d_SB_append0_1 rfl rfl ?_
  obtain ⟨b_2, e9, h⟩ := Option.bind_eq_some_iff.mp h
  obtain ⟨e8, fs9, hb9⟩ := xo_inv e9
  obtain ⟨q_1, e9, h⟩ := Option.bind_eq_some_iff.mp h
  obtain ⟨cC9, hat9⟩ := x_clat hE
  refine x_call0 hS (va_runSU hat9 (As := [.int x1]) (rest := []) C0 (c_ASB_append0 l G w _ b_2 x1 q_1 e9) (x_cwSU 1 C0 kw_3_85 kw_5_74 kw_3_80 kw_3_86 kw_1_14 kw_3_87 (by decide +kernel) (x_rm hR1 hR2 (Nat.le_of_ble_eq_true rfl) (Nat.le_of_ble_eq_true rfl))) (x_preV hE hH hS (ci := 6) rfl hb9) rfl rfl hl.1 (by rw [e8]; rfl) (lv_room (by first | exact Nat.le_of_ble_eq_true rfl | simp only [List.map_cons, List.map_nil, List.sum_cons, List.sum_nil, va_rf_cat, x_catI, x_catL, x_catA] <;> decide)) d_SB_append0_2 (x_le0 hR3 hR4)) (fun H locs hH hS hz9 => ?_)
  have hz := hz9.trans hz
  refine lv_pop C0.1 C0.2.1 d_SB_append0_5 (va_rf_cat _) ?_
  refine x_aload_n C0 hl 0 d_SB_append0_6 rfl rfl ?_
  have h := Option.some.inj h
  subst h
  rw [hQ]
  exact x_aret C0 hr (Or.inl ⟨_, rfl⟩) hlocks hH hS hz d_SB_append0_7
theorem d_Int_stringSize_0 : decode b_Int_stringSize 0 = .ok (.iconst 1, 1) := by decide +kernel
theorem d_Int_stringSize_1 : decode b_Int_stringSize 1 = .ok (.istore_n 1, 1) := by decide +kernel
theorem d_Int_stringSize_2 : decode b_Int_stringSize 2 = .ok (.iload_n 0, 1) := by decide +kernel
theorem d_Int_stringSize_3 : decode b_Int_stringSize 3 = .ok (.ifCond .lt 8, 3) := by decide +kernel
theorem d_Int_stringSize_6 : decode b_Int_stringSize 6 = .ok (.iconst 0, 1) := by decide +kernel
theorem d_Int_stringSize_7 : decode b_Int_stringSize 7 = .ok (.istore_n 1, 1) := by decide +kernel
theorem d_Int_stringSize_8 : decode b_Int_stringSize 8 = .ok (.iload_n 0, 1) := by decide +kernel
theorem d_Int_stringSize_9 : decode b_Int_stringSize 9 = .ok (.ineg, 1) := by decide +kernel
theorem d_Int_stringSize_10 : decode b_Int_stringSize 10 = .ok (.istore_n 0, 1) := by decide +kernel
theorem d_Int_stringSize_11 : decode b_Int_stringSize 11 = .ok (.bipush (-10), 2) := by decide +kernel
theorem d_Int_stringSize_13 : decode b_Int_stringSize 13 = .ok (.istore_n 2, 1) := by decide +kernel
theorem d_Int_stringSize_14 : decode b_Int_stringSize 14 = .ok (.iconst 1, 1) := by decide +kernel
theorem d_Int_stringSize_15 : decode b_Int_stringSize 15 = .ok (.istore_n 3, 1) := by decide +kernel
theorem d_Int_stringSize_16 : decode b_Int_stringSize 16 = .ok (.iload_n 3, 1) := by decide +kernel
theorem d_Int_stringSize_17 : decode b_Int_stringSize 17 = .ok (.bipush 10, 2) := by decide +kernel
theorem d_Int_stringSize_19 : decode b_Int_stringSize 19 = .ok (.if_icmp .ge 23, 3) := by decide +kernel
theorem d_Int_stringSize_22 : decode b_Int_stringSize 22 = .ok (.iload_n 0, 1) := by decide +kernel
theorem d_Int_stringSize_23 : decode b_Int_stringSize 23 = .ok (.iload_n 2, 1) := by decide +kernel
theorem d_Int_stringSize_24 : decode b_Int_stringSize 24 = .ok (.if_icmp .le 7, 3) := by decide +kernel
theorem d_Int_stringSize_27 : decode b_Int_stringSize 27 = .ok (.iload_n 3, 1) := by decide +kernel
theorem d_Int_stringSize_28 : decode b_Int_stringSize 28 = .ok (.iload_n 1, 1) := by decide +kernel
theorem d_Int_stringSize_29 : decode b_Int_stringSize 29 = .ok (.iadd, 1) := by decide +kernel
theorem d_Int_stringSize_30 : decode b_Int_stringSize 30 = .ok (.ireturn, 1) := by decide +kernel
theorem d_Int_stringSize_31 : decode b_Int_stringSize 31 = .ok (.bipush 10, 2) := by decide +kernel
theorem d_Int_stringSize_33 : decode b_Int_stringSize 33 = .ok (.iload_n 2, 1) := by decide +kernel
theorem d_Int_stringSize_34 : decode b_Int_stringSize 34 = .ok (.imul, 1) := by decide +kernel
theorem d_Int_stringSize_35 : decode b_Int_stringSize 35 = .ok (.istore_n 2, 1) := by decide +kernel
theorem d_Int_stringSize_36 : decode b_Int_stringSize 36 = .ok (.iinc 3 1, 3) := by decide +kernel
theorem d_Int_stringSize_39 : decode b_Int_stringSize 39 = .ok (.goto (-23), 3) := by decide +kernel
theorem d_Int_stringSize_42 : decode b_Int_stringSize 42 = .ok (.bipush 10, 2) := by decide +kernel
theorem d_Int_stringSize_44 : decode b_Int_stringSize 44 = .ok (.iload_n 1, 1) := by decide +kernel
theorem d_Int_stringSize_45 : decode b_Int_stringSize 45 = .ok (.iadd, 1) := by decide +kernel
theorem d_Int_stringSize_46 : decode b_Int_stringSize 46 = .ok (.ireturn, 1) := by decide +kernel
def f_Int_stringSize_L16 (w : Mp) (x0 : Int32) (x1 : Int32) : Nat → Int32 → Int32 → Option (Nat × Int32 × Int32)
  | 0, _, _ => none
  | n + 1, x2, x3 => if (10 : Int32) ≤ x3 then (some (0, x2, x3)) else (if x0 ≤ x2 then (f_Int_stringSize_L16 w x0 x1 n ((10 : Int32) * x2) (x3 + 1)) else (some (1, x2, x3)))
set_option maxHeartbeats 4000000 in
set_option maxRecDepth 100000 in
theorem w_Int_stringSize_L16 {p : Program} {l : Launch} {e : Env} {R : Room} {s : State} {m : MethodId} {args : Array Value} {below : List Frame} {meth : Method} {c : Code} {Q : State → Prop} {cells slots sz : Nat} {G : Gx} {x0 : Int32} {x1 : Int32} (C0 : CallFix p m c b_Int_stringSize 4 s args wA R_Int) (hE : xE G vwCl xaty s) (hR1 : 0 ≤ R.frames) (hR2 : 0 ≤ R.locals) (hR3 : cells ≤ R.cells) (hR4 : slots ≤ R.slots) {w : Mp} {H : Heap} {locs : List Loc} (hH : xhd G vwCl w H) (hS : xS G s H locs) (hz : H.size = sz) : ∀ (n : Nat) (x2 : Int32) (x3 : Int32) (q : Nat × Int32 × Int32) (ls : Array Slot), xL ls 4 [(0, .inl x0), (1, .inl x1), (2, .inl x2), (3, .inl x3)] → f_Int_stringSize_L16 w x0 x1 n x2 x3 = some q → ((q.1 = 0 → ∀ (ls : Array Slot), xL ls 4 [(0, .inl x0), (1, .inl x1), (2, .inl q.2.1), (3, .inl q.2.2)] → W p l e R s m args below meth c H locs cells slots Q (F0 m 42 ls [])) ∧ (q.1 = 1 → ∀ (ls : Array Slot), xL ls 4 [(0, .inl x0), (1, .inl x1), (2, .inl q.2.1), (3, .inl q.2.2)] → W p l e R s m args below meth c H locs cells slots Q (F0 m 27 ls []))) → W p l e R s m args below meth c H locs cells slots Q (F0 m 16 ls []) := by
  intro n
  induction n with
  | zero => intro _ _ q ls hl h; cases h
  | succ n ih =>
    intro x2 x3 q ls hl h K
    rw [f_Int_stringSize_L16] at h
    refine x_iload_n C0 hl 3 d_Int_stringSize_16 rfl rfl ?_
    refine lv_bipush (v := 10) C0.1 C0.2.1 d_Int_stringSize_17 (by decide) ?_
    refine x_icmp_ge C0 42 d_Int_stringSize_19 (by decide) h (fun h => ?_) (fun h => ?_)
    · cases h
      exact K.1 rfl ls (x_sub hl [0, 1, 2, 3] rfl)
    · refine x_iload_n C0 hl 0 d_Int_stringSize_22 rfl rfl ?_
      refine x_iload_n C0 hl 2 d_Int_stringSize_23 rfl rfl ?_
      refine x_icmp_le C0 31 d_Int_stringSize_24 (by decide) h (fun h => ?_) (fun h => ?_)
      · refine lv_bipush (v := 10) C0.1 C0.2.1 d_Int_stringSize_31 (by decide) ?_
        refine x_iload_n C0 hl 2 d_Int_stringSize_33 rfl rfl ?_
        refine lv_imul C0.1 C0.2.1 d_Int_stringSize_34 ?_
        refine x_istore_n (lv' := [(2, .inl ((10 : Int32) * x2)), (0, .inl x0), (1, .inl x1), (3, .inl x3)]) C0 hl d_Int_stringSize_35 rfl (by decide) rfl (fun ls hl => ?_)
        refine x_iinc (v := 1) (lv' := [(3, .inl (x3 + 1)), (2, .inl ((10 : Int32) * x2)), (0, .inl x0), (1, .inl x1)]) C0 hl 3 d_Int_stringSize_36 rfl (by decide) (by decide) rfl (fun ls hl => ?_)
        refine x_goto C0 16 d_Int_stringSize_39 (by decide) ?_
        exact ih _ _ q ls (x_sub hl [2, 3, 1, 0] rfl) h K
      · cases h
        exact K.2 rfl ls (x_sub hl [0, 1, 2, 3] rfl)
def f_Int_stringSize (w : Mp) (x0 : Int32) : Option (Int32) := xJ2 (fun (x_1 : Int32) (x_2 : Int32) => (f_Int_stringSize_L16 w x_1 x_2 100000 (-10 : Int32) (1 : Int32)).bind fun q_4 => if q_4.1 = 0 then (some ((10 : Int32) + x_2)) else (if q_4.1 = 1 then (some (q_4.2.2 + x_2)) else (none))) fun J_3 => if x0 < 0 then (J_3 x0 (1 : Int32)) else (J_3 (-x0) (0 : Int32))
set_option maxHeartbeats 4000000 in
set_option maxRecDepth 100000 in
theorem c_Int_stringSize (l : Launch) (G : Gx) (w : Mp) (sz : Nat) (x0 : Int32) (res : Int32) (hf : f_Int_stringSize w x0 = some res) : Met l y_Int_stringSize (xws y_Int_stringSize b_Int_stringSize 4 (some .int)) { frames := 0, cells := 0, slots := 0, locals := 0 } (xPc G vwCl xaty w sz [.int x0]) (qP (some (.int res))) (0) (0) (fun _ => False) := by
  refine Met.ofW (cc := b_Int_stringSize) (maxL := 4) (ret := (some .int)) (by decide) rfl ?_
  intro p e s m args below meth c s₁ B hml hv
  obtain ⟨ha, hE, hH, hz⟩ := hv
  have C0 : CallFix p m c b_Int_stringSize 4 s args wA R_Int := ⟨B.exec, B.bytes, hml, findClass_of_methodNamed B.named, fun w hw => atoms_spec (ws := xws y_Int_stringSize b_Int_stringSize 4 (some .int)) B.pre w (List.mem_cons_of_mem _ hw)⟩
  have hr := B.returns
  have hlocks := B.notSynchronized
  obtain ⟨R, hR⟩ : ∃ R, R = (headSpec (xws y_Int_stringSize b_Int_stringSize 4 (some .int)) { frames := 0, cells := 0, slots := 0, locals := 0 }).room := ⟨_, rfl⟩
  have hR1 : 0 ≤ R.frames := by rw [hR]; exact Nat.le_of_ble_eq_true rfl
  have hR2 : 0 ≤ R.locals := by rw [hR]; exact Nat.le_of_ble_eq_true rfl
  have hR3 : 0 ≤ R.cells := by rw [hR]; exact Nat.le_refl _
  have hR4 : 0 ≤ R.slots := by rw [hR]; exact Nat.le_refl _
  rw [← hR]
  obtain ⟨Q, hQ⟩ : ∃ Q, Q = MQ below (qP (some (.int res))) args s (0) (0) (fun _ => False) := ⟨_, rfl⟩
  rw [← hQ]
  have hS : xS G s s.heap [] := va_S.rf
  obtain ⟨ls, he, hl⟩ := x_entry m [.inl x0] 4 (Nat.le_of_ble_eq_true rfl)
  rw [show entryFrame m args 4 = F0 m 0 ls [] by rw [ha]; exact he]
  have hl : xL ls 4 [(0, .inl x0)] := hl
  have h := hf
  unfold f_Int_stringSize at h
  suffices hmain : ∀ (H : Heap) (locs : List Loc), xhd G vwCl w H → xS G s H locs → H.size = sz → (H = s.heap ∧ locs = []) → W p l e R s m args below meth c H locs 0 0 Q (F0 m 0 ls []) from hmain _ _ hH hS hz ⟨rfl, rfl⟩
  clear hH hS hz
  intro H locs hH hS hz hP0
  refine lv_iconst (v := 1) C0.1 C0.2.1 d_Int_stringSize_0 (by decide) ?_
  refine x_istore_n (lv' := [(1, .inl (1 : Int32)), (0, .inl x0)]) C0 hl d_Int_stringSize_1 rfl (by decide) rfl (fun ls hl => ?_)
  refine x_iload_n C0 hl 1 d_Int_stringSize_2 rfl rfl ?_
  refine xj2 h (fun J_3 eJ_3 h => ?_)
  have kJ_3 : ∀ (x_1 : Int32) (x_2 : Int32) (ls : Array Slot), xL ls 4 [(0, .inl x_1), (1, .inl x_2)] → J_3 x_1 x_2 = some res → W p l e R s m args below meth c H locs 0 0 Q (F0 m 11 ls []) := by
    intro x_1 x_2 ls hl h
    rw [eJ_3] at h
    refine lv_bipush (v := -10) C0.1 C0.2.1 d_Int_stringSize_11 (by decide) ?_
    refine x_istore_n (lv' := [(2, .inl (-10 : Int32)), (0, .inl x_1), (1, .inl x_2)]) C0 hl d_Int_stringSize_13 rfl (by decide) rfl (fun ls hl => ?_)
    refine lv_iconst (v := 1) C0.1 C0.2.1 d_Int_stringSize_14 (by decide) ?_
    refine x_istore_n (lv' := [(3, .inl (1 : Int32)), (2, .inl (-10 : Int32)), (0, .inl x_1), (1, .inl x_2)]) C0 hl d_Int_stringSize_15 rfl (by decide) rfl (fun ls hl => ?_)
    obtain ⟨q_4, e9, h⟩ := Option.bind_eq_some_iff.mp h
    refine w_Int_stringSize_L16 C0 hE hR1 hR2 hR3 hR4 hH hS hz 100000 _ _ q_4 ls (x_sub hl [2, 3, 1, 0] rfl) e9 ⟨fun z9 ls hl => ?_, fun z9 ls hl => ?_⟩
    · rw [if_pos z9] at h
      refine lv_bipush (v := 10) C0.1 C0.2.1 d_Int_stringSize_42 (by decide) ?_
      refine x_iload_n C0 hl 1 d_Int_stringSize_44 rfl rfl ?_
      refine lv_iadd C0.1 C0.2.1 d_Int_stringSize_45 ?_
      have h := Option.some.inj h
      subst h
      rw [hQ]
      exact x_iretP C0 hr hlocks hP0 d_Int_stringSize_46
    · rw [if_neg (by rw [z9]; decide), if_pos z9] at h
      refine x_iload_n C0 hl 3 d_Int_stringSize_27 rfl rfl ?_
      refine x_iload_n C0 hl 1 d_Int_stringSize_28 rfl rfl ?_
      refine lv_iadd C0.1 C0.2.1 d_Int_stringSize_29 ?_
      have h := Option.some.inj h
      subst h
      rw [hQ]
      exact x_iretP C0 hr hlocks hP0 d_Int_stringSize_30
  refine x_if_lt C0 11 d_Int_stringSize_3 (by decide) h (fun h => ?_) (fun h => ?_)
  · exact kJ_3 _ _ ls (x_sub hl [1, 0] rfl) h
  · refine lv_iconst (v := 0) C0.1 C0.2.1 d_Int_stringSize_6 (by decide) ?_
    refine x_istore_n (lv' := [(1, .inl (0 : Int32)), (0, .inl x0)]) C0 hl d_Int_stringSize_7 rfl (by decide) rfl (fun ls hl => ?_)
    refine x_iload_n C0 hl 1 d_Int_stringSize_8 rfl rfl ?_
    refine lv_ineg C0.1 C0.2.1 d_Int_stringSize_9 ?_
    refine x_istore_n (lv' := [(0, .inl (-x0)), (1, .inl (0 : Int32))]) C0 hl d_Int_stringSize_10 rfl (by decide) rfl (fun ls hl => ?_)
    exact kJ_3 _ _ ls (x_sub hl [0, 1] rfl) h
theorem d_Int_getChars_0 : decode b_Int_getChars 0 = .ok (.iload_n 1, 1) := by decide +kernel
theorem d_Int_getChars_1 : decode b_Int_getChars 1 = .ok (.istore 5, 2) := by decide +kernel
theorem d_Int_getChars_3 : decode b_Int_getChars 3 = .ok (.iload_n 0, 1) := by decide +kernel
theorem d_Int_getChars_4 : decode b_Int_getChars 4 = .ok (.ifCond .ge 7, 3) := by decide +kernel
theorem d_Int_getChars_7 : decode b_Int_getChars 7 = .ok (.iconst 1, 1) := by decide +kernel
theorem d_Int_getChars_8 : decode b_Int_getChars 8 = .ok (.goto 4, 3) := by decide +kernel
theorem d_Int_getChars_11 : decode b_Int_getChars 11 = .ok (.iconst 0, 1) := by decide +kernel
theorem d_Int_getChars_12 : decode b_Int_getChars 12 = .ok (.istore 6, 2) := by decide +kernel
theorem d_Int_getChars_14 : decode b_Int_getChars 14 = .ok (.iload 6, 2) := by decide +kernel
theorem d_Int_getChars_16 : decode b_Int_getChars 16 = .ok (.ifCond .ne 6, 3) := by decide +kernel
theorem d_Int_getChars_19 : decode b_Int_getChars 19 = .ok (.iload_n 0, 1) := by decide +kernel
theorem d_Int_getChars_20 : decode b_Int_getChars 20 = .ok (.ineg, 1) := by decide +kernel
theorem d_Int_getChars_21 : decode b_Int_getChars 21 = .ok (.istore_n 0, 1) := by decide +kernel
theorem d_Int_getChars_22 : decode b_Int_getChars 22 = .ok (.iload_n 0, 1) := by decide +kernel
theorem d_Int_getChars_23 : decode b_Int_getChars 23 = .ok (.bipush (-100), 2) := by decide +kernel
theorem d_Int_getChars_25 : decode b_Int_getChars 25 = .ok (.if_icmp .gt 47, 3) := by decide +kernel
theorem d_Int_getChars_28 : decode b_Int_getChars 28 = .ok (.iload_n 0, 1) := by decide +kernel
theorem d_Int_getChars_29 : decode b_Int_getChars 29 = .ok (.bipush 100, 2) := by decide +kernel
theorem d_Int_getChars_31 : decode b_Int_getChars 31 = .ok (.idiv, 1) := by decide +kernel
theorem d_Int_getChars_32 : decode b_Int_getChars 32 = .ok (.istore_n 3, 1) := by decide +kernel
theorem d_Int_getChars_33 : decode b_Int_getChars 33 = .ok (.iload_n 3, 1) := by decide +kernel
theorem d_Int_getChars_34 : decode b_Int_getChars 34 = .ok (.bipush 100, 2) := by decide +kernel
theorem d_Int_getChars_36 : decode b_Int_getChars 36 = .ok (.imul, 1) := by decide +kernel
theorem d_Int_getChars_37 : decode b_Int_getChars 37 = .ok (.iload_n 0, 1) := by decide +kernel
theorem d_Int_getChars_38 : decode b_Int_getChars 38 = .ok (.isub, 1) := by decide +kernel
theorem d_Int_getChars_39 : decode b_Int_getChars 39 = .ok (.istore 4, 2) := by decide +kernel
theorem d_Int_getChars_41 : decode b_Int_getChars 41 = .ok (.iload_n 3, 1) := by decide +kernel
theorem d_Int_getChars_42 : decode b_Int_getChars 42 = .ok (.istore_n 0, 1) := by decide +kernel
theorem d_Int_getChars_43 : decode b_Int_getChars 43 = .ok (.aload_n 2, 1) := by decide +kernel
theorem d_Int_getChars_44 : decode b_Int_getChars 44 = .ok (.iinc 5 (-1), 3) := by decide +kernel
theorem d_Int_getChars_47 : decode b_Int_getChars 47 = .ok (.iload 5, 2) := by decide +kernel
theorem d_Int_getChars_49 : decode b_Int_getChars 49 = .ok (.getstatic 83, 3) := by decide +kernel
theorem d_Int_getChars_52 : decode b_Int_getChars 52 = .ok (.iload 4, 2) := by decide +kernel
theorem d_Int_getChars_54 : decode b_Int_getChars 54 = .ok (.baload, 1) := by decide +kernel
theorem d_Int_getChars_55 : decode b_Int_getChars 55 = .ok (.bastore, 1) := by decide +kernel
theorem d_Int_getChars_56 : decode b_Int_getChars 56 = .ok (.aload_n 2, 1) := by decide +kernel
theorem d_Int_getChars_57 : decode b_Int_getChars 57 = .ok (.iinc 5 (-1), 3) := by decide +kernel
theorem d_Int_getChars_60 : decode b_Int_getChars 60 = .ok (.iload 5, 2) := by decide +kernel
theorem d_Int_getChars_62 : decode b_Int_getChars 62 = .ok (.getstatic 87, 3) := by decide +kernel
theorem d_Int_getChars_65 : decode b_Int_getChars 65 = .ok (.iload 4, 2) := by decide +kernel
theorem d_Int_getChars_67 : decode b_Int_getChars 67 = .ok (.baload, 1) := by decide +kernel
theorem d_Int_getChars_68 : decode b_Int_getChars 68 = .ok (.bastore, 1) := by decide +kernel
theorem d_Int_getChars_69 : decode b_Int_getChars 69 = .ok (.goto (-47), 3) := by decide +kernel
theorem d_Int_getChars_72 : decode b_Int_getChars 72 = .ok (.aload_n 2, 1) := by decide +kernel
theorem d_Int_getChars_73 : decode b_Int_getChars 73 = .ok (.iinc 5 (-1), 3) := by decide +kernel
theorem d_Int_getChars_76 : decode b_Int_getChars 76 = .ok (.iload 5, 2) := by decide +kernel
theorem d_Int_getChars_78 : decode b_Int_getChars 78 = .ok (.getstatic 83, 3) := by decide +kernel
theorem d_Int_getChars_81 : decode b_Int_getChars 81 = .ok (.iload_n 0, 1) := by decide +kernel
theorem d_Int_getChars_82 : decode b_Int_getChars 82 = .ok (.ineg, 1) := by decide +kernel
theorem d_Int_getChars_83 : decode b_Int_getChars 83 = .ok (.baload, 1) := by decide +kernel
theorem d_Int_getChars_84 : decode b_Int_getChars 84 = .ok (.bastore, 1) := by decide +kernel
theorem d_Int_getChars_85 : decode b_Int_getChars 85 = .ok (.iload_n 0, 1) := by decide +kernel
theorem d_Int_getChars_86 : decode b_Int_getChars 86 = .ok (.bipush (-9), 2) := by decide +kernel
theorem d_Int_getChars_88 : decode b_Int_getChars 88 = .ok (.if_icmp .ge 16, 3) := by decide +kernel
theorem d_Int_getChars_91 : decode b_Int_getChars 91 = .ok (.aload_n 2, 1) := by decide +kernel
theorem d_Int_getChars_92 : decode b_Int_getChars 92 = .ok (.iinc 5 (-1), 3) := by decide +kernel
theorem d_Int_getChars_95 : decode b_Int_getChars 95 = .ok (.iload 5, 2) := by decide +kernel
theorem d_Int_getChars_97 : decode b_Int_getChars 97 = .ok (.getstatic 87, 3) := by decide +kernel
theorem d_Int_getChars_100 : decode b_Int_getChars 100 = .ok (.iload_n 0, 1) := by decide +kernel
theorem d_Int_getChars_101 : decode b_Int_getChars 101 = .ok (.ineg, 1) := by decide +kernel
theorem d_Int_getChars_102 : decode b_Int_getChars 102 = .ok (.baload, 1) := by decide +kernel
theorem d_Int_getChars_103 : decode b_Int_getChars 103 = .ok (.bastore, 1) := by decide +kernel
theorem d_Int_getChars_104 : decode b_Int_getChars 104 = .ok (.iload 6, 2) := by decide +kernel
theorem d_Int_getChars_106 : decode b_Int_getChars 106 = .ok (.ifCond .eq 12, 3) := by decide +kernel
theorem d_Int_getChars_109 : decode b_Int_getChars 109 = .ok (.aload_n 2, 1) := by decide +kernel
theorem d_Int_getChars_110 : decode b_Int_getChars 110 = .ok (.iinc 5 (-1), 3) := by decide +kernel
theorem d_Int_getChars_113 : decode b_Int_getChars 113 = .ok (.iload 5, 2) := by decide +kernel
theorem d_Int_getChars_115 : decode b_Int_getChars 115 = .ok (.bipush 45, 2) := by decide +kernel
theorem d_Int_getChars_117 : decode b_Int_getChars 117 = .ok (.bastore, 1) := by decide +kernel
theorem d_Int_getChars_118 : decode b_Int_getChars 118 = .ok (.iload 5, 2) := by decide +kernel
theorem d_Int_getChars_120 : decode b_Int_getChars 120 = .ok (.ireturn, 1) := by decide +kernel
def f_Int_getChars_L22 (r2 : Option Nat) (x6 : Int32) : Nat → Int32 → Int32 → Mp → Option (Nat × Int32 × Int32 × Mp)
  | 0, _, _, _ => none
  | n + 1, x0, x5, w => if (-100 : Int32) < x0 then (some (0, x0, x5, w)) else ((xdig 1 (((x0 / (100 : Int32)) * (100 : Int32)) - x0)).bind fun v_5 => (sI w r2 6 (x5 + (-1)) (vp_nar .byte v_5)).bind fun w_6 => (xdig 2 (((x0 / (100 : Int32)) * (100 : Int32)) - x0)).bind fun v_7 => (sI w_6 r2 6 ((x5 + (-1)) + (-1)) (vp_nar .byte v_7)).bind fun w_8 => f_Int_getChars_L22 r2 x6 n (x0 / (100 : Int32)) ((x5 + (-1)) + (-1)) w_8)
set_option maxHeartbeats 4000000 in
set_option maxRecDepth 100000 in
theorem w_Int_getChars_L22 {p : Program} {l : Launch} {e : Env} {R : Room} {s : State} {m : MethodId} {args : Array Value} {below : List Frame} {meth : Method} {c : Code} {Q : State → Prop} {cells slots sz : Nat} {G : Gx} {r2 : Option Nat} {x6 : Int32} (C0 : CallFix p m c b_Int_getChars 7 s args wA R_Int) (hE : xE G vwCl xaty s) (hR1 : 0 ≤ R.frames) (hR2 : 0 ≤ R.locals) (hR3 : cells ≤ R.cells) (hR4 : slots ≤ R.slots) : ∀ (n : Nat) (x0 : Int32) (x5 : Int32) (w : Mp) (H : Heap) (locs : List Loc) (q : Nat × Int32 × Int32 × Mp) (ls : Array Slot), xhd G vwCl w H → xS G s H locs → H.size = sz → xL ls 7 [(0, .inl x0), (2, .inr (.inl r2)), (5, .inl x5), (6, .inl x6)] → f_Int_getChars_L22 r2 x6 n x0 x5 w = some q → (∀ (H : Heap) (locs : List Loc) (ls : Array Slot), xhd G vwCl q.2.2.2 H → xS G s H locs → H.size = sz → xL ls 7 [(0, .inl q.2.1), (2, .inr (.inl r2)), (5, .inl q.2.2.1), (6, .inl x6)] → W p l e R s m args below meth c H locs cells slots Q (F0 m 72 ls [])) → W p l e R s m args below meth c H locs cells slots Q (F0 m 22 ls []) := by
  intro n
  induction n with
  | zero => intro _ _ _ _ _ q ls hH hS hz hl h; cases h
  | succ n ih =>
    intro x0 x5 w H locs q ls hH hS hz hl h K
    rw [f_Int_getChars_L22] at h
    refine x_iload_n C0 hl 0 d_Int_getChars_22 rfl rfl ?_
    refine lv_bipush (v := -100) C0.1 C0.2.1 d_Int_getChars_23 (by decide) ?_
    refine x_icmp_gt C0 72 d_Int_getChars_25 (by decide) h (fun h => ?_) (fun h => ?_)
    · cases h
      exact K _ _ ls hH hS hz (x_sub hl [0, 1, 2, 3] rfl)
    · refine x_iload_n C0 hl 0 d_Int_getChars_28 rfl rfl ?_
      refine lv_bipush (v := 100) C0.1 C0.2.1 d_Int_getChars_29 (by decide) ?_
      refine lv_idiv C0.1 C0.2.1 d_Int_getChars_31 (by decide) ?_
      refine x_istore_n (lv' := [(3, .inl (x0 / (100 : Int32))), (0, .inl x0), (2, .inr (.inl r2)), (5, .inl x5), (6, .inl x6)]) C0 hl d_Int_getChars_32 rfl (by decide) rfl (fun ls hl => ?_)
      refine x_iload_n C0 hl 0 d_Int_getChars_33 rfl rfl ?_
      refine lv_bipush (v := 100) C0.1 C0.2.1 d_Int_getChars_34 (by decide) ?_
      refine lv_imul C0.1 C0.2.1 d_Int_getChars_36 ?_
      refine x_iload_n C0 hl 1 d_Int_getChars_37 rfl rfl ?_
      refine lv_isub C0.1 C0.2.1 d_Int_getChars_38 ?_
      refine x_istore (lv' := [(4, .inl (((x0 / (100 : Int32)) * (100 : Int32)) - x0)), (3, .inl (x0 / (100 : Int32))), (0, .inl x0), (2, .inr (.inl r2)), (5, .inl x5), (6, .inl x6)]) C0 hl d_Int_getChars_39 (by decide) rfl (fun ls hl => ?_)
      refine x_iload_n C0 hl 1 d_Int_getChars_41 rfl rfl ?_
      refine x_istore_n (lv' := [(0, .inl (x0 / (100 : Int32))), (4, .inl (((x0 / (100 : Int32)) * (100 : Int32)) - x0)), (3, .inl (x0 / (100 : Int32))), (2, .inr (.inl r2)), (5, .inl x5), (6, .inl x6)]) C0 hl d_Int_getChars_42 rfl (by decide) rfl (fun ls hl => ?_)
      refine x_aload_n C0 hl 3 d_Int_getChars_43 rfl rfl ?_
      refine x_iinc (v := -1) (lv' := [(5, .inl (x5 + (-1))), (0, .inl (x0 / (100 : Int32))), (4, .inl (((x0 / (100 : Int32)) * (100 : Int32)) - x0)), (3, .inl (x0 / (100 : Int32))), (2, .inr (.inl r2)), (6, .inl x6)]) C0 hl 4 d_Int_getChars_44 rfl (by decide) (by decide) rfl (fun ls hl => ?_)
      refine x_iload C0 hl 0 d_Int_getChars_47 rfl ?_
      refine x_gd1 C0 hE hS kw_3_185 d_Int_getChars_49 ?_
      refine x_iload C0 hl 2 d_Int_getChars_52 rfl ?_
      refine x_tb1 C0 hE hS d_Int_getChars_54 h (fun v_5 h => ?_)
      refine x_bast C0 hE hH hS (t := 6) rfl d_Int_getChars_55 h (fun w_6 H locs hH hS hz9 h => ?_)
      have hz := hz9.trans hz
      refine x_aload_n C0 hl 4 d_Int_getChars_56 rfl rfl ?_
      refine x_iinc (v := -1) (lv' := [(5, .inl ((x5 + (-1)) + (-1))), (0, .inl (x0 / (100 : Int32))), (4, .inl (((x0 / (100 : Int32)) * (100 : Int32)) - x0)), (3, .inl (x0 / (100 : Int32))), (2, .inr (.inl r2)), (6, .inl x6)]) C0 hl 0 d_Int_getChars_57 rfl (by decide) (by decide) rfl (fun ls hl => ?_)
      refine x_iload C0 hl 0 d_Int_getChars_60 rfl ?_
      refine x_gd2 C0 hE hS kw_3_187 d_Int_getChars_62 ?_
      refine x_iload C0 hl 2 d_Int_getChars_65 rfl ?_
      refine x_tb2 C0 hE hS d_Int_getChars_67 h (fun v_7 h => ?_)
      refine x_bast C0 hE hH hS (t := 6) rfl d_Int_getChars_68 h (fun w_8 H locs hH hS hz9 h => ?_)
      have hz := hz9.trans hz
      refine x_goto C0 22 d_Int_getChars_69 (by decide) ?_
      exact ih _ _ _ _ _ q ls hH hS hz (x_sub hl [1, 4, 0, 5] rfl) h K
def f_Int_getChars (w : Mp) (x0 : Int32) (x1 : Int32) (r2 : Option Nat) : Option (Int32 × Mp) := xJ1 (fun (x_1 : Int32) => xJ1 (fun (x_3 : Int32) => (f_Int_getChars_L22 r2 x_1 100000 x_3 x1 w).bind fun q_9 => (xdig 1 (-q_9.2.1)).bind fun v_10 => (sI q_9.2.2.2 r2 6 (q_9.2.2.1 + (-1)) (vp_nar .byte v_10)).bind fun w_11 => xJ2 (fun (x_12 : Int32) (w_13 : Mp) => if x_1 = 0 then (some (x_12, w_13)) else ((sI w_13 r2 6 (x_12 + (-1)) (vp_nar .byte (45 : Int32))).bind fun w_15 => some (x_12 + (-1), w_15))) fun J_14 => if (-9 : Int32) ≤ q_9.2.1 then (J_14 (q_9.2.2.1 + (-1)) w_11) else ((xdig 2 (-q_9.2.1)).bind fun v_16 => (sI w_11 r2 6 ((q_9.2.2.1 + (-1)) + (-1)) (vp_nar .byte v_16)).bind fun w_17 => J_14 ((q_9.2.2.1 + (-1)) + (-1)) w_17)) fun J_4 => if x_1 = 0 then (J_4 (-x0)) else (J_4 x0)) fun J_2 => if 0 ≤ x0 then (J_2 (0 : Int32)) else (J_2 (1 : Int32))
set_option maxHeartbeats 4000000 in
set_option maxRecDepth 100000 in
theorem c_Int_getChars (l : Launch) (G : Gx) (w : Mp) (sz : Nat) (x0 : Int32) (x1 : Int32) (r2 : Option Nat) (res : Int32 × Mp) (hf : f_Int_getChars w x0 x1 r2 = some res) : Met l y_Int_getChars (xws y_Int_getChars b_Int_getChars 7 (some .int)) { frames := 0, cells := 0, slots := 0, locals := 0 } (xPc G vwCl xaty w sz [.int x0, .int x1, va_rf r2]) (xQ G vwCl (some (.int res.1)) res.2 sz) (0) (0) (xA G) := by
  refine Met.ofW (cc := b_Int_getChars) (maxL := 7) (ret := (some .int)) (by decide) rfl ?_
  intro p e s m args below meth c s₁ B hml hv
  obtain ⟨ha, hE, hH, hz⟩ := hv
  have C0 : CallFix p m c b_Int_getChars 7 s args wA R_Int := ⟨B.exec, B.bytes, hml, findClass_of_methodNamed B.named, fun w hw => atoms_spec (ws := xws y_Int_getChars b_Int_getChars 7 (some .int)) B.pre w (List.mem_cons_of_mem _ hw)⟩
  have hr := B.returns
  have hlocks := B.notSynchronized
  obtain ⟨R, hR⟩ : ∃ R, R = (headSpec (xws y_Int_getChars b_Int_getChars 7 (some .int)) { frames := 0, cells := 0, slots := 0, locals := 0 }).room := ⟨_, rfl⟩
  have hR1 : 0 ≤ R.frames := by rw [hR]; exact Nat.le_of_ble_eq_true rfl
  have hR2 : 0 ≤ R.locals := by rw [hR]; exact Nat.le_of_ble_eq_true rfl
  have hR3 : 0 ≤ R.cells := by rw [hR]; exact Nat.le_refl _
  have hR4 : 0 ≤ R.slots := by rw [hR]; exact Nat.le_refl _
  rw [← hR]
  obtain ⟨Q, hQ⟩ : ∃ Q, Q = MQ below (xQ G vwCl (some (.int res.1)) res.2 sz) args s (0) (0) (xA G) := ⟨_, rfl⟩
  rw [← hQ]
  have hS : xS G s s.heap [] := va_S.rf
  obtain ⟨ls, he, hl⟩ := x_entry m [.inl x0, .inl x1, .inr (.inl r2)] 7 (Nat.le_of_ble_eq_true rfl)
  rw [show entryFrame m args 7 = F0 m 0 ls [] by rw [ha]; exact he]
  have hl : xL ls 7 [(0, .inl x0), (1, .inl x1), (2, .inr (.inl r2))] := hl
  have h := hf
  unfold f_Int_getChars at h
  suffices hmain : ∀ (H : Heap) (locs : List Loc), xhd G vwCl w H → xS G s H locs → H.size = sz → (H = s.heap ∧ locs = []) → W p l e R s m args below meth c H locs 0 0 Q (F0 m 0 ls []) from hmain _ _ hH hS hz ⟨rfl, rfl⟩
  clear hH hS hz
  intro H locs hH hS hz hP0
  refine x_iload_n C0 hl 1 d_Int_getChars_0 rfl rfl ?_
  refine x_istore (lv' := [(5, .inl x1), (0, .inl x0), (1, .inl x1), (2, .inr (.inl r2))]) C0 hl d_Int_getChars_1 (by decide) rfl (fun ls hl => ?_)
  refine x_iload_n C0 hl 1 d_Int_getChars_3 rfl rfl ?_
  refine xj1 h (fun J_2 eJ_2 h => ?_)
  have kJ_2 : ∀ (x_1 : Int32) (ls : Array Slot), xL ls 7 [(0, .inl x0), (2, .inr (.inl r2)), (5, .inl x1)] → J_2 x_1 = some res → W p l e R s m args below meth c H locs 0 0 Q (F0 m 12 ls [.int x_1]) := by
    intro x_1 ls hl h
    rw [eJ_2] at h
    refine x_istore (lv' := [(6, .inl x_1), (0, .inl x0), (2, .inr (.inl r2)), (5, .inl x1)]) C0 hl d_Int_getChars_12 (by decide) rfl (fun ls hl => ?_)
    refine x_iload C0 hl 0 d_Int_getChars_14 rfl ?_
    refine xj1 h (fun J_4 eJ_4 h => ?_)
    have kJ_4 : ∀ (x_3 : Int32) (ls : Array Slot), xL ls 7 [(0, .inl x_3), (2, .inr (.inl r2)), (5, .inl x1), (6, .inl x_1)] → J_4 x_3 = some res → W p l e R s m args below meth c H locs 0 0 Q (F0 m 22 ls []) := by
      intro x_3 ls hl h
      rw [eJ_4] at h
      obtain ⟨q_9, e9, h⟩ := Option.bind_eq_some_iff.mp h
      refine w_Int_getChars_L22 C0 hE hR1 hR2 hR3 hR4 100000 _ _ _ _ _ q_9 ls hH hS hz (x_sub hl [0, 1, 2, 3] rfl) e9 (fun H locs ls hH hS hz hl => ?_)
      refine x_aload_n C0 hl 1 d_Int_getChars_72 rfl rfl ?_
      refine x_iinc (v := -1) (lv' := [(5, .inl (q_9.2.2.1 + (-1))), (0, .inl q_9.2.1), (2, .inr (.inl r2)), (6, .inl x_1)]) C0 hl 2 d_Int_getChars_73 rfl (by decide) (by decide) rfl (fun ls hl => ?_)
      refine x_iload C0 hl 0 d_Int_getChars_76 rfl ?_
      refine x_gd1 C0 hE hS kw_3_185 d_Int_getChars_78 ?_
      refine x_iload_n C0 hl 1 d_Int_getChars_81 rfl rfl ?_
      refine lv_ineg C0.1 C0.2.1 d_Int_getChars_82 ?_
      refine x_tb1 C0 hE hS d_Int_getChars_83 h (fun v_10 h => ?_)
      refine x_bast C0 hE hH hS (t := 6) rfl d_Int_getChars_84 h (fun w_11 H locs hH hS hz9 h => ?_)
      have hz := hz9.trans hz
      refine x_iload_n C0 hl 1 d_Int_getChars_85 rfl rfl ?_
      refine lv_bipush (v := -9) C0.1 C0.2.1 d_Int_getChars_86 (by decide) ?_
      refine xj2 h (fun J_14 eJ_14 h => ?_)
      have kJ_14 : ∀ (x_12 : Int32) (w_13 : Mp) (H : Heap) (locs : List Loc) (ls : Array Slot), xhd G vwCl w_13 H → xS G s H locs → H.size = sz → xL ls 7 [(2, .inr (.inl r2)), (5, .inl x_12), (6, .inl x_1)] → J_14 x_12 w_13 = some res → W p l e R s m args below meth c H locs 0 0 Q (F0 m 104 ls []) := by
        intro x_12 w_13 H locs ls hH hS hz hl h
        rw [eJ_14] at h
        refine x_iload C0 hl 2 d_Int_getChars_104 rfl ?_
        refine x_if_eq C0 118 d_Int_getChars_106 (by decide) h (fun h => ?_) (fun h => ?_)
        · refine x_iload C0 hl 1 d_Int_getChars_118 rfl ?_
          have h := Option.some.inj h
          subst h
          rw [hQ]
          exact x_iret C0 hr hlocks hH hS hz d_Int_getChars_120
        · refine x_aload_n C0 hl 0 d_Int_getChars_109 rfl rfl ?_
          refine x_iinc (v := -1) (lv' := [(5, .inl (x_12 + (-1))), (2, .inr (.inl r2)), (6, .inl x_1)]) C0 hl 1 d_Int_getChars_110 rfl (by decide) (by decide) rfl (fun ls hl => ?_)
          refine x_iload C0 hl 0 d_Int_getChars_113 rfl ?_
          refine lv_bipush (v := 45) C0.1 C0.2.1 d_Int_getChars_115 (by decide) ?_
          refine x_bast C0 hE hH hS (t := 6) rfl d_Int_getChars_117 h (fun w_15 H locs hH hS hz9 h => ?_)
          have hz := hz9.trans hz
          refine x_iload C0 hl 0 d_Int_getChars_118 rfl ?_
          have h := Option.some.inj h
          subst h
          rw [hQ]
          exact x_iret C0 hr hlocks hH hS hz d_Int_getChars_120
      refine x_icmp_ge C0 104 d_Int_getChars_88 (by decide) h (fun h => ?_) (fun h => ?_)
      · exact kJ_14 _ _ _ _ ls hH hS hz (x_sub hl [2, 0, 3] rfl) h
      · refine x_aload_n C0 hl 2 d_Int_getChars_91 rfl rfl ?_
        refine x_iinc (v := -1) (lv' := [(5, .inl ((q_9.2.2.1 + (-1)) + (-1))), (0, .inl q_9.2.1), (2, .inr (.inl r2)), (6, .inl x_1)]) C0 hl 0 d_Int_getChars_92 rfl (by decide) (by decide) rfl (fun ls hl => ?_)
        refine x_iload C0 hl 0 d_Int_getChars_95 rfl ?_
        refine x_gd2 C0 hE hS kw_3_187 d_Int_getChars_97 ?_
        refine x_iload_n C0 hl 1 d_Int_getChars_100 rfl rfl ?_
        refine lv_ineg C0.1 C0.2.1 d_Int_getChars_101 ?_
        refine x_tb2 C0 hE hS d_Int_getChars_102 h (fun v_16 h => ?_)
        refine x_bast C0 hE hH hS (t := 6) rfl d_Int_getChars_103 h (fun w_17 H locs hH hS hz9 h => ?_)
        have hz := hz9.trans hz
        exact kJ_14 _ _ _ _ ls hH hS hz (x_sub hl [2, 0, 3] rfl) h
    refine x_if_ne C0 22 d_Int_getChars_16 (by decide) h (fun h => ?_) (fun h => ?_)
    · exact kJ_4 _ ls (x_sub hl [1, 2, 3, 0] rfl) h
    · refine x_iload_n C0 hl 1 d_Int_getChars_19 rfl rfl ?_
      refine lv_ineg C0.1 C0.2.1 d_Int_getChars_20 ?_
      refine x_istore_n (lv' := [(0, .inl (-x0)), (6, .inl x_1), (2, .inr (.inl r2)), (5, .inl x1)]) C0 hl d_Int_getChars_21 rfl (by decide) rfl (fun ls hl => ?_)
      exact kJ_4 _ ls (x_sub hl [0, 2, 3, 1] rfl) h
  refine x_if_ge C0 11 d_Int_getChars_4 (by decide) h (fun h => ?_) (fun h => ?_)
  · refine lv_iconst (v := 0) C0.1 C0.2.1 d_Int_getChars_11 (by decide) ?_
    exact kJ_2 _ ls (x_sub hl [1, 3, 0] rfl) h
  · refine lv_iconst (v := 1) C0.1 C0.2.1 d_Int_getChars_7 (by decide) ?_
    refine x_goto C0 12 d_Int_getChars_8 (by decide) ?_
    exact kJ_2 _ ls (x_sub hl [1, 3, 0] rfl) h
theorem d_ASB_append1_0 : decode b_ASB_append1 0 = .ok (.aload_n 0, 1) := by decide +kernel
theorem d_ASB_append1_1 : decode b_ASB_append1 1 = .ok (.getfield 79, 3) := by decide +kernel
theorem d_ASB_append1_4 : decode b_ASB_append1 4 = .ok (.istore_n 2, 1) := by decide +kernel
theorem d_ASB_append1_5 : decode b_ASB_append1 5 = .ok (.iload_n 2, 1) := by decide +kernel
theorem d_ASB_append1_6 : decode b_ASB_append1 6 = .ok (.iload_n 1, 1) := by decide +kernel
theorem d_ASB_append1_7 : decode b_ASB_append1 7 = .ok (.invokestatic 245, 3) := by decide +kernel
theorem d_ASB_append1_10 : decode b_ASB_append1 10 = .ok (.iadd, 1) := by decide +kernel
theorem d_ASB_append1_11 : decode b_ASB_append1 11 = .ok (.istore_n 3, 1) := by decide +kernel
theorem d_ASB_append1_12 : decode b_ASB_append1 12 = .ok (.aload_n 0, 1) := by decide +kernel
theorem d_ASB_append1_13 : decode b_ASB_append1 13 = .ok (.iload_n 3, 1) := by decide +kernel
theorem d_ASB_append1_14 : decode b_ASB_append1 14 = .ok (.invokevirtual 100, 3) := by decide +kernel
theorem d_ASB_append1_17 : decode b_ASB_append1 17 = .ok (.aload_n 0, 1) := by decide +kernel
theorem d_ASB_append1_18 : decode b_ASB_append1 18 = .ok (.invokevirtual 83, 3) := by decide +kernel
theorem d_ASB_append1_21 : decode b_ASB_append1 21 = .ok (.ifCond .eq 16, 3) := by decide +kernel
theorem d_ASB_append1_24 : decode b_ASB_append1 24 = .ok (.iload_n 1, 1) := by decide +kernel
theorem d_ASB_append1_25 : decode b_ASB_append1 25 = .ok (.iload_n 3, 1) := by decide +kernel
theorem d_ASB_append1_26 : decode b_ASB_append1 26 = .ok (.aload_n 0, 1) := by decide +kernel
theorem d_ASB_append1_27 : decode b_ASB_append1 27 = .ok (.getfield 15, 3) := by decide +kernel
theorem d_ASB_append1_30 : decode b_ASB_append1 30 = .ok (.invokestatic 248, 3) := by decide +kernel
theorem d_ASB_append1_33 : decode b_ASB_append1 33 = .ok (.pop, 1) := by decide +kernel
theorem d_ASB_append1_34 : decode b_ASB_append1 34 = .ok (.goto 14, 3) := by decide +kernel
theorem d_ASB_append1_37 : decode b_ASB_append1 37 = .ok (.iload_n 1, 1) := by decide +kernel
theorem d_ASB_append1_38 : decode b_ASB_append1 38 = .ok (.iload_n 2, 1) := by decide +kernel
theorem d_ASB_append1_39 : decode b_ASB_append1 39 = .ok (.iload_n 3, 1) := by decide +kernel
theorem d_ASB_append1_40 : decode b_ASB_append1 40 = .ok (.aload_n 0, 1) := by decide +kernel
theorem d_ASB_append1_41 : decode b_ASB_append1 41 = .ok (.getfield 15, 3) := by decide +kernel
theorem d_ASB_append1_44 : decode b_ASB_append1 44 = .ok (.invokestatic 251, 3) := by decide +kernel
theorem d_ASB_append1_47 : decode b_ASB_append1 47 = .ok (.pop, 1) := by decide +kernel
theorem d_ASB_append1_48 : decode b_ASB_append1 48 = .ok (.aload_n 0, 1) := by decide +kernel
theorem d_ASB_append1_49 : decode b_ASB_append1 49 = .ok (.iload_n 3, 1) := by decide +kernel
theorem d_ASB_append1_50 : decode b_ASB_append1 50 = .ok (.putfield 79, 3) := by decide +kernel
theorem d_ASB_append1_53 : decode b_ASB_append1 53 = .ok (.aload_n 0, 1) := by decide +kernel
theorem d_ASB_append1_54 : decode b_ASB_append1 54 = .ok (.areturn, 1) := by decide +kernel
def f_ASB_append1 (w : Mp) (h0 : Nat) (x1 : Int32) : Option (Option Nat × Mp) := (gI w (some h0) 6 3).bind fun v_1 => (f_Int_stringSize w x1).bind fun q_2 => (xo w (some h0) 6).bind fun b_4 => (f_ASB_ensureCapacityInternal w b_4 (v_1 + q_2)).bind fun q_3 => (xo w (some h0) 6).bind fun b_6 => (f_ASB_isLatin1 w b_6).bind fun q_5 => if q_5 = 0 then ((gR w (some h0) 6 0).bind fun v_7 => none) else ((gR w (some h0) 6 0).bind fun v_8 => (f_Int_getChars w x1 (v_1 + q_2) v_8).bind fun q_9 => (pF q_9.2 (some h0) 6 3 (.int (v_1 + q_2))).bind fun w_10 => some ((some h0), w_10))
set_option maxHeartbeats 4000000 in
set_option maxRecDepth 100000 in
theorem c_ASB_append1 (l : Launch) (G : Gx) (w : Mp) (sz : Nat) (h0 : Nat) (x1 : Int32) (res : Option Nat × Mp) (hf : f_ASB_append1 w h0 x1 = some res) : Met l y_ASB_append1 (xws y_ASB_append1 b_ASB_append1 4 (some (.object "java/lang/AbstractStringBuilder"))) { frames := 1, cells := 0, slots := 0, locals := 26 } (xPc G vwCl xaty w sz [va_rf (some h0), .int x1]) (xQ G vwCl (some (va_rf res.1)) res.2 sz) (0) (0) (xA G) := by
  refine Met.ofW (cc := b_ASB_append1) (maxL := 4) (ret := (some (.object "java/lang/AbstractStringBuilder"))) (by decide) rfl ?_
  intro p e s m args below meth c s₁ B hml hv
  obtain ⟨ha, hE, hH, hz⟩ := hv
  have C0 : CallFix p m c b_ASB_append1 4 s args wA R_ASB := ⟨B.exec, B.bytes, hml, findClass_of_methodNamed B.named, fun w hw => atoms_spec (ws := xws y_ASB_append1 b_ASB_append1 4 (some (.object "java/lang/AbstractStringBuilder"))) B.pre w (List.mem_cons_of_mem _ hw)⟩
  have hr := B.returns
  have hlocks := B.notSynchronized
  obtain ⟨R, hR⟩ : ∃ R, R = (headSpec (xws y_ASB_append1 b_ASB_append1 4 (some (.object "java/lang/AbstractStringBuilder"))) { frames := 1, cells := 0, slots := 0, locals := 26 }).room := ⟨_, rfl⟩
  have hR1 : 1 ≤ R.frames := by rw [hR]; exact Nat.le_of_ble_eq_true rfl
  have hR2 : 26 ≤ R.locals := by rw [hR]; exact Nat.le_of_ble_eq_true rfl
  have hR3 : 0 ≤ R.cells := by rw [hR]; exact Nat.le_refl _
  have hR4 : 0 ≤ R.slots := by rw [hR]; exact Nat.le_refl _
  rw [← hR]
  obtain ⟨Q, hQ⟩ : ∃ Q, Q = MQ below (xQ G vwCl (some (va_rf res.1)) res.2 sz) args s (0) (0) (xA G) := ⟨_, rfl⟩
  rw [← hQ]
  have hS : xS G s s.heap [] := va_S.rf
  obtain ⟨ls, he, hl⟩ := x_entry m [.inr (.inl (some h0)), .inl x1] 4 (Nat.le_of_ble_eq_true rfl)
  rw [show entryFrame m args 4 = F0 m 0 ls [] by rw [ha]; exact he]
  have hl : xL ls 4 [(0, .inr (.inl (some h0))), (1, .inl x1)] := hl
  have h := hf
  unfold f_ASB_append1 at h
  suffices hmain : ∀ (H : Heap) (locs : List Loc), xhd G vwCl w H → xS G s H locs → H.size = sz → (H = s.heap ∧ locs = []) → W p l e R s m args below meth c H locs 0 0 Q (F0 m 0 ls []) from hmain _ _ hH hS hz ⟨rfl, rfl⟩
  clear hH hS hz
  intro H locs hH hS hz hP0
  refine x_aload_n C0 hl 0 d_ASB_append1_0 rfl rfl ?_
  refine x_getI C0 hE hH (ci := 6) rfl i_SB 3 (by decide) kw_3_71 d_ASB_append1_1 h (fun v_1 h => ?_)
  refine x_istore_n (lv' := [(2, .inl v_1), (0, .inr (.inl (some h0))), (1, .inl x1)]) C0 hl d_ASB_append1_4 rfl (by decide) rfl (fun ls hl => ?_)
  refine x_iload_n C0 hl 0 d_ASB_append1_5 rfl rfl ?_
  refine x_iload_n C0 hl 2 d_ASB_append1_6 rfl rfl ?_
  obtain ⟨q_2, e9, h⟩ := Option.bind_eq_some_iff.mp h
  refine x_callP (va_runS (As := [.int x1]) (rest := [.int v_1]) C0 (c_Int_stringSize l G w _ x1 q_2 e9) (x_cwS 1 C0 kw_3_179 kw_3_181 kw_1_23 kw_3_180 (by decide +kernel) (x_rm hR1 hR2 (Nat.le_of_ble_eq_true rfl) (Nat.le_of_ble_eq_true rfl))) (x_preS hE hH hS) rfl rfl hl.1 rfl (lv_room (by first | exact Nat.le_of_ble_eq_true rfl | simp only [List.map_cons, List.map_nil, List.sum_cons, List.sum_nil, va_rf_cat, x_catI, x_catL, x_catA] <;> decide)) d_ASB_append1_7 (x_le0 hR3 hR4)) ?_
  refine lv_iadd C0.1 C0.2.1 d_ASB_append1_10 ?_
  refine x_istore_n (lv' := [(3, .inl (v_1 + q_2)), (2, .inl v_1), (0, .inr (.inl (some h0))), (1, .inl x1)]) C0 hl d_ASB_append1_11 rfl (by decide) rfl (fun ls hl => ?_)
  refine x_aload_n C0 hl 2 d_ASB_append1_12 rfl rfl ?_
  refine x_iload_n C0 hl 0 d_ASB_append1_13 rfl rfl ?_
  obtain ⟨b_4, e9, h⟩ := Option.bind_eq_some_iff.mp h
  obtain ⟨e8, fs9, hb9⟩ := xo_inv e9
  obtain ⟨q_3, e9, h⟩ := Option.bind_eq_some_iff.mp h
  refine x_callP (va_runV (As := [.int (v_1 + q_2)]) (rest := []) C0 (c_ASB_ensureCapacityInternal l G w _ b_4 (v_1 + q_2) q_3 e9) (x_cwVP (C := "java/lang/StringBuilder") 1 C0 kw_3_88 kw_3_91 kw_1_14 kw_3_90 (va_Nw.use rfl hE.2.1.2.2.2.2.2.2.2) (by decide +kernel) (x_rm hR1 hR2 (Nat.le_of_ble_eq_true rfl) (Nat.le_of_ble_eq_true rfl))) (x_preV hE hH hS (ci := 6) rfl hb9) rfl rfl hl.1 (by rw [e8]; rfl) (lv_room (by first | exact Nat.le_of_ble_eq_true rfl | simp only [List.map_cons, List.map_nil, List.sum_cons, List.sum_nil, va_rf_cat, x_catI, x_catL, x_catA] <;> decide)) d_ASB_append1_14 (x_le0 hR3 hR4)) ?_
  refine x_aload_n C0 hl 2 d_ASB_append1_17 rfl rfl ?_
  obtain ⟨b_6, e9, h⟩ := Option.bind_eq_some_iff.mp h
  obtain ⟨e8, fs9, hb9⟩ := xo_inv e9
  obtain ⟨q_5, e9, h⟩ := Option.bind_eq_some_iff.mp h
  refine x_callP (va_runV (As := []) (rest := []) C0 (c_ASB_isLatin1 l G w _ b_6 q_5 e9) (x_cwV 0 C0 kw_3_119 kw_3_123 kw_1_14 kw_3_120 kw_3_122 (by decide +kernel) (x_rm hR1 hR2 (Nat.le_of_ble_eq_true rfl) (Nat.le_of_ble_eq_true rfl))) (x_preV hE hH hS (ci := 6) rfl hb9) rfl rfl hl.1 (by rw [e8]; rfl) (lv_room (by first | exact Nat.le_of_ble_eq_true rfl | simp only [List.map_cons, List.map_nil, List.sum_cons, List.sum_nil, va_rf_cat, x_catI, x_catL, x_catA] <;> decide)) d_ASB_append1_18 (x_le0 hR3 hR4)) ?_
  refine x_if_eq C0 37 d_ASB_append1_21 (by decide) h (fun h => ?_) (fun h => ?_)
  · refine x_iload_n C0 hl 3 d_ASB_append1_37 rfl rfl ?_
    refine x_iload_n C0 hl 1 d_ASB_append1_38 rfl rfl ?_
    refine x_iload_n C0 hl 0 d_ASB_append1_39 rfl rfl ?_
    refine x_aload_n C0 hl 2 d_ASB_append1_40 rfl rfl ?_
    refine x_getR C0 hE hH (ci := 6) rfl i_SB 0 (by decide) kw_3_69 d_ASB_append1_41 h (fun v_7 h => ?_)
    cases h
  · refine x_iload_n C0 hl 3 d_ASB_append1_24 rfl rfl ?_
    refine x_iload_n C0 hl 0 d_ASB_append1_25 rfl rfl ?_
    refine x_aload_n C0 hl 2 d_ASB_append1_26 rfl rfl ?_
    refine x_getR C0 hE hH (ci := 6) rfl i_SB 0 (by decide) kw_3_69 d_ASB_append1_27 h (fun v_8 h => ?_)
    obtain ⟨q_9, e9, h⟩ := Option.bind_eq_some_iff.mp h
    refine x_call0 hS (va_runS (As := [.int x1, .int (v_1 + q_2), va_rf v_8]) (rest := []) C0 (c_Int_getChars l G w _ x1 (v_1 + q_2) v_8 q_9 e9) (x_cwS 3 C0 kw_3_182 kw_3_184 kw_1_23 kw_3_183 (by decide +kernel) (x_rm hR1 hR2 (Nat.le_of_ble_eq_true rfl) (Nat.le_of_ble_eq_true rfl))) (x_preS hE hH hS) rfl rfl hl.1 rfl (lv_room (by first | exact Nat.le_of_ble_eq_true rfl | simp only [List.map_cons, List.map_nil, List.sum_cons, List.sum_nil, va_rf_cat, x_catI, x_catL, x_catA] <;> decide)) d_ASB_append1_30 (x_le0 hR3 hR4)) (fun H locs hH hS hz9 => ?_)
    have hz := hz9.trans hz
    refine lv_pop C0.1 C0.2.1 d_ASB_append1_33 rfl ?_
    refine x_goto C0 48 d_ASB_append1_34 (by decide) ?_
    refine x_aload_n C0 hl 2 d_ASB_append1_48 rfl rfl ?_
    refine x_iload_n C0 hl 0 d_ASB_append1_49 rfl rfl ?_
    refine x_put C0 hE hH hS (ci := 6) rfl i_SB t_SB t_SB_ok n_SB 3 (by decide) kw_3_71 rfl rfl rfl d_ASB_append1_50 h (fun w_10 H locs hH hS hz9 h => ?_)
    have hz := hz9.trans hz
    refine x_aload_n C0 hl 2 d_ASB_append1_53 rfl rfl ?_
    have h := Option.some.inj h
    subst h
    rw [hQ]
    exact x_aret C0 hr (Or.inl ⟨_, rfl⟩) hlocks hH hS hz d_ASB_append1_54
theorem d_SB_append1_0 : decode b_SB_append1 0 = .ok (.aload_n 0, 1) := by decide +kernel
theorem d_SB_append1_1 : decode b_SB_append1 1 = .ok (.iload_n 1, 1) := by decide +kernel
theorem d_SB_append1_2 : decode b_SB_append1 2 = .ok (.invokespecial 53, 3) := by decide +kernel
theorem d_SB_append1_5 : decode b_SB_append1 5 = .ok (.pop, 1) := by decide +kernel
theorem d_SB_append1_6 : decode b_SB_append1 6 = .ok (.aload_n 0, 1) := by decide +kernel
theorem d_SB_append1_7 : decode b_SB_append1 7 = .ok (.areturn, 1) := by decide +kernel
def f_SB_append1 (w : Mp) (h0 : Nat) (x1 : Int32) : Option (Option Nat × Mp) := (xo w (some h0) 6).bind fun b_2 => (f_ASB_append1 w b_2 x1).bind fun q_1 => some ((some h0), q_1.2)
set_option maxHeartbeats 4000000 in
set_option maxRecDepth 100000 in
theorem c_SB_append1 (l : Launch) (G : Gx) (w : Mp) (sz : Nat) (h0 : Nat) (x1 : Int32) (res : Option Nat × Mp) (hf : f_SB_append1 w h0 x1 = some res) : Met l y_SB_append1 (xws y_SB_append1 b_SB_append1 2 (some (.object "java/lang/StringBuilder"))) { frames := 2, cells := 0, slots := 0, locals := 49 } (xPc G vwCl xaty w sz [va_rf (some h0), .int x1]) (xQ G vwCl (some (va_rf res.1)) res.2 sz) (0) (0) (xA G) := by
  refine Met.ofW (cc := b_SB_append1) (maxL := 2) (ret := (some (.object "java/lang/StringBuilder"))) (by decide) rfl ?_
  intro p e s m args below meth c s₁ B hml hv
  obtain ⟨ha, hE, hH, hz⟩ := hv
  have C0 : CallFix p m c b_SB_append1 2 s args wA R_SB := ⟨B.exec, B.bytes, hml, findClass_of_methodNamed B.named, fun w hw => atoms_spec (ws := xws y_SB_append1 b_SB_append1 2 (some (.object "java/lang/StringBuilder"))) B.pre w (List.mem_cons_of_mem _ hw)⟩
  have hr := B.returns
  have hlocks := B.notSynchronized
  obtain ⟨R, hR⟩ : ∃ R, R = (headSpec (xws y_SB_append1 b_SB_append1 2 (some (.object "java/lang/StringBuilder"))) { frames := 2, cells := 0, slots := 0, locals := 49 }).room := ⟨_, rfl⟩
  have hR1 : 2 ≤ R.frames := by rw [hR]; exact Nat.le_of_ble_eq_true rfl
  have hR2 : 49 ≤ R.locals := by rw [hR]; exact Nat.le_of_ble_eq_true rfl
  have hR3 : 0 ≤ R.cells := by rw [hR]; exact Nat.le_refl _
  have hR4 : 0 ≤ R.slots := by rw [hR]; exact Nat.le_refl _
  rw [← hR]
  obtain ⟨Q, hQ⟩ : ∃ Q, Q = MQ below (xQ G vwCl (some (va_rf res.1)) res.2 sz) args s (0) (0) (xA G) := ⟨_, rfl⟩
  rw [← hQ]
  have hS : xS G s s.heap [] := va_S.rf
  obtain ⟨ls, he, hl⟩ := x_entry m [.inr (.inl (some h0)), .inl x1] 2 (Nat.le_of_ble_eq_true rfl)
  rw [show entryFrame m args 2 = F0 m 0 ls [] by rw [ha]; exact he]
  have hl : xL ls 2 [(0, .inr (.inl (some h0))), (1, .inl x1)] := hl
  have h := hf
  unfold f_SB_append1 at h
  suffices hmain : ∀ (H : Heap) (locs : List Loc), xhd G vwCl w H → xS G s H locs → H.size = sz → (H = s.heap ∧ locs = []) → W p l e R s m args below meth c H locs 0 0 Q (F0 m 0 ls []) from hmain _ _ hH hS hz ⟨rfl, rfl⟩
  clear hH hS hz
  intro H locs hH hS hz hP0
  refine x_aload_n C0 hl 0 d_SB_append1_0 rfl rfl ?_
  refine x_iload_n C0 hl 1 d_SB_append1_1 rfl rfl ?_
  obtain ⟨b_2, e9, h⟩ := Option.bind_eq_some_iff.mp h
  obtain ⟨e8, fs9, hb9⟩ := xo_inv e9
  obtain ⟨q_1, e9, h⟩ := Option.bind_eq_some_iff.mp h
  obtain ⟨cC9, hat9⟩ := x_clat hE
  refine x_call0 hS (va_runSU hat9 (As := [.int x1]) (rest := []) C0 (c_ASB_append1 l G w _ b_2 x1 q_1 e9) (x_cwSU 1 C0 kw_3_176 kw_5_78 kw_3_80 kw_3_177 kw_1_14 kw_3_178 (by decide +kernel) (x_rm hR1 hR2 (Nat.le_of_ble_eq_true rfl) (Nat.le_of_ble_eq_true rfl))) (x_preV hE hH hS (ci := 6) rfl hb9) rfl rfl hl.1 (by rw [e8]; rfl) (lv_room (by first | exact Nat.le_of_ble_eq_true rfl | simp only [List.map_cons, List.map_nil, List.sum_cons, List.sum_nil, va_rf_cat, x_catI, x_catL, x_catA] <;> decide)) d_SB_append1_2 (x_le0 hR3 hR4)) (fun H locs hH hS hz9 => ?_)
  have hz := hz9.trans hz
  refine lv_pop C0.1 C0.2.1 d_SB_append1_5 (va_rf_cat _) ?_
  refine x_aload_n C0 hl 0 d_SB_append1_6 rfl rfl ?_
  have h := Option.some.inj h
  subst h
  rw [hQ]
  exact x_aret C0 hr (Or.inl ⟨_, rfl⟩) hlocks hH hS hz d_SB_append1_7
theorem d_ASB_length_0 : decode b_ASB_length 0 = .ok (.aload_n 0, 1) := by decide +kernel
theorem d_ASB_length_1 : decode b_ASB_length 1 = .ok (.getfield 79, 3) := by decide +kernel
theorem d_ASB_length_4 : decode b_ASB_length 4 = .ok (.ireturn, 1) := by decide +kernel
def f_ASB_length (w : Mp) (h0 : Nat) : Option (Int32) := (gI w (some h0) 6 3).bind fun v_1 => some v_1
set_option maxHeartbeats 4000000 in
set_option maxRecDepth 100000 in
theorem c_ASB_length (l : Launch) (G : Gx) (w : Mp) (sz : Nat) (h0 : Nat) (res : Int32) (hf : f_ASB_length w h0 = some res) : Met l y_ASB_length (xws y_ASB_length b_ASB_length 1 (some .int)) { frames := 0, cells := 0, slots := 0, locals := 0 } (xPc G vwCl xaty w sz [va_rf (some h0)]) (qP (some (.int res))) (0) (0) (fun _ => False) := by
  refine Met.ofW (cc := b_ASB_length) (maxL := 1) (ret := (some .int)) (by decide) rfl ?_
  intro p e s m args below meth c s₁ B hml hv
  obtain ⟨ha, hE, hH, hz⟩ := hv
  have C0 : CallFix p m c b_ASB_length 1 s args wA R_ASB := ⟨B.exec, B.bytes, hml, findClass_of_methodNamed B.named, fun w hw => atoms_spec (ws := xws y_ASB_length b_ASB_length 1 (some .int)) B.pre w (List.mem_cons_of_mem _ hw)⟩
  have hr := B.returns
  have hlocks := B.notSynchronized
  obtain ⟨R, hR⟩ : ∃ R, R = (headSpec (xws y_ASB_length b_ASB_length 1 (some .int)) { frames := 0, cells := 0, slots := 0, locals := 0 }).room := ⟨_, rfl⟩
  have hR1 : 0 ≤ R.frames := by rw [hR]; exact Nat.le_of_ble_eq_true rfl
  have hR2 : 0 ≤ R.locals := by rw [hR]; exact Nat.le_of_ble_eq_true rfl
  have hR3 : 0 ≤ R.cells := by rw [hR]; exact Nat.le_refl _
  have hR4 : 0 ≤ R.slots := by rw [hR]; exact Nat.le_refl _
  rw [← hR]
  obtain ⟨Q, hQ⟩ : ∃ Q, Q = MQ below (qP (some (.int res))) args s (0) (0) (fun _ => False) := ⟨_, rfl⟩
  rw [← hQ]
  have hS : xS G s s.heap [] := va_S.rf
  obtain ⟨ls, he, hl⟩ := x_entry m [.inr (.inl (some h0))] 1 (Nat.le_of_ble_eq_true rfl)
  rw [show entryFrame m args 1 = F0 m 0 ls [] by rw [ha]; exact he]
  have hl : xL ls 1 [(0, .inr (.inl (some h0)))] := hl
  have h := hf
  unfold f_ASB_length at h
  suffices hmain : ∀ (H : Heap) (locs : List Loc), xhd G vwCl w H → xS G s H locs → H.size = sz → (H = s.heap ∧ locs = []) → W p l e R s m args below meth c H locs 0 0 Q (F0 m 0 ls []) from hmain _ _ hH hS hz ⟨rfl, rfl⟩
  clear hH hS hz
  intro H locs hH hS hz hP0
  refine x_aload_n C0 hl 0 d_ASB_length_0 rfl rfl ?_
  refine x_getI C0 hE hH (ci := 6) rfl i_SB 3 (by decide) kw_3_71 d_ASB_length_1 h (fun v_1 h => ?_)
  have h := Option.some.inj h
  subst h
  rw [hQ]
  exact x_iretP C0 hr hlocks hP0 d_ASB_length_4
theorem d_SB_length_0 : decode b_SB_length 0 = .ok (.aload_n 0, 1) := by decide +kernel
theorem d_SB_length_1 : decode b_SB_length 1 = .ok (.invokespecial 343, 3) := by decide +kernel
theorem d_SB_length_4 : decode b_SB_length 4 = .ok (.ireturn, 1) := by decide +kernel
def f_SB_length (w : Mp) (h0 : Nat) : Option (Int32) := (xo w (some h0) 6).bind fun b_2 => (f_ASB_length w b_2).bind fun q_1 => some q_1
set_option maxHeartbeats 4000000 in
set_option maxRecDepth 100000 in
theorem c_SB_length (l : Launch) (G : Gx) (w : Mp) (sz : Nat) (h0 : Nat) (res : Int32) (hf : f_SB_length w h0 = some res) : Met l y_SB_length (xws y_SB_length b_SB_length 1 (some .int)) { frames := 1, cells := 0, slots := 0, locals := 20 } (xPc G vwCl xaty w sz [va_rf (some h0)]) (qP (some (.int res))) (0) (0) (fun _ => False) := by
  refine Met.ofW (cc := b_SB_length) (maxL := 1) (ret := (some .int)) (by decide) rfl ?_
  intro p e s m args below meth c s₁ B hml hv
  obtain ⟨ha, hE, hH, hz⟩ := hv
  have C0 : CallFix p m c b_SB_length 1 s args wA R_SB := ⟨B.exec, B.bytes, hml, findClass_of_methodNamed B.named, fun w hw => atoms_spec (ws := xws y_SB_length b_SB_length 1 (some .int)) B.pre w (List.mem_cons_of_mem _ hw)⟩
  have hr := B.returns
  have hlocks := B.notSynchronized
  obtain ⟨R, hR⟩ : ∃ R, R = (headSpec (xws y_SB_length b_SB_length 1 (some .int)) { frames := 1, cells := 0, slots := 0, locals := 20 }).room := ⟨_, rfl⟩
  have hR1 : 1 ≤ R.frames := by rw [hR]; exact Nat.le_of_ble_eq_true rfl
  have hR2 : 20 ≤ R.locals := by rw [hR]; exact Nat.le_of_ble_eq_true rfl
  have hR3 : 0 ≤ R.cells := by rw [hR]; exact Nat.le_refl _
  have hR4 : 0 ≤ R.slots := by rw [hR]; exact Nat.le_refl _
  rw [← hR]
  obtain ⟨Q, hQ⟩ : ∃ Q, Q = MQ below (qP (some (.int res))) args s (0) (0) (fun _ => False) := ⟨_, rfl⟩
  rw [← hQ]
  have hS : xS G s s.heap [] := va_S.rf
  obtain ⟨ls, he, hl⟩ := x_entry m [.inr (.inl (some h0))] 1 (Nat.le_of_ble_eq_true rfl)
  rw [show entryFrame m args 1 = F0 m 0 ls [] by rw [ha]; exact he]
  have hl : xL ls 1 [(0, .inr (.inl (some h0)))] := hl
  have h := hf
  unfold f_SB_length at h
  suffices hmain : ∀ (H : Heap) (locs : List Loc), xhd G vwCl w H → xS G s H locs → H.size = sz → (H = s.heap ∧ locs = []) → W p l e R s m args below meth c H locs 0 0 Q (F0 m 0 ls []) from hmain _ _ hH hS hz ⟨rfl, rfl⟩
  clear hH hS hz
  intro H locs hH hS hz hP0
  refine x_aload_n C0 hl 0 d_SB_length_0 rfl rfl ?_
  obtain ⟨b_2, e9, h⟩ := Option.bind_eq_some_iff.mp h
  obtain ⟨e8, fs9, hb9⟩ := xo_inv e9
  obtain ⟨q_1, e9, h⟩ := Option.bind_eq_some_iff.mp h
  obtain ⟨cC9, hat9⟩ := x_clat hE
  refine x_callP (va_runSU hat9 (As := []) (rest := []) C0 (c_ASB_length l G w _ b_2 q_1 e9) (x_cwSU 0 C0 kw_3_230 kw_5_79 kw_3_80 kw_3_231 kw_1_14 kw_3_232 (by decide +kernel) (x_rm hR1 hR2 (Nat.le_of_ble_eq_true rfl) (Nat.le_of_ble_eq_true rfl))) (x_preV hE hH hS (ci := 6) rfl hb9) rfl rfl hl.1 (by rw [e8]; rfl) (lv_room (by first | exact Nat.le_of_ble_eq_true rfl | simp only [List.map_cons, List.map_nil, List.sum_cons, List.sum_nil, va_rf_cat, x_catI, x_catL, x_catA] <;> decide)) d_SB_length_1 (x_le0 hR3 hR4)) ?_
  have h := Option.some.inj h
  subst h
  rw [hQ]
  exact x_iretP C0 hr hlocks hP0 d_SB_length_4
theorem d_Pre_checkIndex_0 : decode b_Pre_checkIndex 0 = .ok (.iload_n 0, 1) := by decide +kernel
theorem d_Pre_checkIndex_1 : decode b_Pre_checkIndex 1 = .ok (.ifCond .lt 8, 3) := by decide +kernel
theorem d_Pre_checkIndex_4 : decode b_Pre_checkIndex 4 = .ok (.iload_n 0, 1) := by decide +kernel
theorem d_Pre_checkIndex_5 : decode b_Pre_checkIndex 5 = .ok (.iload_n 1, 1) := by decide +kernel
theorem d_Pre_checkIndex_6 : decode b_Pre_checkIndex 6 = .ok (.if_icmp .lt 10, 3) := by decide +kernel
theorem d_Pre_checkIndex_9 : decode b_Pre_checkIndex 9 = .ok (.aload_n 2, 1) := by decide +kernel
theorem d_Pre_checkIndex_10 : decode b_Pre_checkIndex 10 = .ok (.iload_n 0, 1) := by decide +kernel
theorem d_Pre_checkIndex_11 : decode b_Pre_checkIndex 11 = .ok (.iload_n 1, 1) := by decide +kernel
theorem d_Pre_checkIndex_12 : decode b_Pre_checkIndex 12 = .ok (.invokestatic 95, 3) := by decide +kernel
theorem d_Pre_checkIndex_15 : decode b_Pre_checkIndex 15 = .ok (.athrow, 1) := by decide +kernel
theorem d_Pre_checkIndex_16 : decode b_Pre_checkIndex 16 = .ok (.iload_n 0, 1) := by decide +kernel
theorem d_Pre_checkIndex_17 : decode b_Pre_checkIndex 17 = .ok (.ireturn, 1) := by decide +kernel
def f_Pre_checkIndex (w : Mp) (x0 : Int32) (x1 : Int32) (r2 : Option Nat) : Option (Int32) := if x0 < 0 then (none) else (if x0 < x1 then (some x0) else (none))
set_option maxHeartbeats 4000000 in
set_option maxRecDepth 100000 in
theorem c_Pre_checkIndex (l : Launch) (G : Gx) (w : Mp) (sz : Nat) (x0 : Int32) (x1 : Int32) (r2 : Option Nat) (res : Int32) (hf : f_Pre_checkIndex w x0 x1 r2 = some res) : Met l y_Pre_checkIndex (xws y_Pre_checkIndex b_Pre_checkIndex 3 (some .int)) { frames := 0, cells := 0, slots := 0, locals := 0 } (xPc G vwCl xaty w sz [.int x0, .int x1, va_rf r2]) (qP (some (.int res))) (0) (0) (fun _ => False) := by
  refine Met.ofW (cc := b_Pre_checkIndex) (maxL := 3) (ret := (some .int)) (by decide) rfl ?_
  intro p e s m args below meth c s₁ B hml hv
  obtain ⟨ha, hE, hH, hz⟩ := hv
  have C0 : CallFix p m c b_Pre_checkIndex 3 s args wA R_Pre := ⟨B.exec, B.bytes, hml, findClass_of_methodNamed B.named, fun w hw => atoms_spec (ws := xws y_Pre_checkIndex b_Pre_checkIndex 3 (some .int)) B.pre w (List.mem_cons_of_mem _ hw)⟩
  have hr := B.returns
  have hlocks := B.notSynchronized
  obtain ⟨R, hR⟩ : ∃ R, R = (headSpec (xws y_Pre_checkIndex b_Pre_checkIndex 3 (some .int)) { frames := 0, cells := 0, slots := 0, locals := 0 }).room := ⟨_, rfl⟩
  have hR1 : 0 ≤ R.frames := by rw [hR]; exact Nat.le_of_ble_eq_true rfl
  have hR2 : 0 ≤ R.locals := by rw [hR]; exact Nat.le_of_ble_eq_true rfl
  have hR3 : 0 ≤ R.cells := by rw [hR]; exact Nat.le_refl _
  have hR4 : 0 ≤ R.slots := by rw [hR]; exact Nat.le_refl _
  rw [← hR]
  obtain ⟨Q, hQ⟩ : ∃ Q, Q = MQ below (qP (some (.int res))) args s (0) (0) (fun _ => False) := ⟨_, rfl⟩
  rw [← hQ]
  have hS : xS G s s.heap [] := va_S.rf
  obtain ⟨ls, he, hl⟩ := x_entry m [.inl x0, .inl x1, .inr (.inl r2)] 3 (Nat.le_of_ble_eq_true rfl)
  rw [show entryFrame m args 3 = F0 m 0 ls [] by rw [ha]; exact he]
  have hl : xL ls 3 [(0, .inl x0), (1, .inl x1), (2, .inr (.inl r2))] := hl
  have h := hf
  unfold f_Pre_checkIndex at h
  suffices hmain : ∀ (H : Heap) (locs : List Loc), xhd G vwCl w H → xS G s H locs → H.size = sz → (H = s.heap ∧ locs = []) → W p l e R s m args below meth c H locs 0 0 Q (F0 m 0 ls []) from hmain _ _ hH hS hz ⟨rfl, rfl⟩
  clear hH hS hz
  intro H locs hH hS hz hP0
  refine x_iload_n C0 hl 0 d_Pre_checkIndex_0 rfl rfl ?_
  refine x_if_lt C0 9 d_Pre_checkIndex_1 (by decide) h (fun h => ?_) (fun h => ?_)
  · refine x_aload_n C0 hl 2 d_Pre_checkIndex_9 rfl rfl ?_
    refine x_iload_n C0 hl 0 d_Pre_checkIndex_10 rfl rfl ?_
    refine x_iload_n C0 hl 1 d_Pre_checkIndex_11 rfl rfl ?_
    cases h
  · refine x_iload_n C0 hl 0 d_Pre_checkIndex_4 rfl rfl ?_
    refine x_iload_n C0 hl 1 d_Pre_checkIndex_5 rfl rfl ?_
    refine x_icmp_lt C0 16 d_Pre_checkIndex_6 (by decide) h (fun h => ?_) (fun h => ?_)
    · refine x_iload_n C0 hl 0 d_Pre_checkIndex_16 rfl rfl ?_
      cases h
      rw [hQ]
      exact x_iretP C0 hr hlocks hP0 d_Pre_checkIndex_17
    · refine x_aload_n C0 hl 2 d_Pre_checkIndex_9 rfl rfl ?_
      refine x_iload_n C0 hl 0 d_Pre_checkIndex_10 rfl rfl ?_
      refine x_iload_n C0 hl 1 d_Pre_checkIndex_11 rfl rfl ?_
      cases h
theorem d_Str_checkIndex_0 : decode b_Str_checkIndex 0 = .ok (.iload_n 0, 1) := by decide +kernel
theorem d_Str_checkIndex_1 : decode b_Str_checkIndex 1 = .ok (.iload_n 1, 1) := by decide +kernel
theorem d_Str_checkIndex_2 : decode b_Str_checkIndex 2 = .ok (.getstatic 1053, 3) := by decide +kernel
theorem d_Str_checkIndex_5 : decode b_Str_checkIndex 5 = .ok (.invokestatic 1059, 3) := by decide +kernel
theorem d_Str_checkIndex_8 : decode b_Str_checkIndex 8 = .ok (.pop, 1) := by decide +kernel
theorem d_Str_checkIndex_9 : decode b_Str_checkIndex 9 = .ok (.return_, 1) := by decide +kernel
def f_Str_checkIndex (w : Mp) (x0 : Int32) (x1 : Int32) : Option (Unit) := (f_Pre_checkIndex w x0 x1 none).bind fun q_1 => some ()
set_option maxHeartbeats 4000000 in
set_option maxRecDepth 100000 in
theorem c_Str_checkIndex (l : Launch) (G : Gx) (w : Mp) (sz : Nat) (x0 : Int32) (x1 : Int32) (res : Unit) (hf : f_Str_checkIndex w x0 x1 = some res) : Met l y_Str_checkIndex (xws y_Str_checkIndex b_Str_checkIndex 2 none) { frames := 1, cells := 0, slots := 0, locals := 22 } (xPc G vwCl xaty w sz [.int x0, .int x1]) (qP (none)) (0) (0) (fun _ => False) := by
  refine Met.ofW (cc := b_Str_checkIndex) (maxL := 2) (ret := none) (by decide) rfl ?_
  intro p e s m args below meth c s₁ B hml hv
  obtain ⟨ha, hE, hH, hz⟩ := hv
  have C0 : CallFix p m c b_Str_checkIndex 2 s args wA R_Str := ⟨B.exec, B.bytes, hml, findClass_of_methodNamed B.named, fun w hw => atoms_spec (ws := xws y_Str_checkIndex b_Str_checkIndex 2 none) B.pre w (List.mem_cons_of_mem _ hw)⟩
  have hr := B.returns
  have hlocks := B.notSynchronized
  obtain ⟨R, hR⟩ : ∃ R, R = (headSpec (xws y_Str_checkIndex b_Str_checkIndex 2 none) { frames := 1, cells := 0, slots := 0, locals := 22 }).room := ⟨_, rfl⟩
  have hR1 : 1 ≤ R.frames := by rw [hR]; exact Nat.le_of_ble_eq_true rfl
  have hR2 : 22 ≤ R.locals := by rw [hR]; exact Nat.le_of_ble_eq_true rfl
  have hR3 : 0 ≤ R.cells := by rw [hR]; exact Nat.le_refl _
  have hR4 : 0 ≤ R.slots := by rw [hR]; exact Nat.le_refl _
  rw [← hR]
  obtain ⟨Q, hQ⟩ : ∃ Q, Q = MQ below (qP (none)) args s (0) (0) (fun _ => False) := ⟨_, rfl⟩
  rw [← hQ]
  have hS : xS G s s.heap [] := va_S.rf
  obtain ⟨ls, he, hl⟩ := x_entry m [.inl x0, .inl x1] 2 (Nat.le_of_ble_eq_true rfl)
  rw [show entryFrame m args 2 = F0 m 0 ls [] by rw [ha]; exact he]
  have hl : xL ls 2 [(0, .inl x0), (1, .inl x1)] := hl
  have h := hf
  unfold f_Str_checkIndex at h
  suffices hmain : ∀ (H : Heap) (locs : List Loc), xhd G vwCl w H → xS G s H locs → H.size = sz → (H = s.heap ∧ locs = []) → W p l e R s m args below meth c H locs 0 0 Q (F0 m 0 ls []) from hmain _ _ hH hS hz ⟨rfl, rfl⟩
  clear hH hS hz
  intro H locs hH hS hz hP0
  refine x_iload_n C0 hl 0 d_Str_checkIndex_0 rfl rfl ?_
  refine x_iload_n C0 hl 1 d_Str_checkIndex_1 rfl rfl ?_
  obtain ⟨r9x, hr9x⟩ := x_sio hE
  refine x_gsio C0 hS hr9x kw_3_146 d_Str_checkIndex_2 ?_
  obtain ⟨q_1, e9, h⟩ := Option.bind_eq_some_iff.mp h
  refine x_callP (va_runS (As := [.int x0, .int x1, va_rf r9x]) (rest := []) C0 (c_Pre_checkIndex l G w _ x0 x1 r9x q_1 e9) (x_cwS 3 C0 kw_3_169 kw_3_171 kw_1_22 kw_3_170 (by decide +kernel) (x_rm hR1 hR2 (Nat.le_of_ble_eq_true rfl) (Nat.le_of_ble_eq_true rfl))) (x_preS hE hH hS) rfl rfl hl.1 rfl (lv_room (by first | exact Nat.le_of_ble_eq_true rfl | simp only [List.map_cons, List.map_nil, List.sum_cons, List.sum_nil, va_rf_cat, x_catI, x_catL, x_catA] <;> decide)) d_Str_checkIndex_5 (x_le0 hR3 hR4)) ?_
  refine lv_pop C0.1 C0.2.1 d_Str_checkIndex_8 rfl ?_
  have h := Option.some.inj h
  subst h
  rw [hQ]
  exact x_vretP C0 hr hlocks hP0 d_Str_checkIndex_9
theorem d_ASB_charAt_0 : decode b_ASB_charAt 0 = .ok (.aload_n 0, 1) := by decide +kernel
theorem d_ASB_charAt_1 : decode b_ASB_charAt 1 = .ok (.getfield 22, 3) := by decide +kernel
theorem d_ASB_charAt_4 : decode b_ASB_charAt 4 = .ok (.istore_n 2, 1) := by decide +kernel
theorem d_ASB_charAt_5 : decode b_ASB_charAt 5 = .ok (.aload_n 0, 1) := by decide +kernel
theorem d_ASB_charAt_6 : decode b_ASB_charAt 6 = .ok (.getfield 15, 3) := by decide +kernel
theorem d_ASB_charAt_9 : decode b_ASB_charAt 9 = .ok (.astore_n 3, 1) := by decide +kernel
theorem d_ASB_charAt_10 : decode b_ASB_charAt 10 = .ok (.aload_n 0, 1) := by decide +kernel
theorem d_ASB_charAt_11 : decode b_ASB_charAt 11 = .ok (.getfield 79, 3) := by decide +kernel
theorem d_ASB_charAt_14 : decode b_ASB_charAt 14 = .ok (.aload_n 3, 1) := by decide +kernel
theorem d_ASB_charAt_15 : decode b_ASB_charAt 15 = .ok (.arraylength, 1) := by decide +kernel
theorem d_ASB_charAt_16 : decode b_ASB_charAt 16 = .ok (.iload_n 2, 1) := by decide +kernel
theorem d_ASB_charAt_17 : decode b_ASB_charAt 17 = .ok (.ishr, 1) := by decide +kernel
theorem d_ASB_charAt_18 : decode b_ASB_charAt 18 = .ok (.invokestatic 138, 3) := by decide +kernel
theorem d_ASB_charAt_21 : decode b_ASB_charAt 21 = .ok (.istore 4, 2) := by decide +kernel
theorem d_ASB_charAt_23 : decode b_ASB_charAt 23 = .ok (.iload_n 1, 1) := by decide +kernel
theorem d_ASB_charAt_24 : decode b_ASB_charAt 24 = .ok (.iload 4, 2) := by decide +kernel
theorem d_ASB_charAt_26 : decode b_ASB_charAt 26 = .ok (.invokestatic 144, 3) := by decide +kernel
theorem d_ASB_charAt_29 : decode b_ASB_charAt 29 = .ok (.iload_n 2, 1) := by decide +kernel
theorem d_ASB_charAt_30 : decode b_ASB_charAt 30 = .ok (.ifCond .ne 12, 3) := by decide +kernel
theorem d_ASB_charAt_33 : decode b_ASB_charAt 33 = .ok (.aload_n 3, 1) := by decide +kernel
theorem d_ASB_charAt_34 : decode b_ASB_charAt 34 = .ok (.iload_n 1, 1) := by decide +kernel
theorem d_ASB_charAt_35 : decode b_ASB_charAt 35 = .ok (.baload, 1) := by decide +kernel
theorem d_ASB_charAt_36 : decode b_ASB_charAt 36 = .ok (.sipush 255, 3) := by decide +kernel
theorem d_ASB_charAt_39 : decode b_ASB_charAt 39 = .ok (.iand, 1) := by decide +kernel
theorem d_ASB_charAt_40 : decode b_ASB_charAt 40 = .ok (.i2c, 1) := by decide +kernel
theorem d_ASB_charAt_41 : decode b_ASB_charAt 41 = .ok (.ireturn, 1) := by decide +kernel
theorem d_ASB_charAt_42 : decode b_ASB_charAt 42 = .ok (.aload_n 3, 1) := by decide +kernel
theorem d_ASB_charAt_43 : decode b_ASB_charAt 43 = .ok (.iload_n 1, 1) := by decide +kernel
theorem d_ASB_charAt_44 : decode b_ASB_charAt 44 = .ok (.invokestatic 148, 3) := by decide +kernel
theorem d_ASB_charAt_47 : decode b_ASB_charAt 47 = .ok (.ireturn, 1) := by decide +kernel
def f_ASB_charAt (w : Mp) (h0 : Nat) (x1 : Int32) : Option (Int32) := (gI w (some h0) 6 1).bind fun v_1 => (gR w (some h0) 6 0).bind fun v_2 => (gI w (some h0) 6 3).bind fun v_3 => (aL w v_2 6).bind fun v_4 => (f_Str_checkIndex w x1 (if (v_4 >>> (v_1 &&& 31)) < v_3 then (v_4 >>> (v_1 &&& 31)) else v_3)).bind fun q_5 => if v_1 = 0 then ((aI w v_2 6 x1).bind fun v_6 => if vp_nar .char (((v_6 &&& (255 : Int32)).toUInt32 % 65536).toInt32) = (((v_6 &&& (255 : Int32)).toUInt32 % 65536).toInt32) then some (((v_6 &&& (255 : Int32)).toUInt32 % 65536).toInt32) else none) else (none)
set_option maxHeartbeats 4000000 in
set_option maxRecDepth 100000 in
theorem c_ASB_charAt (l : Launch) (G : Gx) (w : Mp) (sz : Nat) (h0 : Nat) (x1 : Int32) (res : Int32) (hf : f_ASB_charAt w h0 x1 = some res) : Met l y_ASB_charAt (xws y_ASB_charAt b_ASB_charAt 5 (some .char)) { frames := 2, cells := 0, slots := 0, locals := 43 } (xPc G vwCl xaty w sz [va_rf (some h0), .int x1]) (qP (some (.int res))) (0) (0) (fun _ => False) := by
  refine Met.ofW (cc := b_ASB_charAt) (maxL := 5) (ret := (some .char)) (by decide) rfl ?_
  intro p e s m args below meth c s₁ B hml hv
  obtain ⟨ha, hE, hH, hz⟩ := hv
  have C0 : CallFix p m c b_ASB_charAt 5 s args wA R_ASB := ⟨B.exec, B.bytes, hml, findClass_of_methodNamed B.named, fun w hw => atoms_spec (ws := xws y_ASB_charAt b_ASB_charAt 5 (some .char)) B.pre w (List.mem_cons_of_mem _ hw)⟩
  have hr := B.returns
  have hlocks := B.notSynchronized
  obtain ⟨R, hR⟩ : ∃ R, R = (headSpec (xws y_ASB_charAt b_ASB_charAt 5 (some .char)) { frames := 2, cells := 0, slots := 0, locals := 43 }).room := ⟨_, rfl⟩
  have hR1 : 2 ≤ R.frames := by rw [hR]; exact Nat.le_of_ble_eq_true rfl
  have hR2 : 43 ≤ R.locals := by rw [hR]; exact Nat.le_of_ble_eq_true rfl
  have hR3 : 0 ≤ R.cells := by rw [hR]; exact Nat.le_refl _
  have hR4 : 0 ≤ R.slots := by rw [hR]; exact Nat.le_refl _
  rw [← hR]
  obtain ⟨Q, hQ⟩ : ∃ Q, Q = MQ below (qP (some (.int res))) args s (0) (0) (fun _ => False) := ⟨_, rfl⟩
  rw [← hQ]
  have hS : xS G s s.heap [] := va_S.rf
  obtain ⟨ls, he, hl⟩ := x_entry m [.inr (.inl (some h0)), .inl x1] 5 (Nat.le_of_ble_eq_true rfl)
  rw [show entryFrame m args 5 = F0 m 0 ls [] by rw [ha]; exact he]
  have hl : xL ls 5 [(0, .inr (.inl (some h0))), (1, .inl x1)] := hl
  have h := hf
  unfold f_ASB_charAt at h
  suffices hmain : ∀ (H : Heap) (locs : List Loc), xhd G vwCl w H → xS G s H locs → H.size = sz → (H = s.heap ∧ locs = []) → W p l e R s m args below meth c H locs 0 0 Q (F0 m 0 ls []) from hmain _ _ hH hS hz ⟨rfl, rfl⟩
  clear hH hS hz
  intro H locs hH hS hz hP0
  refine x_aload_n C0 hl 0 d_ASB_charAt_0 rfl rfl ?_
  refine x_getI C0 hE hH (ci := 6) rfl i_SB 1 (by decide) kw_3_70 d_ASB_charAt_1 h (fun v_1 h => ?_)
  refine x_istore_n (lv' := [(2, .inl v_1), (0, .inr (.inl (some h0))), (1, .inl x1)]) C0 hl d_ASB_charAt_4 rfl (by decide) rfl (fun ls hl => ?_)
  refine x_aload_n C0 hl 1 d_ASB_charAt_5 rfl rfl ?_
  refine x_getR C0 hE hH (ci := 6) rfl i_SB 0 (by decide) kw_3_69 d_ASB_charAt_6 h (fun v_2 h => ?_)
  refine x_astore_n (lv' := [(3, .inr (.inl v_2)), (2, .inl v_1), (0, .inr (.inl (some h0))), (1, .inl x1)]) C0 hl d_ASB_charAt_9 rfl (by decide) rfl (fun ls hl => ?_)
  refine x_aload_n C0 hl 2 d_ASB_charAt_10 rfl rfl ?_
  refine x_getI C0 hE hH (ci := 6) rfl i_SB 3 (by decide) kw_3_71 d_ASB_charAt_11 h (fun v_3 h => ?_)
  refine x_aload_n C0 hl 0 d_ASB_charAt_14 rfl rfl ?_
  refine x_alen C0 hE hH (t := 6) rfl d_ASB_charAt_15 h (fun v_4 h => ?_)
  refine x_iload_n C0 hl 1 d_ASB_charAt_16 rfl rfl ?_
  refine lv_ishr C0.1 C0.2.1 d_ASB_charAt_17 ?_
  refine va_mmin C0.1 C0.2.1 (C0.2.2.1.trans hl.1.symm) C0.2.2.2.1 (C0.2.2.2.2 _ kw_4_0) (C0.2.2.2.2 _ kw_2_217) (C0.2.2.2.2 _ kw_1_13) (C0.2.2.2.2 _ kw_2_218) (Nat.le_trans (by decide) hR1) (Nat.le_trans (by first | exact Nat.le_of_ble_eq_true rfl | simp only [List.map_cons, List.map_nil, List.sum_cons, List.sum_nil, va_rf_cat, x_catI, x_catL, x_catA] <;> decide) hR2) hR3 hR4 d_ASB_charAt_18 ?_
  refine x_istore (lv' := [(4, .inl (if (v_4 >>> (v_1 &&& 31)) < v_3 then (v_4 >>> (v_1 &&& 31)) else v_3)), (3, .inr (.inl v_2)), (2, .inl v_1), (0, .inr (.inl (some h0))), (1, .inl x1)]) C0 hl d_ASB_charAt_21 (by decide) rfl (fun ls hl => ?_)
  refine x_iload_n C0 hl 4 d_ASB_charAt_23 rfl rfl ?_
  refine x_iload C0 hl 0 d_ASB_charAt_24 rfl ?_
  obtain ⟨q_5, e9, h⟩ := Option.bind_eq_some_iff.mp h
  refine x_callP (va_runS (As := [.int x1, .int (if (v_4 >>> (v_1 &&& 31)) < v_3 then (v_4 >>> (v_1 &&& 31)) else v_3)]) (rest := []) C0 (c_Str_checkIndex l G w _ x1 (if (v_4 >>> (v_1 &&& 31)) < v_3 then (v_4 >>> (v_1 &&& 31)) else v_3) q_5 e9) (x_cwS 2 C0 kw_4_1 kw_3_168 kw_1_16 kw_3_167 (by decide +kernel) (x_rm hR1 hR2 (Nat.le_of_ble_eq_true rfl) (Nat.le_of_ble_eq_true rfl))) (x_preS hE hH hS) rfl rfl hl.1 rfl (lv_room (by first | exact Nat.le_of_ble_eq_true rfl | simp only [List.map_cons, List.map_nil, List.sum_cons, List.sum_nil, va_rf_cat, x_catI, x_catL, x_catA] <;> decide)) d_ASB_charAt_26 (x_le0 hR3 hR4)) ?_
  refine x_iload_n C0 hl 2 d_ASB_charAt_29 rfl rfl ?_
  refine x_if_ne C0 42 d_ASB_charAt_30 (by decide) h (fun h => ?_) (fun h => ?_)
  · refine x_aload_n C0 hl 1 d_ASB_charAt_42 rfl rfl ?_
    refine x_iload_n C0 hl 4 d_ASB_charAt_43 rfl rfl ?_
    cases h
  · refine x_aload_n C0 hl 1 d_ASB_charAt_33 rfl rfl ?_
    refine x_iload_n C0 hl 4 d_ASB_charAt_34 rfl rfl ?_
    refine x_bald C0 hE hH (t := 6) rfl d_ASB_charAt_35 h (fun v_6 h => ?_)
    refine lv_sipush (v := 255) C0.1 C0.2.1 d_ASB_charAt_36 (by decide) ?_
    refine lv_iand C0.1 C0.2.1 d_ASB_charAt_39 ?_
    refine lv_i2c C0.1 C0.2.1 d_ASB_charAt_40 rfl ?_
    obtain ⟨hn9, h⟩ := x_ifs h
    have h := Option.some.inj h
    subst h
    rw [hQ]
    exact x_zretP C0 hr hlocks hP0 (x_nar (fun _ => ⟨_, rfl⟩) hn9) d_ASB_charAt_41
theorem d_SB_charAt_0 : decode b_SB_charAt 0 = .ok (.aload_n 0, 1) := by decide +kernel
theorem d_SB_charAt_1 : decode b_SB_charAt 1 = .ok (.iload_n 1, 1) := by decide +kernel
theorem d_SB_charAt_2 : decode b_SB_charAt 2 = .ok (.invokespecial 329, 3) := by decide +kernel
theorem d_SB_charAt_5 : decode b_SB_charAt 5 = .ok (.ireturn, 1) := by decide +kernel
def f_SB_charAt (w : Mp) (h0 : Nat) (x1 : Int32) : Option (Int32) := (xo w (some h0) 6).bind fun b_2 => (f_ASB_charAt w b_2 x1).bind fun q_1 => if vp_nar .char q_1 = q_1 then some q_1 else none
set_option maxHeartbeats 4000000 in
set_option maxRecDepth 100000 in
theorem c_SB_charAt (l : Launch) (G : Gx) (w : Mp) (sz : Nat) (h0 : Nat) (x1 : Int32) (res : Int32) (hf : f_SB_charAt w h0 x1 = some res) : Met l y_SB_charAt (xws y_SB_charAt b_SB_charAt 2 (some .char)) { frames := 3, cells := 0, slots := 0, locals := 67 } (xPc G vwCl xaty w sz [va_rf (some h0), .int x1]) (qP (some (.int res))) (0) (0) (fun _ => False) := by
  refine Met.ofW (cc := b_SB_charAt) (maxL := 2) (ret := (some .char)) (by decide) rfl ?_
  intro p e s m args below meth c s₁ B hml hv
  obtain ⟨ha, hE, hH, hz⟩ := hv
  have C0 : CallFix p m c b_SB_charAt 2 s args wA R_SB := ⟨B.exec, B.bytes, hml, findClass_of_methodNamed B.named, fun w hw => atoms_spec (ws := xws y_SB_charAt b_SB_charAt 2 (some .char)) B.pre w (List.mem_cons_of_mem _ hw)⟩
  have hr := B.returns
  have hlocks := B.notSynchronized
  obtain ⟨R, hR⟩ : ∃ R, R = (headSpec (xws y_SB_charAt b_SB_charAt 2 (some .char)) { frames := 3, cells := 0, slots := 0, locals := 67 }).room := ⟨_, rfl⟩
  have hR1 : 3 ≤ R.frames := by rw [hR]; exact Nat.le_of_ble_eq_true rfl
  have hR2 : 67 ≤ R.locals := by rw [hR]; exact Nat.le_of_ble_eq_true rfl
  have hR3 : 0 ≤ R.cells := by rw [hR]; exact Nat.le_refl _
  have hR4 : 0 ≤ R.slots := by rw [hR]; exact Nat.le_refl _
  rw [← hR]
  obtain ⟨Q, hQ⟩ : ∃ Q, Q = MQ below (qP (some (.int res))) args s (0) (0) (fun _ => False) := ⟨_, rfl⟩
  rw [← hQ]
  have hS : xS G s s.heap [] := va_S.rf
  obtain ⟨ls, he, hl⟩ := x_entry m [.inr (.inl (some h0)), .inl x1] 2 (Nat.le_of_ble_eq_true rfl)
  rw [show entryFrame m args 2 = F0 m 0 ls [] by rw [ha]; exact he]
  have hl : xL ls 2 [(0, .inr (.inl (some h0))), (1, .inl x1)] := hl
  have h := hf
  unfold f_SB_charAt at h
  suffices hmain : ∀ (H : Heap) (locs : List Loc), xhd G vwCl w H → xS G s H locs → H.size = sz → (H = s.heap ∧ locs = []) → W p l e R s m args below meth c H locs 0 0 Q (F0 m 0 ls []) from hmain _ _ hH hS hz ⟨rfl, rfl⟩
  clear hH hS hz
  intro H locs hH hS hz hP0
  refine x_aload_n C0 hl 0 d_SB_charAt_0 rfl rfl ?_
  refine x_iload_n C0 hl 1 d_SB_charAt_1 rfl rfl ?_
  obtain ⟨b_2, e9, h⟩ := Option.bind_eq_some_iff.mp h
  obtain ⟨e8, fs9, hb9⟩ := xo_inv e9
  obtain ⟨q_1, e9, h⟩ := Option.bind_eq_some_iff.mp h
  obtain ⟨cC9, hat9⟩ := x_clat hE
  refine x_callP (va_runSU hat9 (As := [.int x1]) (rest := []) C0 (c_ASB_charAt l G w _ b_2 x1 q_1 e9) (x_cwSU 1 C0 kw_3_237 kw_5_80 kw_3_80 kw_3_238 kw_1_14 kw_3_239 (by decide +kernel) (x_rm hR1 hR2 (Nat.le_of_ble_eq_true rfl) (Nat.le_of_ble_eq_true rfl))) (x_preV hE hH hS (ci := 6) rfl hb9) rfl rfl hl.1 (by rw [e8]; rfl) (lv_room (by first | exact Nat.le_of_ble_eq_true rfl | simp only [List.map_cons, List.map_nil, List.sum_cons, List.sum_nil, va_rf_cat, x_catI, x_catL, x_catA] <;> decide)) d_SB_charAt_2 (x_le0 hR3 hR4)) ?_
  obtain ⟨hn9, h⟩ := x_ifs h
  have h := Option.some.inj h
  subst h
  rw [hQ]
  exact x_zretP C0 hr hlocks hP0 (x_nar (fun _ => ⟨_, rfl⟩) hn9) d_SB_charAt_5
theorem d_Str_isLatin1_0 : decode b_Str_isLatin1 0 = .ok (.getstatic 38, 3) := by decide +kernel
theorem d_Str_isLatin1_3 : decode b_Str_isLatin1 3 = .ok (.ifCond .eq 14, 3) := by decide +kernel
theorem d_Str_isLatin1_6 : decode b_Str_isLatin1 6 = .ok (.aload_n 0, 1) := by decide +kernel
theorem d_Str_isLatin1_7 : decode b_Str_isLatin1 7 = .ok (.getfield 15, 3) := by decide +kernel
theorem d_Str_isLatin1_10 : decode b_Str_isLatin1 10 = .ok (.ifCond .ne 7, 3) := by decide +kernel
theorem d_Str_isLatin1_13 : decode b_Str_isLatin1 13 = .ok (.iconst 1, 1) := by decide +kernel
theorem d_Str_isLatin1_14 : decode b_Str_isLatin1 14 = .ok (.goto 4, 3) := by decide +kernel
theorem d_Str_isLatin1_17 : decode b_Str_isLatin1 17 = .ok (.iconst 0, 1) := by decide +kernel
theorem d_Str_isLatin1_18 : decode b_Str_isLatin1 18 = .ok (.ireturn, 1) := by decide +kernel
def f_Str_isLatin1 (w : Mp)  : Option (Int32) := if (1 : Int32) = 0 then (some (0 : Int32)) else (if (0 : Int32) = 0 then (some (1 : Int32)) else (some (0 : Int32)))
set_option maxHeartbeats 4000000 in
set_option maxRecDepth 100000 in
theorem c_Str_isLatin1 (l : Launch) (G : Gx) (w : Mp) (sz : Nat)  (res : Int32) (hf : f_Str_isLatin1 w  = some res) : Met l y_Str_isLatin1 (xws y_Str_isLatin1 b_Str_isLatin1 1 (some .boolean)) { frames := 0, cells := 0, slots := 0, locals := 0 } (xPc G vwCl xaty w sz [va_rf (some (G.2.2.2 3))]) (qP (some (.int res))) (0) (0) (fun _ => False) := by
  refine Met.ofW (cc := b_Str_isLatin1) (maxL := 1) (ret := (some .boolean)) (by decide) rfl ?_
  intro p e s m args below meth c s₁ B hml hv
  obtain ⟨ha, hE, hH, hz⟩ := hv
  have C0 : CallFix p m c b_Str_isLatin1 1 s args wA R_Str := ⟨B.exec, B.bytes, hml, findClass_of_methodNamed B.named, fun w hw => atoms_spec (ws := xws y_Str_isLatin1 b_Str_isLatin1 1 (some .boolean)) B.pre w (List.mem_cons_of_mem _ hw)⟩
  have hr := B.returns
  have hlocks := B.notSynchronized
  obtain ⟨R, hR⟩ : ∃ R, R = (headSpec (xws y_Str_isLatin1 b_Str_isLatin1 1 (some .boolean)) { frames := 0, cells := 0, slots := 0, locals := 0 }).room := ⟨_, rfl⟩
  have hR1 : 0 ≤ R.frames := by rw [hR]; exact Nat.le_of_ble_eq_true rfl
  have hR2 : 0 ≤ R.locals := by rw [hR]; exact Nat.le_of_ble_eq_true rfl
  have hR3 : 0 ≤ R.cells := by rw [hR]; exact Nat.le_refl _
  have hR4 : 0 ≤ R.slots := by rw [hR]; exact Nat.le_refl _
  rw [← hR]
  obtain ⟨Q, hQ⟩ : ∃ Q, Q = MQ below (qP (some (.int res))) args s (0) (0) (fun _ => False) := ⟨_, rfl⟩
  rw [← hQ]
  have hS : xS G s s.heap [] := va_S.rf
  obtain ⟨ls, he, hl⟩ := x_entry m [.inr (.inl (some (G.2.2.2 3)))] 1 (Nat.le_of_ble_eq_true rfl)
  rw [show entryFrame m args 1 = F0 m 0 ls [] by rw [ha]; exact he]
  have hl : xL ls 1 [(0, .inr (.inl (some (G.2.2.2 3))))] := hl
  have h := hf
  unfold f_Str_isLatin1 at h
  suffices hmain : ∀ (H : Heap) (locs : List Loc), xhd G vwCl w H → xS G s H locs → H.size = sz → (H = s.heap ∧ locs = []) → W p l e R s m args below meth c H locs 0 0 Q (F0 m 0 ls []) from hmain _ _ hH hS hz ⟨rfl, rfl⟩
  clear hH hS hz
  intro H locs hH hS hz hP0
  refine x_gz C0 hE hS kw_3_215 d_Str_isLatin1_0 ?_
  refine x_if_eq C0 17 d_Str_isLatin1_3 (by decide) h (fun h => ?_) (fun h => ?_)
  · refine lv_iconst (v := 0) C0.1 C0.2.1 d_Str_isLatin1_17 (by decide) ?_
    have h := Option.some.inj h
    subst h
    rw [hQ]
    exact x_zretP C0 hr hlocks hP0 rfl d_Str_isLatin1_18
  · refine x_aload_n C0 hl 0 d_Str_isLatin1_6 rfl rfl ?_
    refine x_kc C0 hE hS kw_5_81 d_Str_isLatin1_7 ?_
    refine x_if_ne C0 17 d_Str_isLatin1_10 (by decide) h (fun h => ?_) (fun h => ?_)
    · refine lv_iconst (v := 0) C0.1 C0.2.1 d_Str_isLatin1_17 (by decide) ?_
      have h := Option.some.inj h
      subst h
      rw [hQ]
      exact x_zretP C0 hr hlocks hP0 rfl d_Str_isLatin1_18
    · refine lv_iconst (v := 1) C0.1 C0.2.1 d_Str_isLatin1_13 (by decide) ?_
      refine x_goto C0 18 d_Str_isLatin1_14 (by decide) ?_
      have h := Option.some.inj h
      subst h
      rw [hQ]
      exact x_zretP C0 hr hlocks hP0 rfl d_Str_isLatin1_18
theorem d_SL1_charAt_0 : decode b_SL1_charAt 0 = .ok (.iload_n 1, 1) := by decide +kernel
theorem d_SL1_charAt_1 : decode b_SL1_charAt 1 = .ok (.aload_n 0, 1) := by decide +kernel
theorem d_SL1_charAt_2 : decode b_SL1_charAt 2 = .ok (.arraylength, 1) := by decide +kernel
theorem d_SL1_charAt_3 : decode b_SL1_charAt 3 = .ok (.invokestatic 9, 3) := by decide +kernel
theorem d_SL1_charAt_6 : decode b_SL1_charAt 6 = .ok (.aload_n 0, 1) := by decide +kernel
theorem d_SL1_charAt_7 : decode b_SL1_charAt 7 = .ok (.iload_n 1, 1) := by decide +kernel
theorem d_SL1_charAt_8 : decode b_SL1_charAt 8 = .ok (.baload, 1) := by decide +kernel
theorem d_SL1_charAt_9 : decode b_SL1_charAt 9 = .ok (.sipush 255, 3) := by decide +kernel
theorem d_SL1_charAt_12 : decode b_SL1_charAt 12 = .ok (.iand, 1) := by decide +kernel
theorem d_SL1_charAt_13 : decode b_SL1_charAt 13 = .ok (.i2c, 1) := by decide +kernel
theorem d_SL1_charAt_14 : decode b_SL1_charAt 14 = .ok (.ireturn, 1) := by decide +kernel
def f_SL1_charAt (w : Mp) (x1 : Int32) : Option (Int32) := (f_Str_checkIndex w x1 (4 : Int32)).bind fun q_1 => (xkl x1).bind fun v_2 => if vp_nar .char (((v_2 &&& (255 : Int32)).toUInt32 % 65536).toInt32) = (((v_2 &&& (255 : Int32)).toUInt32 % 65536).toInt32) then some (((v_2 &&& (255 : Int32)).toUInt32 % 65536).toInt32) else none
set_option maxHeartbeats 4000000 in
set_option maxRecDepth 100000 in
theorem c_SL1_charAt (l : Launch) (G : Gx) (w : Mp) (sz : Nat) (x1 : Int32) (res : Int32) (hf : f_SL1_charAt w x1 = some res) : Met l y_SL1_charAt (xws y_SL1_charAt b_SL1_charAt 2 (some .char)) { frames := 2, cells := 0, slots := 0, locals := 43 } (xPc G vwCl xaty w sz [va_rf (some (G.2.2.2 4)), .int x1]) (qP (some (.int res))) (0) (0) (fun _ => False) := by
  refine Met.ofW (cc := b_SL1_charAt) (maxL := 2) (ret := (some .char)) (by decide) rfl ?_
  intro p e s m args below meth c s₁ B hml hv
  obtain ⟨ha, hE, hH, hz⟩ := hv
  have C0 : CallFix p m c b_SL1_charAt 2 s args wA R_SL1 := ⟨B.exec, B.bytes, hml, findClass_of_methodNamed B.named, fun w hw => atoms_spec (ws := xws y_SL1_charAt b_SL1_charAt 2 (some .char)) B.pre w (List.mem_cons_of_mem _ hw)⟩
  have hr := B.returns
  have hlocks := B.notSynchronized
  obtain ⟨R, hR⟩ : ∃ R, R = (headSpec (xws y_SL1_charAt b_SL1_charAt 2 (some .char)) { frames := 2, cells := 0, slots := 0, locals := 43 }).room := ⟨_, rfl⟩
  have hR1 : 2 ≤ R.frames := by rw [hR]; exact Nat.le_of_ble_eq_true rfl
  have hR2 : 43 ≤ R.locals := by rw [hR]; exact Nat.le_of_ble_eq_true rfl
  have hR3 : 0 ≤ R.cells := by rw [hR]; exact Nat.le_refl _
  have hR4 : 0 ≤ R.slots := by rw [hR]; exact Nat.le_refl _
  rw [← hR]
  obtain ⟨Q, hQ⟩ : ∃ Q, Q = MQ below (qP (some (.int res))) args s (0) (0) (fun _ => False) := ⟨_, rfl⟩
  rw [← hQ]
  have hS : xS G s s.heap [] := va_S.rf
  obtain ⟨ls, he, hl⟩ := x_entry m [.inr (.inl (some (G.2.2.2 4))), .inl x1] 2 (Nat.le_of_ble_eq_true rfl)
  rw [show entryFrame m args 2 = F0 m 0 ls [] by rw [ha]; exact he]
  have hl : xL ls 2 [(0, .inr (.inl (some (G.2.2.2 4)))), (1, .inl x1)] := hl
  have h := hf
  unfold f_SL1_charAt at h
  suffices hmain : ∀ (H : Heap) (locs : List Loc), xhd G vwCl w H → xS G s H locs → H.size = sz → (H = s.heap ∧ locs = []) → W p l e R s m args below meth c H locs 0 0 Q (F0 m 0 ls []) from hmain _ _ hH hS hz ⟨rfl, rfl⟩
  clear hH hS hz
  intro H locs hH hS hz hP0
  refine x_iload_n C0 hl 1 d_SL1_charAt_0 rfl rfl ?_
  refine x_aload_n C0 hl 0 d_SL1_charAt_1 rfl rfl ?_
  refine x_klen C0 hE hS d_SL1_charAt_2 ?_
  obtain ⟨q_1, e9, h⟩ := Option.bind_eq_some_iff.mp h
  refine x_callP (va_runS (As := [.int x1, .int (4 : Int32)]) (rest := []) C0 (c_Str_checkIndex l G w _ x1 (4 : Int32) q_1 e9) (x_cwS 2 C0 kw_3_219 kw_3_168 kw_1_16 kw_3_167 (by decide +kernel) (x_rm hR1 hR2 (Nat.le_of_ble_eq_true rfl) (Nat.le_of_ble_eq_true rfl))) (x_preS hE hH hS) rfl rfl hl.1 rfl (lv_room (by first | exact Nat.le_of_ble_eq_true rfl | simp only [List.map_cons, List.map_nil, List.sum_cons, List.sum_nil, va_rf_cat, x_catI, x_catL, x_catA] <;> decide)) d_SL1_charAt_3 (x_le0 hR3 hR4)) ?_
  refine x_aload_n C0 hl 0 d_SL1_charAt_6 rfl rfl ?_
  refine x_iload_n C0 hl 1 d_SL1_charAt_7 rfl rfl ?_
  refine x_kld C0 hE hS d_SL1_charAt_8 h (fun v_2 h => ?_)
  refine lv_sipush (v := 255) C0.1 C0.2.1 d_SL1_charAt_9 (by decide) ?_
  refine lv_iand C0.1 C0.2.1 d_SL1_charAt_12 ?_
  refine lv_i2c C0.1 C0.2.1 d_SL1_charAt_13 rfl ?_
  obtain ⟨hn9, h⟩ := x_ifs h
  have h := Option.some.inj h
  subst h
  rw [hQ]
  exact x_zretP C0 hr hlocks hP0 (x_nar (fun _ => ⟨_, rfl⟩) hn9) d_SL1_charAt_14
theorem d_Str_charAt_0 : decode b_Str_charAt 0 = .ok (.aload_n 0, 1) := by decide +kernel
theorem d_Str_charAt_1 : decode b_Str_charAt 1 = .ok (.invokevirtual 492, 3) := by decide +kernel
theorem d_Str_charAt_4 : decode b_Str_charAt 4 = .ok (.ifCond .eq 12, 3) := by decide +kernel
theorem d_Str_charAt_7 : decode b_Str_charAt 7 = .ok (.aload_n 0, 1) := by decide +kernel
theorem d_Str_charAt_8 : decode b_Str_charAt 8 = .ok (.getfield 9, 3) := by decide +kernel
theorem d_Str_charAt_11 : decode b_Str_charAt 11 = .ok (.iload_n 1, 1) := by decide +kernel
theorem d_Str_charAt_12 : decode b_Str_charAt 12 = .ok (.invokestatic 495, 3) := by decide +kernel
theorem d_Str_charAt_15 : decode b_Str_charAt 15 = .ok (.ireturn, 1) := by decide +kernel
theorem d_Str_charAt_16 : decode b_Str_charAt 16 = .ok (.aload_n 0, 1) := by decide +kernel
theorem d_Str_charAt_17 : decode b_Str_charAt 17 = .ok (.getfield 9, 3) := by decide +kernel
theorem d_Str_charAt_20 : decode b_Str_charAt 20 = .ok (.iload_n 1, 1) := by decide +kernel
theorem d_Str_charAt_21 : decode b_Str_charAt 21 = .ok (.invokestatic 498, 3) := by decide +kernel
theorem d_Str_charAt_24 : decode b_Str_charAt 24 = .ok (.ireturn, 1) := by decide +kernel
def f_Str_charAt (w : Mp) (x1 : Int32) : Option (Int32) := (f_Str_isLatin1 w ).bind fun q_1 => if q_1 = 0 then (none) else ((f_SL1_charAt w x1).bind fun q_2 => if vp_nar .char q_2 = q_2 then some q_2 else none)
set_option maxHeartbeats 4000000 in
set_option maxRecDepth 100000 in
theorem c_Str_charAt (l : Launch) (G : Gx) (w : Mp) (sz : Nat) (x1 : Int32) (res : Int32) (hf : f_Str_charAt w x1 = some res) : Met l y_Str_charAt (xws y_Str_charAt b_Str_charAt 2 (some .char)) { frames := 3, cells := 0, slots := 0, locals := 64 } (xPc G vwCl xaty w sz [va_rf (some (G.2.2.2 3)), .int x1]) (qP (some (.int res))) (0) (0) (fun _ => False) := by
  refine Met.ofW (cc := b_Str_charAt) (maxL := 2) (ret := (some .char)) (by decide) rfl ?_
  intro p e s m args below meth c s₁ B hml hv
  obtain ⟨ha, hE, hH, hz⟩ := hv
  have C0 : CallFix p m c b_Str_charAt 2 s args wA R_Str := ⟨B.exec, B.bytes, hml, findClass_of_methodNamed B.named, fun w hw => atoms_spec (ws := xws y_Str_charAt b_Str_charAt 2 (some .char)) B.pre w (List.mem_cons_of_mem _ hw)⟩
  have hr := B.returns
  have hlocks := B.notSynchronized
  obtain ⟨R, hR⟩ : ∃ R, R = (headSpec (xws y_Str_charAt b_Str_charAt 2 (some .char)) { frames := 3, cells := 0, slots := 0, locals := 64 }).room := ⟨_, rfl⟩
  have hR1 : 3 ≤ R.frames := by rw [hR]; exact Nat.le_of_ble_eq_true rfl
  have hR2 : 64 ≤ R.locals := by rw [hR]; exact Nat.le_of_ble_eq_true rfl
  have hR3 : 0 ≤ R.cells := by rw [hR]; exact Nat.le_refl _
  have hR4 : 0 ≤ R.slots := by rw [hR]; exact Nat.le_refl _
  rw [← hR]
  obtain ⟨Q, hQ⟩ : ∃ Q, Q = MQ below (qP (some (.int res))) args s (0) (0) (fun _ => False) := ⟨_, rfl⟩
  rw [← hQ]
  have hS : xS G s s.heap [] := va_S.rf
  obtain ⟨ls, he, hl⟩ := x_entry m [.inr (.inl (some (G.2.2.2 3))), .inl x1] 2 (Nat.le_of_ble_eq_true rfl)
  rw [show entryFrame m args 2 = F0 m 0 ls [] by rw [ha]; exact he]
  have hl : xL ls 2 [(0, .inr (.inl (some (G.2.2.2 3)))), (1, .inl x1)] := hl
  have h := hf
  unfold f_Str_charAt at h
  suffices hmain : ∀ (H : Heap) (locs : List Loc), xhd G vwCl w H → xS G s H locs → H.size = sz → (H = s.heap ∧ locs = []) → W p l e R s m args below meth c H locs 0 0 Q (F0 m 0 ls []) from hmain _ _ hH hS hz ⟨rfl, rfl⟩
  clear hH hS hz
  intro H locs hH hS hz hP0
  refine x_aload_n C0 hl 0 d_Str_charAt_0 rfl rfl ?_
  obtain ⟨q_1, e9, h⟩ := Option.bind_eq_some_iff.mp h
  refine x_callP (va_runV (As := []) (rest := []) C0 (c_Str_isLatin1 l G w _  q_1 e9) (x_cwV 0 C0 kw_3_211 kw_3_214 kw_1_16 kw_3_212 kw_3_213 (by decide +kernel) (x_rm hR1 hR2 (Nat.le_of_ble_eq_true rfl) (Nat.le_of_ble_eq_true rfl))) (x_preK hE hH hS) rfl rfl hl.1 rfl (lv_room (by first | exact Nat.le_of_ble_eq_true rfl | simp only [List.map_cons, List.map_nil, List.sum_cons, List.sum_nil, va_rf_cat, x_catI, x_catL, x_catA] <;> decide)) d_Str_charAt_1 (x_le0 hR3 hR4)) ?_
  refine x_if_eq C0 16 d_Str_charAt_4 (by decide) h (fun h => ?_) (fun h => ?_)
  · refine x_aload_n C0 hl 0 d_Str_charAt_16 rfl rfl ?_
    refine x_kv C0 hE hS kw_5_82 d_Str_charAt_17 ?_
    refine x_iload_n C0 hl 1 d_Str_charAt_20 rfl rfl ?_
    cases h
  · refine x_aload_n C0 hl 0 d_Str_charAt_7 rfl rfl ?_
    refine x_kv C0 hE hS kw_5_82 d_Str_charAt_8 ?_
    refine x_iload_n C0 hl 1 d_Str_charAt_11 rfl rfl ?_
    obtain ⟨q_2, e9, h⟩ := Option.bind_eq_some_iff.mp h
    refine x_callP (va_runS (As := [va_rf (some (G.2.2.2 4)), .int x1]) (rest := []) C0 (c_SL1_charAt l G w _ x1 q_2 e9) (x_cwS 2 C0 kw_3_216 kw_3_218 kw_1_21 kw_3_217 (by decide +kernel) (x_rm hR1 hR2 (Nat.le_of_ble_eq_true rfl) (Nat.le_of_ble_eq_true rfl))) (x_preS hE hH hS) rfl rfl hl.1 rfl (lv_room (by first | exact Nat.le_of_ble_eq_true rfl | simp only [List.map_cons, List.map_nil, List.sum_cons, List.sum_nil, va_rf_cat, x_catI, x_catL, x_catA] <;> decide)) d_Str_charAt_12 (x_le0 hR3 hR4)) ?_
    obtain ⟨hn9, h⟩ := x_ifs h
    have h := Option.some.inj h
    subst h
    rw [hQ]
    exact x_zretP C0 hr hlocks hP0 (x_nar (fun _ => ⟨_, rfl⟩) hn9) d_Str_charAt_15
theorem d_LM_writtenOn_0 : decode b_LM_writtenOn 0 = .ok (.new 208, 3) := by decide +kernel
theorem d_LM_writtenOn_3 : decode b_LM_writtenOn 3 = .ok (.dup, 1) := by decide +kernel
theorem d_LM_writtenOn_4 : decode b_LM_writtenOn 4 = .ok (.invokespecial 268, 3) := by decide +kernel
theorem d_LM_writtenOn_7 : decode b_LM_writtenOn 7 = .ok (.astore_n 3, 1) := by decide +kernel
theorem d_LM_writtenOn_8 : decode b_LM_writtenOn 8 = .ok (.aload_n 3, 1) := by decide +kernel
theorem d_LM_writtenOn_9 : decode b_LM_writtenOn 9 = .ok (.bipush 70, 2) := by decide +kernel
theorem d_LM_writtenOn_11 : decode b_LM_writtenOn 11 = .ok (.invokevirtual 269, 3) := by decide +kernel
theorem d_LM_writtenOn_14 : decode b_LM_writtenOn 14 = .ok (.pop, 1) := by decide +kernel
theorem d_LM_writtenOn_15 : decode b_LM_writtenOn 15 = .ok (.aload_n 3, 1) := by decide +kernel
theorem d_LM_writtenOn_16 : decode b_LM_writtenOn 16 = .ok (.iload_n 0, 1) := by decide +kernel
theorem d_LM_writtenOn_17 : decode b_LM_writtenOn 17 = .ok (.iconst 1, 1) := by decide +kernel
theorem d_LM_writtenOn_18 : decode b_LM_writtenOn 18 = .ok (.iadd, 1) := by decide +kernel
theorem d_LM_writtenOn_19 : decode b_LM_writtenOn 19 = .ok (.invokevirtual 273, 3) := by decide +kernel
theorem d_LM_writtenOn_22 : decode b_LM_writtenOn 22 = .ok (.pop, 1) := by decide +kernel
theorem d_LM_writtenOn_23 : decode b_LM_writtenOn 23 = .ok (.aload_n 3, 1) := by decide +kernel
theorem d_LM_writtenOn_24 : decode b_LM_writtenOn 24 = .ok (.ldc_w 276, 3) := by decide +kernel
theorem d_LM_writtenOn_27 : decode b_LM_writtenOn 27 = .ok (.iload_n 1, 1) := by decide +kernel
theorem d_LM_writtenOn_28 : decode b_LM_writtenOn 28 = .ok (.invokevirtual 278, 3) := by decide +kernel
theorem d_LM_writtenOn_31 : decode b_LM_writtenOn 31 = .ok (.invokevirtual 269, 3) := by decide +kernel
theorem d_LM_writtenOn_34 : decode b_LM_writtenOn 34 = .ok (.pop, 1) := by decide +kernel
theorem d_LM_writtenOn_35 : decode b_LM_writtenOn 35 = .ok (.aload_n 3, 1) := by decide +kernel
theorem d_LM_writtenOn_36 : decode b_LM_writtenOn 36 = .ok (.aload_n 2, 1) := by decide +kernel
theorem d_LM_writtenOn_37 : decode b_LM_writtenOn 37 = .ok (.getfield 142, 3) := by decide +kernel
theorem d_LM_writtenOn_40 : decode b_LM_writtenOn 40 = .ok (.getfield 255, 3) := by decide +kernel
theorem d_LM_writtenOn_43 : decode b_LM_writtenOn 43 = .ok (.invokevirtual 273, 3) := by decide +kernel
theorem d_LM_writtenOn_46 : decode b_LM_writtenOn 46 = .ok (.pop, 1) := by decide +kernel
theorem d_LM_writtenOn_47 : decode b_LM_writtenOn 47 = .ok (.aload_n 2, 1) := by decide +kernel
theorem d_LM_writtenOn_48 : decode b_LM_writtenOn 48 = .ok (.getfield 151, 3) := by decide +kernel
theorem d_LM_writtenOn_51 : decode b_LM_writtenOn 51 = .ok (.ifCond .eq 10, 3) := by decide +kernel
theorem d_LM_writtenOn_54 : decode b_LM_writtenOn 54 = .ok (.aload_n 3, 1) := by decide +kernel
theorem d_LM_writtenOn_55 : decode b_LM_writtenOn 55 = .ok (.bipush 109, 2) := by decide +kernel
theorem d_LM_writtenOn_57 : decode b_LM_writtenOn 57 = .ok (.invokevirtual 269, 3) := by decide +kernel
theorem d_LM_writtenOn_60 : decode b_LM_writtenOn 60 = .ok (.pop, 1) := by decide +kernel
theorem d_LM_writtenOn_61 : decode b_LM_writtenOn 61 = .ok (.aload_n 2, 1) := by decide +kernel
theorem d_LM_writtenOn_62 : decode b_LM_writtenOn 62 = .ok (.getfield 154, 3) := by decide +kernel
theorem d_LM_writtenOn_65 : decode b_LM_writtenOn 65 = .ok (.ifCond .eq 10, 3) := by decide +kernel
theorem d_LM_writtenOn_68 : decode b_LM_writtenOn 68 = .ok (.aload_n 3, 1) := by decide +kernel
theorem d_LM_writtenOn_69 : decode b_LM_writtenOn 69 = .ok (.bipush 116, 2) := by decide +kernel
theorem d_LM_writtenOn_71 : decode b_LM_writtenOn 71 = .ok (.invokevirtual 269, 3) := by decide +kernel
theorem d_LM_writtenOn_74 : decode b_LM_writtenOn 74 = .ok (.pop, 1) := by decide +kernel
theorem d_LM_writtenOn_75 : decode b_LM_writtenOn 75 = .ok (.aload_n 3, 1) := by decide +kernel
theorem d_LM_writtenOn_76 : decode b_LM_writtenOn 76 = .ok (.areturn, 1) := by decide +kernel
def f_LM_writtenOn (w : Mp) (sz : Nat) (x0 : Int32) (x1 : Int32) (r2 : Option Nat) : Option (Option Nat × Mp × Nat) := (xnO w sz 6 [.null, .int 0, .int 0, .int 0]).bind fun w_1 => (xo w_1 (some sz) 6).bind fun b_3 => (f_SB_init w_1 (sz + 1) b_3).bind fun q_2 => (xo q_2.2.1 (some sz) 6).bind fun b_5 => (f_SB_append0 q_2.2.1 b_5 (70 : Int32)).bind fun q_4 => (xo q_4.2 (some sz) 6).bind fun b_7 => (f_SB_append1 q_4.2 b_7 (x0 + (1 : Int32))).bind fun q_6 => (f_Str_charAt q_6.2 x1).bind fun q_8 => (xo q_6.2 (some sz) 6).bind fun b_10 => (f_SB_append0 q_6.2 b_10 q_8).bind fun q_9 => (gR q_9.2 r2 2 0).bind fun v_11 => (gI q_9.2 v_11 1 2).bind fun v_12 => (xo q_9.2 (some sz) 6).bind fun b_14 => (f_SB_append1 q_9.2 b_14 v_12).bind fun q_13 => (gI q_13.2 r2 2 1).bind fun v_15 => xJ1 (fun (w_16 : Mp) => (gI w_16 r2 2 2).bind fun v_18 => if v_18 = 0 then (some ((some sz), w_16, q_2.2.2)) else ((xo w_16 (some sz) 6).bind fun b_20 => (f_SB_append0 w_16 b_20 (116 : Int32)).bind fun q_19 => some ((some sz), q_19.2, q_2.2.2))) fun J_17 => if v_15 = 0 then (J_17 q_13.2) else ((xo q_13.2 (some sz) 6).bind fun b_22 => (f_SB_append0 q_13.2 b_22 (109 : Int32)).bind fun q_21 => J_17 q_21.2)
set_option maxHeartbeats 4000000 in
set_option maxRecDepth 100000 in
theorem c_LM_writtenOn (l : Launch) (G : Gx) (w : Mp) (sz : Nat) (x0 : Int32) (x1 : Int32) (r2 : Option Nat) (res : Option Nat × Mp × Nat) (hf : f_LM_writtenOn w sz x0 x1 r2 = some res) : Met l y_LM_writtenOn (xws y_LM_writtenOn b_LM_writtenOn 4 (some (.object "java/lang/StringBuilder"))) { frames := 4, cells := 2, slots := 20, locals := 85 } (xPc G vwCl xaty w sz [.int x0, .int x1, va_rf r2]) (xQ G vwCl (some (va_rf res.1)) res.2.1 res.2.2) (2) (20) (xA G) := by
  refine Met.ofW (cc := b_LM_writtenOn) (maxL := 4) (ret := (some (.object "java/lang/StringBuilder"))) (by decide) rfl ?_
  intro p e s m args below meth c s₁ B hml hv
  obtain ⟨ha, hE, hH, hz⟩ := hv
  have C0 : CallFix p m c b_LM_writtenOn 4 s args wA R_LM := ⟨B.exec, B.bytes, hml, findClass_of_methodNamed B.named, fun w hw => atoms_spec (ws := xws y_LM_writtenOn b_LM_writtenOn 4 (some (.object "java/lang/StringBuilder"))) B.pre w (List.mem_cons_of_mem _ hw)⟩
  have hr := B.returns
  have hlocks := B.notSynchronized
  obtain ⟨R, hR⟩ : ∃ R, R = (headSpec (xws y_LM_writtenOn b_LM_writtenOn 4 (some (.object "java/lang/StringBuilder"))) { frames := 4, cells := 2, slots := 20, locals := 85 }).room := ⟨_, rfl⟩
  have hR1 : 4 ≤ R.frames := by rw [hR]; exact Nat.le_of_ble_eq_true rfl
  have hR2 : 85 ≤ R.locals := by rw [hR]; exact Nat.le_of_ble_eq_true rfl
  have hR3 : 2 ≤ R.cells := by rw [hR]; exact Nat.le_refl _
  have hR4 : 20 ≤ R.slots := by rw [hR]; exact Nat.le_refl _
  rw [← hR]
  obtain ⟨Q, hQ⟩ : ∃ Q, Q = MQ below (xQ G vwCl (some (va_rf res.1)) res.2.1 res.2.2) args s (2) (20) (xA G) := ⟨_, rfl⟩
  rw [← hQ]
  have hS : xS G s s.heap [] := va_S.rf
  obtain ⟨ls, he, hl⟩ := x_entry m [.inl x0, .inl x1, .inr (.inl r2)] 4 (Nat.le_of_ble_eq_true rfl)
  rw [show entryFrame m args 4 = F0 m 0 ls [] by rw [ha]; exact he]
  have hl : xL ls 4 [(0, .inl x0), (1, .inl x1), (2, .inr (.inl r2))] := hl
  have h := hf
  unfold f_LM_writtenOn at h
  suffices hmain : ∀ (H : Heap) (locs : List Loc), xhd G vwCl w H → xS G s H locs → H.size = sz → (H = s.heap ∧ locs = []) → W p l e R s m args below meth c H locs 0 0 Q (F0 m 0 ls []) from hmain _ _ hH hS hz ⟨rfl, rfl⟩
  clear hH hS hz
  intro H locs hH hS hz hP0
  refine x_new (fs := [.null, .int 0, .int 0, .int 0]) C0 hE hH hS hz (ci := 6) rfl i_SB t_SB t_SB_ok kw_3_51 kw_3_52 kw_1_15 (fun j hj => by rcases (show j = 0 ∨ j = 1 ∨ j = 2 ∨ j = 3 by omega) with rfl | rfl | rfl | rfl <;> rfl) (Nat.le_trans (by omega) hR3) (Nat.le_trans (by omega) hR4) d_LM_writtenOn_0 h (fun w_1 H hH hS hz h => ?_)
  refine W.widen (k := 1) (n := 4) (by omega) (by omega) ?_
  refine lv_dup C0.1 C0.2.1 d_LM_writtenOn_3 (va_rf_cat _) ?_
  obtain ⟨b_3, e9, h⟩ := Option.bind_eq_some_iff.mp h
  obtain ⟨e8, fs9, hb9⟩ := xo_inv e9
  obtain ⟨q_2, e9, h⟩ := Option.bind_eq_some_iff.mp h
  have e9 := (show f_SB_init w_1 (Array.size H) b_3 = some q_2 by rw [hz]; exact e9)
  refine x_call hS (va_runI (As := []) (rest := [va_rf (some sz)]) C0 (c_SB_init l G w_1 _ b_3 q_2 e9) (x_cwI 0 C0 kw_3_53 kw_3_55 kw_1_15 kw_3_54 rfl (by decide +kernel) (x_rm hR1 hR2 (Nat.le_of_ble_eq_true rfl) (Nat.le_of_ble_eq_true rfl))) (x_preS hE hH hS) rfl rfl hl.1 (by rw [e8]; rfl) (lv_room (by first | exact Nat.le_of_ble_eq_true rfl | simp only [List.map_cons, List.map_nil, List.sum_cons, List.sum_nil, va_rf_cat, x_catI, x_catL, x_catA] <;> decide)) d_LM_writtenOn_4 ⟨Nat.le_trans (by omega) hR3, Nat.le_trans (by omega) hR4⟩) (fun H locs hH hS hz => ?_)
  refine W.widen (k := 2) (n := 20) (by omega) (by omega) ?_
  refine x_astore_n (lv' := [(3, .inr (.inl (some sz))), (0, .inl x0), (1, .inl x1), (2, .inr (.inl r2))]) C0 hl d_LM_writtenOn_7 rfl (by decide) rfl (fun ls hl => ?_)
  refine x_aload_n C0 hl 0 d_LM_writtenOn_8 rfl rfl ?_
  refine lv_bipush (v := 70) C0.1 C0.2.1 d_LM_writtenOn_9 (by decide) ?_
  obtain ⟨b_5, e9, h⟩ := Option.bind_eq_some_iff.mp h
  obtain ⟨e8, fs9, hb9⟩ := xo_inv e9
  obtain ⟨q_4, e9, h⟩ := Option.bind_eq_some_iff.mp h
  refine x_call0 hS (va_runV (As := [.int (70 : Int32)]) (rest := []) C0 (c_SB_append0 l G q_2.2.1 _ b_5 (70 : Int32) q_4 e9) (x_cwV 1 C0 kw_3_81 kw_3_84 kw_1_15 kw_3_82 kw_3_83 (by decide +kernel) (x_rm hR1 hR2 (Nat.le_of_ble_eq_true rfl) (Nat.le_of_ble_eq_true rfl))) (x_preV hE hH hS (ci := 6) rfl hb9) rfl rfl hl.1 (by rw [e8]; rfl) (lv_room (by first | exact Nat.le_of_ble_eq_true rfl | simp only [List.map_cons, List.map_nil, List.sum_cons, List.sum_nil, va_rf_cat, x_catI, x_catL, x_catA] <;> decide)) d_LM_writtenOn_11 (x_le0 (Nat.le_trans (by omega) hR3) (Nat.le_trans (by omega) hR4))) (fun H locs hH hS hz9 => ?_)
  have hz := hz9.trans hz
  refine lv_pop C0.1 C0.2.1 d_LM_writtenOn_14 (va_rf_cat _) ?_
  refine x_aload_n C0 hl 0 d_LM_writtenOn_15 rfl rfl ?_
  refine x_iload_n C0 hl 1 d_LM_writtenOn_16 rfl rfl ?_
  refine lv_iconst (v := 1) C0.1 C0.2.1 d_LM_writtenOn_17 (by decide) ?_
  refine lv_iadd C0.1 C0.2.1 d_LM_writtenOn_18 ?_
  obtain ⟨b_7, e9, h⟩ := Option.bind_eq_some_iff.mp h
  obtain ⟨e8, fs9, hb9⟩ := xo_inv e9
  obtain ⟨q_6, e9, h⟩ := Option.bind_eq_some_iff.mp h
  refine x_call0 hS (va_runV (As := [.int (x0 + (1 : Int32))]) (rest := []) C0 (c_SB_append1 l G q_4.2 _ b_7 (x0 + (1 : Int32)) q_6 e9) (x_cwV 1 C0 kw_3_172 kw_3_175 kw_1_15 kw_3_173 kw_3_174 (by decide +kernel) (x_rm hR1 hR2 (Nat.le_of_ble_eq_true rfl) (Nat.le_of_ble_eq_true rfl))) (x_preV hE hH hS (ci := 6) rfl hb9) rfl rfl hl.1 (by rw [e8]; rfl) (lv_room (by first | exact Nat.le_of_ble_eq_true rfl | simp only [List.map_cons, List.map_nil, List.sum_cons, List.sum_nil, va_rf_cat, x_catI, x_catL, x_catA] <;> decide)) d_LM_writtenOn_19 (x_le0 (Nat.le_trans (by omega) hR3) (Nat.le_trans (by omega) hR4))) (fun H locs hH hS hz9 => ?_)
  have hz := hz9.trans hz
  refine lv_pop C0.1 C0.2.1 d_LM_writtenOn_22 (va_rf_cat _) ?_
  refine x_aload_n C0 hl 0 d_LM_writtenOn_23 rfl rfl ?_
  refine x_ldk C0 hE d_LM_writtenOn_24 ?_
  refine x_iload_n C0 hl 2 d_LM_writtenOn_27 rfl rfl ?_
  obtain ⟨q_8, e9, h⟩ := Option.bind_eq_some_iff.mp h
  refine x_callP (va_runV (As := [.int x1]) (rest := [va_rf (some sz)]) C0 (c_Str_charAt l G q_6.2 _ x1 q_8 e9) (x_cwV 1 C0 kw_3_207 kw_3_210 kw_1_16 kw_3_208 kw_3_209 (by decide +kernel) (x_rm hR1 hR2 (Nat.le_of_ble_eq_true rfl) (Nat.le_of_ble_eq_true rfl))) (x_preK hE hH hS) rfl rfl hl.1 rfl (lv_room (by first | exact Nat.le_of_ble_eq_true rfl | simp only [List.map_cons, List.map_nil, List.sum_cons, List.sum_nil, va_rf_cat, x_catI, x_catL, x_catA] <;> decide)) d_LM_writtenOn_28 (x_le0 (Nat.le_trans (by omega) hR3) (Nat.le_trans (by omega) hR4))) ?_
  obtain ⟨b_10, e9, h⟩ := Option.bind_eq_some_iff.mp h
  obtain ⟨e8, fs9, hb9⟩ := xo_inv e9
  obtain ⟨q_9, e9, h⟩ := Option.bind_eq_some_iff.mp h
  refine x_call0 hS (va_runV (As := [.int q_8]) (rest := []) C0 (c_SB_append0 l G q_6.2 _ b_10 q_8 q_9 e9) (x_cwV 1 C0 kw_3_81 kw_3_84 kw_1_15 kw_3_82 kw_3_83 (by decide +kernel) (x_rm hR1 hR2 (Nat.le_of_ble_eq_true rfl) (Nat.le_of_ble_eq_true rfl))) (x_preV hE hH hS (ci := 6) rfl hb9) rfl rfl hl.1 (by rw [e8]; rfl) (lv_room (by first | exact Nat.le_of_ble_eq_true rfl | simp only [List.map_cons, List.map_nil, List.sum_cons, List.sum_nil, va_rf_cat, x_catI, x_catL, x_catA] <;> decide)) d_LM_writtenOn_31 (x_le0 (Nat.le_trans (by omega) hR3) (Nat.le_trans (by omega) hR4))) (fun H locs hH hS hz9 => ?_)
  have hz := hz9.trans hz
  refine lv_pop C0.1 C0.2.1 d_LM_writtenOn_34 (va_rf_cat _) ?_
  refine x_aload_n C0 hl 0 d_LM_writtenOn_35 rfl rfl ?_
  refine x_aload_n C0 hl 3 d_LM_writtenOn_36 rfl rfl ?_
  refine x_getR C0 hE hH (ci := 2) rfl i_Piece 0 (by decide) kw_2_106 d_LM_writtenOn_37 h (fun v_11 h => ?_)
  refine x_getI C0 hE hH (ci := 1) rfl i_Leaf 2 (by decide) kw_1_215 d_LM_writtenOn_40 h (fun v_12 h => ?_)
  obtain ⟨b_14, e9, h⟩ := Option.bind_eq_some_iff.mp h
  obtain ⟨e8, fs9, hb9⟩ := xo_inv e9
  obtain ⟨q_13, e9, h⟩ := Option.bind_eq_some_iff.mp h
  refine x_call0 hS (va_runV (As := [.int v_12]) (rest := []) C0 (c_SB_append1 l G q_9.2 _ b_14 v_12 q_13 e9) (x_cwV 1 C0 kw_3_172 kw_3_175 kw_1_15 kw_3_173 kw_3_174 (by decide +kernel) (x_rm hR1 hR2 (Nat.le_of_ble_eq_true rfl) (Nat.le_of_ble_eq_true rfl))) (x_preV hE hH hS (ci := 6) rfl hb9) rfl rfl hl.1 (by rw [e8]; rfl) (lv_room (by first | exact Nat.le_of_ble_eq_true rfl | simp only [List.map_cons, List.map_nil, List.sum_cons, List.sum_nil, va_rf_cat, x_catI, x_catL, x_catA] <;> decide)) d_LM_writtenOn_43 (x_le0 (Nat.le_trans (by omega) hR3) (Nat.le_trans (by omega) hR4))) (fun H locs hH hS hz9 => ?_)
  have hz := hz9.trans hz
  refine lv_pop C0.1 C0.2.1 d_LM_writtenOn_46 (va_rf_cat _) ?_
  refine x_aload_n C0 hl 3 d_LM_writtenOn_47 rfl rfl ?_
  refine x_getI C0 hE hH (ci := 2) rfl i_Piece 1 (by decide) kw_2_108 d_LM_writtenOn_48 h (fun v_15 h => ?_)
  refine xj1 h (fun J_17 eJ_17 h => ?_)
  have kJ_17 : ∀ (w_16 : Mp) (H : Heap) (locs : List Loc) (ls : Array Slot), xhd G vwCl w_16 H → xS G s H locs → H.size = q_2.2.2 → xL ls 4 [(2, .inr (.inl r2)), (3, .inr (.inl (some sz)))] → J_17 w_16 = some res → W p l e R s m args below meth c H locs 2 (20) Q (F0 m 61 ls []) := by
    intro w_16 H locs ls hH hS hz hl h
    rw [eJ_17] at h
    refine x_aload_n C0 hl 0 d_LM_writtenOn_61 rfl rfl ?_
    refine x_getI C0 hE hH (ci := 2) rfl i_Piece 2 (by decide) kw_2_110 d_LM_writtenOn_62 h (fun v_18 h => ?_)
    refine x_if_eq C0 75 d_LM_writtenOn_65 (by decide) h (fun h => ?_) (fun h => ?_)
    · refine x_aload_n C0 hl 1 d_LM_writtenOn_75 rfl rfl ?_
      cases h
      rw [hQ]
      refine W.widen (k := 2) (n := 20) (by omega) (by omega) ?_
      exact x_aret C0 hr (Or.inl ⟨_, rfl⟩) hlocks hH hS hz d_LM_writtenOn_76
    · refine x_aload_n C0 hl 1 d_LM_writtenOn_68 rfl rfl ?_
      refine lv_bipush (v := 116) C0.1 C0.2.1 d_LM_writtenOn_69 (by decide) ?_
      obtain ⟨b_20, e9, h⟩ := Option.bind_eq_some_iff.mp h
      obtain ⟨e8, fs9, hb9⟩ := xo_inv e9
      obtain ⟨q_19, e9, h⟩ := Option.bind_eq_some_iff.mp h
      refine x_call0 hS (va_runV (As := [.int (116 : Int32)]) (rest := []) C0 (c_SB_append0 l G w_16 _ b_20 (116 : Int32) q_19 e9) (x_cwV 1 C0 kw_3_81 kw_3_84 kw_1_15 kw_3_82 kw_3_83 (by decide +kernel) (x_rm hR1 hR2 (Nat.le_of_ble_eq_true rfl) (Nat.le_of_ble_eq_true rfl))) (x_preV hE hH hS (ci := 6) rfl hb9) rfl rfl hl.1 (by rw [e8]; rfl) (lv_room (by first | exact Nat.le_of_ble_eq_true rfl | simp only [List.map_cons, List.map_nil, List.sum_cons, List.sum_nil, va_rf_cat, x_catI, x_catL, x_catA] <;> decide)) d_LM_writtenOn_71 (x_le0 (Nat.le_trans (by omega) hR3) (Nat.le_trans (by omega) hR4))) (fun H locs hH hS hz9 => ?_)
      have hz := hz9.trans hz
      refine lv_pop C0.1 C0.2.1 d_LM_writtenOn_74 (va_rf_cat _) ?_
      refine x_aload_n C0 hl 1 d_LM_writtenOn_75 rfl rfl ?_
      cases h
      rw [hQ]
      refine W.widen (k := 2) (n := 20) (by omega) (by omega) ?_
      exact x_aret C0 hr (Or.inl ⟨_, rfl⟩) hlocks hH hS hz d_LM_writtenOn_76
  refine x_if_eq C0 61 d_LM_writtenOn_51 (by decide) h (fun h => ?_) (fun h => ?_)
  · exact kJ_17 _ _ _ ls hH hS hz (x_sub hl [3, 0] rfl) h
  · refine x_aload_n C0 hl 0 d_LM_writtenOn_54 rfl rfl ?_
    refine lv_bipush (v := 109) C0.1 C0.2.1 d_LM_writtenOn_55 (by decide) ?_
    obtain ⟨b_22, e9, h⟩ := Option.bind_eq_some_iff.mp h
    obtain ⟨e8, fs9, hb9⟩ := xo_inv e9
    obtain ⟨q_21, e9, h⟩ := Option.bind_eq_some_iff.mp h
    refine x_call0 hS (va_runV (As := [.int (109 : Int32)]) (rest := []) C0 (c_SB_append0 l G q_13.2 _ b_22 (109 : Int32) q_21 e9) (x_cwV 1 C0 kw_3_81 kw_3_84 kw_1_15 kw_3_82 kw_3_83 (by decide +kernel) (x_rm hR1 hR2 (Nat.le_of_ble_eq_true rfl) (Nat.le_of_ble_eq_true rfl))) (x_preV hE hH hS (ci := 6) rfl hb9) rfl rfl hl.1 (by rw [e8]; rfl) (lv_room (by first | exact Nat.le_of_ble_eq_true rfl | simp only [List.map_cons, List.map_nil, List.sum_cons, List.sum_nil, va_rf_cat, x_catI, x_catL, x_catA] <;> decide)) d_LM_writtenOn_57 (x_le0 (Nat.le_trans (by omega) hR3) (Nat.le_trans (by omega) hR4))) (fun H locs hH hS hz9 => ?_)
    have hz := hz9.trans hz
    refine lv_pop C0.1 C0.2.1 d_LM_writtenOn_60 (va_rf_cat _) ?_
    exact kJ_17 _ _ _ ls hH hS hz (x_sub hl [3, 0] rfl) h
