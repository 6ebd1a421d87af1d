theorem kw_1_105 : (Jvm.Cond.classLink "LeafMatchesLaw" (13 : Nat) "java/lang/IllegalStateException") ∈ wA := ku_1 105 rfl rfl
theorem kw_1_106 : (Jvm.Cond.classLink "LeafMatchesLaw" (15 : Nat) "java/lang/IllegalArgumentException") ∈ wA := ku_1 106 rfl rfl
theorem kw_1_107 : (Jvm.Cond.methodLink "LeafMatchesLaw" (7 : Nat) ({ cls := "LeafMatches", name := "leaf", desc := "(IIII)I" } : Jvm.MethodName)) ∈ wA := ku_1 107 rfl rfl
theorem kw_1_108 : (Jvm.Cond.instanceMethod ({ cls := "LeafMatches", name := "leaf", desc := "(IIII)I" } : Jvm.MethodName)) ∈ wA := ku_1 108 rfl rfl
theorem kw_1_109 : (Jvm.Cond.selects "LeafMatches" ({ cls := "LeafMatches", name := "leaf", desc := "(IIII)I" } : Jvm.MethodName) ({ cls := "LeafMatches", name := "leaf", desc := "(IIII)I" } : Jvm.MethodName)) ∈ wA := ku_1 109 rfl rfl
theorem kw_1_110 : (Jvm.Cond.code ({ cls := "LeafMatches", name := "leaf", desc := "(IIII)I" } : Jvm.MethodName) prog_1_method_2_code (5 : Nat) (Option.some Jvm.ClassFile.FieldType.int)) ∈ wA := ku_1 110 rfl rfl
theorem kw_2_13 : (Jvm.Cond.classLink "LeafMatchesLaw" (21 : Nat) "java/lang/IndexOutOfBoundsException") ∈ wA := ku_2 13 rfl rfl
theorem kw_2_14 : (Jvm.Cond.methodLink "LeafMatchesLaw" (17 : Nat) ({ cls := "LeafMatches", name := "pixel", desc := "(IIII)Z" } : Jvm.MethodName)) ∈ wA := ku_2 14 rfl rfl
theorem kw_2_15 : (Jvm.Cond.instanceMethod ({ cls := "LeafMatches", name := "pixel", desc := "(IIII)Z" } : Jvm.MethodName)) ∈ wA := ku_2 15 rfl rfl
theorem kw_2_16 : (Jvm.Cond.selects "LeafMatches" ({ cls := "LeafMatches", name := "pixel", desc := "(IIII)Z" } : Jvm.MethodName) ({ cls := "LeafMatches", name := "pixel", desc := "(IIII)Z" } : Jvm.MethodName)) ∈ wA := ku_2 16 rfl rfl
theorem kw_2_17 : (Jvm.Cond.code ({ cls := "LeafMatches", name := "pixel", desc := "(IIII)Z" } : Jvm.MethodName) prog_1_method_3_code (6 : Nat) (Option.some Jvm.ClassFile.FieldType.boolean)) ∈ wA := ku_2 17 rfl rfl
theorem kw_2_50 : (Jvm.Cond.methodLink "LeafMatchesLaw" (23 : Nat) ({ cls := "LeafMatches", name := "reserve", desc := "(II)Z" } : Jvm.MethodName)) ∈ wA := ku_2 50 rfl rfl
theorem kw_2_51 : (Jvm.Cond.instanceMethod ({ cls := "LeafMatches", name := "reserve", desc := "(II)Z" } : Jvm.MethodName)) ∈ wA := ku_2 51 rfl rfl
theorem kw_2_52 : (Jvm.Cond.selects "LeafMatches" ({ cls := "LeafMatches", name := "reserve", desc := "(II)Z" } : Jvm.MethodName) ({ cls := "LeafMatches", name := "reserve", desc := "(II)Z" } : Jvm.MethodName)) ∈ wA := ku_2 52 rfl rfl
theorem kw_2_53 : (Jvm.Cond.code ({ cls := "LeafMatches", name := "reserve", desc := "(II)Z" } : Jvm.MethodName) prog_1_method_4_code (5 : Nat) (Option.some Jvm.ClassFile.FieldType.boolean)) ∈ wA := ku_2 53 rfl rfl
theorem kw_2_60 : (Jvm.Cond.methodLink "LeafMatchesLaw" (27 : Nat) ({ cls := "LeafMatches", name := "match", desc := "(II)I" } : Jvm.MethodName)) ∈ wA := ku_2 60 rfl rfl
theorem kw_2_61 : (Jvm.Cond.instanceMethod ({ cls := "LeafMatches", name := "match", desc := "(II)I" } : Jvm.MethodName)) ∈ wA := ku_2 61 rfl rfl
theorem kw_2_62 : (Jvm.Cond.selects "LeafMatches" ({ cls := "LeafMatches", name := "match", desc := "(II)I" } : Jvm.MethodName) ({ cls := "LeafMatches", name := "match", desc := "(II)I" } : Jvm.MethodName)) ∈ wA := ku_2 62 rfl rfl
theorem kw_2_63 : (Jvm.Cond.code ({ cls := "LeafMatches", name := "match", desc := "(II)I" } : Jvm.MethodName) prog_1_method_5_code (5 : Nat) (Option.some Jvm.ClassFile.FieldType.int)) ∈ wA := ku_2 63 rfl rfl
theorem kw_2_144 : (Jvm.Cond.methodLink "LeafMatchesLaw" (31 : Nat) ({ cls := "LeafMatches", name := "apart", desc := "(I)I" } : Jvm.MethodName)) ∈ wA := ku_2 144 rfl rfl
theorem kw_2_145 : (Jvm.Cond.instanceMethod ({ cls := "LeafMatches", name := "apart", desc := "(I)I" } : Jvm.MethodName)) ∈ wA := ku_2 145 rfl rfl
theorem kw_2_146 : (Jvm.Cond.selects "LeafMatches" ({ cls := "LeafMatches", name := "apart", desc := "(I)I" } : Jvm.MethodName) ({ cls := "LeafMatches", name := "apart", desc := "(I)I" } : Jvm.MethodName)) ∈ wA := ku_2 146 rfl rfl
theorem kw_2_147 : (Jvm.Cond.code ({ cls := "LeafMatches", name := "apart", desc := "(I)I" } : Jvm.MethodName) prog_1_method_6_code (4 : Nat) (Option.some Jvm.ClassFile.FieldType.int)) ∈ wA := ku_2 147 rfl rfl
theorem kw_2_156 : (Jvm.Cond.methodLink "LeafMatchesLaw" (35 : Nat) ({ cls := "LeafMatches", name := "place", desc := "(III)I" } : Jvm.MethodName)) ∈ wA := ku_2 156 rfl rfl
theorem kw_2_157 : (Jvm.Cond.instanceMethod ({ cls := "LeafMatches", name := "place", desc := "(III)I" } : Jvm.MethodName)) ∈ wA := ku_2 157 rfl rfl
theorem kw_2_158 : (Jvm.Cond.selects "LeafMatches" ({ cls := "LeafMatches", name := "place", desc := "(III)I" } : Jvm.MethodName) ({ cls := "LeafMatches", name := "place", desc := "(III)I" } : Jvm.MethodName)) ∈ wA := ku_2 158 rfl rfl
theorem kw_2_159 : (Jvm.Cond.code ({ cls := "LeafMatches", name := "place", desc := "(III)I" } : Jvm.MethodName) prog_1_method_7_code (6 : Nat) (Option.some Jvm.ClassFile.FieldType.int)) ∈ wA := ku_2 159 rfl rfl
theorem kw_2_204 : (Jvm.Cond.methodLink "LeafMatchesLaw" (39 : Nat) ({ cls := "LeafMatches", name := "at", desc := "(III)I" } : Jvm.MethodName)) ∈ wA := ku_2 204 rfl rfl
theorem kw_2_205 : (Jvm.Cond.instanceMethod ({ cls := "LeafMatches", name := "at", desc := "(III)I" } : Jvm.MethodName)) ∈ wA := ku_2 205 rfl rfl
theorem kw_2_206 : (Jvm.Cond.selects "LeafMatches" ({ cls := "LeafMatches", name := "at", desc := "(III)I" } : Jvm.MethodName) ({ cls := "LeafMatches", name := "at", desc := "(III)I" } : Jvm.MethodName)) ∈ wA := ku_2 206 rfl rfl
theorem kw_2_207 : (Jvm.Cond.code ({ cls := "LeafMatches", name := "at", desc := "(III)I" } : Jvm.MethodName) prog_1_method_8_code (5 : Nat) (Option.some Jvm.ClassFile.FieldType.int)) ∈ wA := ku_2 207 rfl rfl
theorem kw_2_222 : (Jvm.Cond.methodLink "LeafMatchesLaw" (42 : Nat) ({ cls := "LeafMatches", name := "about", desc := "(II)I" } : Jvm.MethodName)) ∈ wA := ku_2 222 rfl rfl
theorem kw_2_223 : (Jvm.Cond.instanceMethod ({ cls := "LeafMatches", name := "about", desc := "(II)I" } : Jvm.MethodName)) ∈ wA := ku_2 223 rfl rfl
theorem kw_2_224 : (Jvm.Cond.selects "LeafMatches" ({ cls := "LeafMatches", name := "about", desc := "(II)I" } : Jvm.MethodName) ({ cls := "LeafMatches", name := "about", desc := "(II)I" } : Jvm.MethodName)) ∈ wA := ku_2 224 rfl rfl
theorem kw_2_225 : (Jvm.Cond.code ({ cls := "LeafMatches", name := "about", desc := "(II)I" } : Jvm.MethodName) prog_1_method_9_code (4 : Nat) (Option.some Jvm.ClassFile.FieldType.int)) ∈ wA := ku_2 225 rfl rfl
theorem kw_3_2 : (Jvm.Cond.methodLink "LeafMatchesLaw" (45 : Nat) ({ cls := "LeafMatches", name := "seam", desc := "(II)I" } : Jvm.MethodName)) ∈ wA := ku_3 2 rfl rfl
theorem kw_3_3 : (Jvm.Cond.instanceMethod ({ cls := "LeafMatches", name := "seam", desc := "(II)I" } : Jvm.MethodName)) ∈ wA := ku_3 3 rfl rfl
theorem kw_3_4 : (Jvm.Cond.selects "LeafMatches" ({ cls := "LeafMatches", name := "seam", desc := "(II)I" } : Jvm.MethodName) ({ cls := "LeafMatches", name := "seam", desc := "(II)I" } : Jvm.MethodName)) ∈ wA := ku_3 4 rfl rfl
theorem kw_3_5 : (Jvm.Cond.code ({ cls := "LeafMatches", name := "seam", desc := "(II)I" } : Jvm.MethodName) prog_1_method_10_code (4 : Nat) (Option.some Jvm.ClassFile.FieldType.int)) ∈ wA := ku_3 5 rfl rfl
theorem kw_3_15 : (Jvm.Cond.methodLink "LeafMatchesLaw" (48 : Nat) ({ cls := "LeafMatches", name := "sum", desc := "(III)J" } : Jvm.MethodName)) ∈ wA := ku_3 15 rfl rfl
theorem kw_3_16 : (Jvm.Cond.instanceMethod ({ cls := "LeafMatches", name := "sum", desc := "(III)J" } : Jvm.MethodName)) ∈ wA := ku_3 16 rfl rfl
theorem kw_3_17 : (Jvm.Cond.selects "LeafMatches" ({ cls := "LeafMatches", name := "sum", desc := "(III)J" } : Jvm.MethodName) ({ cls := "LeafMatches", name := "sum", desc := "(III)J" } : Jvm.MethodName)) ∈ wA := ku_3 17 rfl rfl
theorem kw_3_18 : (Jvm.Cond.code ({ cls := "LeafMatches", name := "sum", desc := "(III)J" } : Jvm.MethodName) prog_1_method_11_code (5 : Nat) (Option.some Jvm.ClassFile.FieldType.long)) ∈ wA := ku_3 18 rfl rfl
theorem kw_3_24 : (Jvm.Cond.methodLink "LeafMatchesLaw" (52 : Nat) ({ cls := "LeafMatches", name := "mirrored", desc := "(II)Z" } : Jvm.MethodName)) ∈ wA := ku_3 24 rfl rfl
theorem kw_3_25 : (Jvm.Cond.instanceMethod ({ cls := "LeafMatches", name := "mirrored", desc := "(II)Z" } : Jvm.MethodName)) ∈ wA := ku_3 25 rfl rfl
theorem kw_3_26 : (Jvm.Cond.selects "LeafMatches" ({ cls := "LeafMatches", name := "mirrored", desc := "(II)Z" } : Jvm.MethodName) ({ cls := "LeafMatches", name := "mirrored", desc := "(II)Z" } : Jvm.MethodName)) ∈ wA := ku_3 26 rfl rfl
theorem kw_3_27 : (Jvm.Cond.code ({ cls := "LeafMatches", name := "mirrored", desc := "(II)Z" } : Jvm.MethodName) prog_1_method_12_code (4 : Nat) (Option.some Jvm.ClassFile.FieldType.boolean)) ∈ wA := ku_3 27 rfl rfl
theorem kw_3_31 : (Jvm.Cond.methodLink "LeafMatchesLaw" (55 : Nat) ({ cls := "LeafMatches", name := "balance", desc := "(I)Z" } : Jvm.MethodName)) ∈ wA := ku_3 31 rfl rfl
theorem kw_3_32 : (Jvm.Cond.instanceMethod ({ cls := "LeafMatches", name := "balance", desc := "(I)Z" } : Jvm.MethodName)) ∈ wA := ku_3 32 rfl rfl
theorem kw_3_33 : (Jvm.Cond.selects "LeafMatches" ({ cls := "LeafMatches", name := "balance", desc := "(I)Z" } : Jvm.MethodName) ({ cls := "LeafMatches", name := "balance", desc := "(I)Z" } : Jvm.MethodName)) ∈ wA := ku_3 33 rfl rfl
theorem kw_3_34 : (Jvm.Cond.code ({ cls := "LeafMatches", name := "balance", desc := "(I)Z" } : Jvm.MethodName) prog_1_method_13_code (3 : Nat) (Option.some Jvm.ClassFile.FieldType.boolean)) ∈ wA := ku_3 34 rfl rfl
theorem kw_3_43 : (Jvm.Cond.methodLink "LeafMatchesLaw" (59 : Nat) ({ cls := "LeafMatches", name := "number", desc := "(III)I" } : Jvm.MethodName)) ∈ wA := ku_3 43 rfl rfl
theorem kw_3_44 : (Jvm.Cond.instanceMethod ({ cls := "LeafMatches", name := "number", desc := "(III)I" } : Jvm.MethodName)) ∈ wA := ku_3 44 rfl rfl
theorem kw_3_45 : (Jvm.Cond.selects "LeafMatches" ({ cls := "LeafMatches", name := "number", desc := "(III)I" } : Jvm.MethodName) ({ cls := "LeafMatches", name := "number", desc := "(III)I" } : Jvm.MethodName)) ∈ wA := ku_3 45 rfl rfl
theorem kw_3_46 : (Jvm.Cond.code ({ cls := "LeafMatches", name := "number", desc := "(III)I" } : Jvm.MethodName) prog_1_method_14_code (6 : Nat) (Option.some Jvm.ClassFile.FieldType.int)) ∈ wA := ku_3 46 rfl rfl
theorem kw_4_6 : (Jvm.Cond.methodLink "LeafMatchesLaw" (62 : Nat) ({ cls := "LeafMatches", name := "want", desc := "(I)I" } : Jvm.MethodName)) ∈ wA := ku_4 6 rfl rfl
theorem kw_4_7 : (Jvm.Cond.instanceMethod ({ cls := "LeafMatches", name := "want", desc := "(I)I" } : Jvm.MethodName)) ∈ wA := ku_4 7 rfl rfl
theorem kw_4_8 : (Jvm.Cond.selects "LeafMatches" ({ cls := "LeafMatches", name := "want", desc := "(I)I" } : Jvm.MethodName) ({ cls := "LeafMatches", name := "want", desc := "(I)I" } : Jvm.MethodName)) ∈ wA := ku_4 8 rfl rfl
theorem kw_4_9 : (Jvm.Cond.code ({ cls := "LeafMatches", name := "want", desc := "(I)I" } : Jvm.MethodName) prog_1_method_15_code (2 : Nat) (Option.some Jvm.ClassFile.FieldType.int)) ∈ wA := ku_4 9 rfl rfl
theorem kw_4_19 : (Jvm.Cond.methodLink "LeafMatchesLaw" (65 : Nat) ({ cls := "LeafMatches", name := "faces", desc := "(I)I" } : Jvm.MethodName)) ∈ wA := ku_4 19 rfl rfl
theorem kw_4_20 : (Jvm.Cond.instanceMethod ({ cls := "LeafMatches", name := "faces", desc := "(I)I" } : Jvm.MethodName)) ∈ wA := ku_4 20 rfl rfl
theorem kw_4_21 : (Jvm.Cond.selects "LeafMatches" ({ cls := "LeafMatches", name := "faces", desc := "(I)I" } : Jvm.MethodName) ({ cls := "LeafMatches", name := "faces", desc := "(I)I" } : Jvm.MethodName)) ∈ wA := ku_4 21 rfl rfl
theorem kw_4_22 : (Jvm.Cond.code ({ cls := "LeafMatches", name := "faces", desc := "(I)I" } : Jvm.MethodName) prog_1_method_17_code (3 : Nat) (Option.some Jvm.ClassFile.FieldType.int)) ∈ wA := ku_4 22 rfl rfl
theorem kw_4_66 : (Jvm.Cond.methodLink "LeafMatchesLaw" (68 : Nat) ({ cls := "LeafMatches", name := "planned", desc := "(II)I" } : Jvm.MethodName)) ∈ wA := ku_4 66 rfl rfl
theorem kw_4_67 : (Jvm.Cond.instanceMethod ({ cls := "LeafMatches", name := "planned", desc := "(II)I" } : Jvm.MethodName)) ∈ wA := ku_4 67 rfl rfl
theorem kw_4_68 : (Jvm.Cond.selects "LeafMatches" ({ cls := "LeafMatches", name := "planned", desc := "(II)I" } : Jvm.MethodName) ({ cls := "LeafMatches", name := "planned", desc := "(II)I" } : Jvm.MethodName)) ∈ wA := ku_4 68 rfl rfl
theorem kw_4_69 : (Jvm.Cond.code ({ cls := "LeafMatches", name := "planned", desc := "(II)I" } : Jvm.MethodName) prog_1_method_18_code (3 : Nat) (Option.some Jvm.ClassFile.FieldType.int)) ∈ wA := ku_4 69 rfl rfl
theorem d_Law_leaf_0 : decode b_Law_leaf 0 = .ok (.aload 5, 2) := by decide +kernel
theorem d_Law_leaf_2 : decode b_Law_leaf 2 = .ok (.iconst 0, 1) := by decide +kernel
theorem d_Law_leaf_3 : decode b_Law_leaf 3 = .ok (.aload_n 0, 1) := by decide +kernel
theorem d_Law_leaf_4 : decode b_Law_leaf 4 = .ok (.iload_n 1, 1) := by decide +kernel
theorem d_Law_leaf_5 : decode b_Law_leaf 5 = .ok (.iload_n 2, 1) := by decide +kernel
theorem d_Law_leaf_6 : decode b_Law_leaf 6 = .ok (.iload_n 3, 1) := by decide +kernel
theorem d_Law_leaf_7 : decode b_Law_leaf 7 = .ok (.iload 4, 2) := by decide +kernel
theorem d_Law_leaf_9 : decode b_Law_leaf 9 = .ok (.invokevirtual 7, 3) := by decide +kernel
theorem d_Law_leaf_12 : decode b_Law_leaf 12 = .ok (.i2l, 1) := by decide +kernel
theorem d_Law_leaf_13 : decode b_Law_leaf 13 = .ok (.lastore, 1) := by decide +kernel
theorem d_Law_leaf_14 : decode b_Law_leaf 14 = .ok (.goto 11, 3) := by decide +kernel
theorem d_Law_leaf_17 : decode b_Law_leaf 17 = .ok (.astore 6, 2) := by decide +kernel
theorem d_Law_leaf_19 : decode b_Law_leaf 19 = .ok (.iconst 1, 1) := by decide +kernel
theorem d_Law_leaf_20 : decode b_Law_leaf 20 = .ok (.ireturn, 1) := by decide +kernel
theorem d_Law_leaf_21 : decode b_Law_leaf 21 = .ok (.astore 6, 2) := by decide +kernel
theorem d_Law_leaf_23 : decode b_Law_leaf 23 = .ok (.iconst 2, 1) := by decide +kernel
theorem d_Law_leaf_24 : decode b_Law_leaf 24 = .ok (.ireturn, 1) := by decide +kernel
theorem d_Law_leaf_25 : decode b_Law_leaf 25 = .ok (.iconst 0, 1) := by decide +kernel
theorem d_Law_leaf_26 : decode b_Law_leaf 26 = .ok (.ireturn, 1) := by decide +kernel
def f_Law_leaf (w : Mp) (sz : Nat) (r0 : Option Nat) (x1 : Int32) (x2 : Int32) (x3 : Int32) (x4 : Int32) (r5 : Option Nat) : Option (Int32 × Mp × Nat) := (xo w r0 0).bind fun b_2 => (f_LM_leaf w sz b_2 x1 x2 x3 x4).bind fun q_1 => xsw q_1.1 (fun v_3 => (sJ q_1.2.1 r5 5 (0 : Int32) v_3.toInt64).bind fun w_4 => some ((0 : Int32), w_4, q_1.2.2)) (fun k9 => if k9 = 0 then (some ((1 : Int32), q_1.2.1, q_1.2.2)) else (if k9 = 1 then (some ((2 : Int32), q_1.2.1, q_1.2.2)) else (none)))
set_option maxHeartbeats 4000000 in
set_option maxRecDepth 100000 in
theorem c_Law_leaf (l : Launch) (G : Gx) (w : Mp) (sz : Nat) (r0 : Option Nat) (x1 : Int32) (x2 : Int32) (x3 : Int32) (x4 : Int32) (r5 : Option Nat) (res : Int32 × Mp × Nat) (hf : f_Law_leaf w sz r0 x1 x2 x3 x4 r5 = some res) (hlt : l.stackTraces = false) : Met l y_Law_leaf (xwsW y_Law_leaf b_Law_leaf 7 (some .int) [(0, 14, 17, 13), (0, 14, 21, 15)]) { frames := 7, cells := 2, slots := 152, locals := 106 } (xPc G vwCl xaty w sz [va_rf r0, .int x1, .int x2, .int x3, .int x4, va_rf r5]) (xQ G vwCl (some (.int res.1)) res.2.1 res.2.2) (2) (152) (xA G) := by
  refine va_MetW (cc := b_Law_leaf) (maxL := 7) (ret := (some .int)) (by decide) rfl ?_
  intro p e s m args below meth c s₁ B hml hv
  obtain ⟨ha, hE, hH, hz⟩ := hv
  have C0 : CallFix p m c b_Law_leaf 7 s args wA R_Law := ⟨B.exec, B.bytes, hml, findClass_of_methodNamed B.named, fun w hw => atoms_spec (ws := xwsW y_Law_leaf b_Law_leaf 7 (some .int) [(0, 14, 17, 13), (0, 14, 21, 15)]) B.pre w (List.mem_cons_of_mem _ hw)⟩
  have hr := B.returns
  have hlocks := B.notSynchronized
  have htab := vx_table (x := y_Law_leaf) B (atoms_spec (ws := xwsW y_Law_leaf b_Law_leaf 7 (some .int) [(0, 14, 17, 13), (0, 14, 21, 15)]) B.pre _ List.mem_cons_self)
  obtain ⟨R, hR⟩ : ∃ R, R = (headSpec (xwsW y_Law_leaf b_Law_leaf 7 (some .int) [(0, 14, 17, 13), (0, 14, 21, 15)]) { frames := 7, cells := 2, slots := 152, locals := 106 }).room := ⟨_, rfl⟩
  have hR1 : 7 ≤ R.frames := by rw [hR]; exact Nat.le_of_ble_eq_true rfl
  have hR2 : 106 ≤ R.locals := by rw [hR]; exact Nat.le_of_ble_eq_true rfl
  have hR3 : 2 ≤ R.cells := by rw [hR]; exact Nat.le_refl _
  have hR4 : 152 ≤ R.slots := by rw [hR]; exact Nat.le_refl _
  rw [← hR]
  obtain ⟨Q, hQ⟩ : ∃ Q, Q = MQ below (xQ G vwCl (some (.int res.1)) res.2.1 res.2.2) args s (2) (152) (xA G) := ⟨_, rfl⟩
  rw [← hQ]
  have hS : xS G s s.heap [] := va_S.rf
  obtain ⟨ls, he, hl⟩ := x_entry m [.inr (.inl r0), .inl x1, .inl x2, .inl x3, .inl x4, .inr (.inl r5)] 7 (Nat.le_of_ble_eq_true rfl)
  rw [show entryFrame m args 7 = F0 m 0 ls [] by rw [ha]; exact he]
  have hl : xL ls 7 [(0, .inr (.inl r0)), (1, .inl x1), (2, .inl x2), (3, .inl x3), (4, .inl x4), (5, .inr (.inl r5))] := hl
  have h := hf
  unfold f_Law_leaf at h
  suffices hmain : ∀ (H : Heap) (locs : List Loc), xhd G vwCl w H → xS G s H locs → H.size = sz → (H = s.heap ∧ locs = []) → W p l e R s m args below meth c H locs 0 0 Q (F0 m 0 ls []) from hmain _ _ hH hS hz ⟨rfl, rfl⟩
  clear hH hS hz
  intro H locs hH hS hz hP0
  refine x_aload C0 hl 5 d_Law_leaf_0 rfl ?_
  refine lv_iconst (v := 0) C0.1 C0.2.1 d_Law_leaf_2 (by decide) ?_
  refine x_aload_n C0 hl 0 d_Law_leaf_3 rfl rfl ?_
  refine x_iload_n C0 hl 1 d_Law_leaf_4 rfl rfl ?_
  refine x_iload_n C0 hl 2 d_Law_leaf_5 rfl rfl ?_
  refine x_iload_n C0 hl 3 d_Law_leaf_6 rfl rfl ?_
  refine x_iload C0 hl 4 d_Law_leaf_7 rfl ?_
  obtain ⟨b_2, e9, h⟩ := Option.bind_eq_some_iff.mp h
  obtain ⟨e8, fs9, hb9⟩ := xo_inv e9
  obtain ⟨q_1, e9, h⟩ := Option.bind_eq_some_iff.mp h
  have e9 := (show f_LM_leaf w (Array.size H) b_2 x1 x2 x3 x4 = some q_1 by rw [hz]; exact e9)
  refine x_callTi hS (vx_runV (As := [.int x1, .int x2, .int x3, .int x4]) (rest := [.int (0 : Int32), va_rf r5]) C0 (c_LM_leaf l G w _ b_2 x1 x2 x3 x4 q_1 e9 hlt) (x_cwV 4 C0 kw_1_107 kw_1_110 kw_1_1 kw_1_108 kw_1_109 (by decide +kernel) (x_rm hR1 hR2 (Nat.le_of_ble_eq_true rfl) (Nat.le_of_ble_eq_true rfl))) (x_preV hE hH hS (ci := 0) rfl hb9) rfl rfl hl.1 (by rw [e8]; rfl) (lv_room (by first | exact Nat.le_of_ble_eq_true rfl | simp only [List.map_cons, List.map_nil, List.sum_cons, List.sum_nil, va_rf_cat, x_catI, x_catL, x_catA] <;> decide)) d_Law_leaf_9 ⟨Nat.le_trans (by omega) hR3, Nat.le_trans (by omega) hR4⟩) h (fun v_3 H locs hH hS hz h => ?_) (fun k9 q_5 ce9 H locs hH hS hz h hq9 hv9 hc9 => ?_)
  · refine W.widen (k := 2) (n := 152) (by omega) (by omega) ?_
    refine lv_i2l C0.1 C0.2.1 d_Law_leaf_12 rfl ?_
    refine x_last C0 hE hH hS (t := 5) rfl d_Law_leaf_13 h (fun w_4 H locs hH hS hz9 h => ?_)
    have hz := hz9.trans hz
    refine x_goto C0 25 d_Law_leaf_14 (by decide) ?_
    refine lv_iconst (v := 0) C0.1 C0.2.1 d_Law_leaf_25 (by decide) ?_
    cases h
    rw [hQ]
    refine W.widen (k := 2) (n := 152) (by omega) (by omega) ?_
    exact x_iret C0 hr hlocks hH hS hz d_Law_leaf_26
  · refine vx_widen (k := 2) (n := 152) (by omega) (by omega) ?_
    by_cases z0 : k9 = 0
    · subst z0
      rw [if_pos rfl] at h
      refine vx_catch (E := "java/lang/IllegalStateException") (name := "java/lang/IllegalStateException") C0.2.2.2.1 [] ⟨0, 14, 17, 13⟩ [⟨0, 14, 21, 15⟩] htab (fun z h => by cases h) (by decide) (by decide) (C0.2.2.2.2 _ kw_1_105) (va_Nw.use rfl (hE.2.2.1 _ (List.mem_of_getElem? (i := 0) rfl))) hq9 hv9 hc9 ?_
      refine x_astore (lv' := [(6, .inr (.inl (some q_5))), (0, .inr (.inl r0)), (1, .inl x1), (2, .inl x2), (3, .inl x3), (4, .inl x4), (5, .inr (.inl r5))]) C0 hl d_Law_leaf_17 (by decide) rfl (fun ls hl => ?_)
      refine lv_iconst (v := 1) C0.1 C0.2.1 d_Law_leaf_19 (by decide) ?_
      cases h
      rw [hQ]
      refine W.widen (k := 2) (n := 152) (by omega) (by omega) ?_
      exact x_iret C0 hr hlocks hH hS hz d_Law_leaf_20
    by_cases z1 : k9 = 1
    · subst z1
      rw [if_neg (by decide), if_pos rfl] at h
      refine vx_catch (E := "java/lang/IllegalArgumentException") (name := "java/lang/IllegalArgumentException") C0.2.2.2.1 [⟨0, 14, 17, 13⟩] ⟨0, 14, 21, 15⟩ [] htab (List.forall_mem_cons.mpr ⟨Or.inr ⟨by decide, "java/lang/IllegalStateException", C0.2.2.2.2 _ kw_1_105, hE.2.2.2.2.2.2.1 _ (List.mem_of_getElem? (i := 3) rfl)⟩, fun z h => by cases h⟩) (by decide) (by decide) (C0.2.2.2.2 _ kw_1_106) (va_Nw.use rfl (hE.2.2.1 _ (List.mem_of_getElem? (i := 7) rfl))) hq9 hv9 hc9 ?_
      refine x_astore (lv' := [(6, .inr (.inl (some q_5))), (0, .inr (.inl r0)), (1, .inl x1), (2, .inl x2), (3, .inl x3), (4, .inl x4), (5, .inr (.inl r5))]) C0 hl d_Law_leaf_21 (by decide) rfl (fun ls hl => ?_)
      refine lv_iconst (v := 2) C0.1 C0.2.1 d_Law_leaf_23 (by decide) ?_
      cases h
      rw [hQ]
      refine W.widen (k := 2) (n := 152) (by omega) (by omega) ?_
      exact x_iret C0 hr hlocks hH hS hz d_Law_leaf_24
    rw [if_neg z0, if_neg z1] at h
    cases h
theorem d_Law_pixel_0 : decode b_Law_pixel 0 = .ok (.aload 5, 2) := by decide +kernel
theorem d_Law_pixel_2 : decode b_Law_pixel 2 = .ok (.iconst 0, 1) := by decide +kernel
theorem d_Law_pixel_3 : decode b_Law_pixel 3 = .ok (.aload_n 0, 1) := by decide +kernel
theorem d_Law_pixel_4 : decode b_Law_pixel 4 = .ok (.iload_n 1, 1) := by decide +kernel
theorem d_Law_pixel_5 : decode b_Law_pixel 5 = .ok (.iload_n 2, 1) := by decide +kernel
theorem d_Law_pixel_6 : decode b_Law_pixel 6 = .ok (.iload_n 3, 1) := by decide +kernel
theorem d_Law_pixel_7 : decode b_Law_pixel 7 = .ok (.iload 4, 2) := by decide +kernel
theorem d_Law_pixel_9 : decode b_Law_pixel 9 = .ok (.invokevirtual 17, 3) := by decide +kernel
theorem d_Law_pixel_12 : decode b_Law_pixel 12 = .ok (.ifCond .eq 7, 3) := by decide +kernel
theorem d_Law_pixel_15 : decode b_Law_pixel 15 = .ok (.lconst 1, 1) := by decide +kernel
theorem d_Law_pixel_16 : decode b_Law_pixel 16 = .ok (.goto 4, 3) := by decide +kernel
theorem d_Law_pixel_19 : decode b_Law_pixel 19 = .ok (.lconst 0, 1) := by decide +kernel
theorem d_Law_pixel_20 : decode b_Law_pixel 20 = .ok (.lastore, 1) := by decide +kernel
theorem d_Law_pixel_21 : decode b_Law_pixel 21 = .ok (.goto 11, 3) := by decide +kernel
theorem d_Law_pixel_24 : decode b_Law_pixel 24 = .ok (.astore 6, 2) := by decide +kernel
theorem d_Law_pixel_26 : decode b_Law_pixel 26 = .ok (.iconst 1, 1) := by decide +kernel
theorem d_Law_pixel_27 : decode b_Law_pixel 27 = .ok (.ireturn, 1) := by decide +kernel
theorem d_Law_pixel_28 : decode b_Law_pixel 28 = .ok (.astore 6, 2) := by decide +kernel
theorem d_Law_pixel_30 : decode b_Law_pixel 30 = .ok (.iconst 2, 1) := by decide +kernel
theorem d_Law_pixel_31 : decode b_Law_pixel 31 = .ok (.ireturn, 1) := by decide +kernel
theorem d_Law_pixel_32 : decode b_Law_pixel 32 = .ok (.iconst 0, 1) := by decide +kernel
theorem d_Law_pixel_33 : decode b_Law_pixel 33 = .ok (.ireturn, 1) := by decide +kernel
def f_Law_pixel (w : Mp) (sz : Nat) (r0 : Option Nat) (x1 : Int32) (x2 : Int32) (x3 : Int32) (x4 : Int32) (r5 : Option Nat) : Option (Int32 × Mp × Nat) := (xo w r0 0).bind fun b_2 => (f_LM_pixel w sz b_2 x1 x2 x3 x4).bind fun q_1 => xsw q_1.1 (fun v_3 => if v_3 = 0 then ((sJ q_1.2.1 r5 5 (0 : Int32) (0 : Int64)).bind fun w_4 => some ((0 : Int32), w_4, q_1.2.2)) else ((sJ q_1.2.1 r5 5 (0 : Int32) (1 : Int64)).bind fun w_5 => some ((0 : Int32), w_5, q_1.2.2))) (fun k9 => if k9 = 2 then (some ((1 : Int32), q_1.2.1, q_1.2.2)) else (if k9 = 1 then (some ((2 : Int32), q_1.2.1, q_1.2.2)) else (none)))
set_option maxHeartbeats 4000000 in
set_option maxRecDepth 100000 in
theorem c_Law_pixel (l : Launch) (G : Gx) (w : Mp) (sz : Nat) (r0 : Option Nat) (x1 : Int32) (x2 : Int32) (x3 : Int32) (x4 : Int32) (r5 : Option Nat) (res : Int32 × Mp × Nat) (hf : f_Law_pixel w sz r0 x1 x2 x3 x4 r5 = some res) (hlt : l.stackTraces = false) : Met l y_Law_pixel (xwsW y_Law_pixel b_Law_pixel 7 (some .int) [(0, 21, 24, 21), (0, 21, 28, 15)]) { frames := 7, cells := 1, slots := 6, locals := 107 } (xPc G vwCl xaty w sz [va_rf r0, .int x1, .int x2, .int x3, .int x4, va_rf r5]) (xQ G vwCl (some (.int res.1)) res.2.1 res.2.2) (1) (6) (xA G) := by
  refine va_MetW (cc := b_Law_pixel) (maxL := 7) (ret := (some .int)) (by decide) rfl ?_
  intro p e s m args below meth c s₁ B hml hv
  obtain ⟨ha, hE, hH, hz⟩ := hv
  have C0 : CallFix p m c b_Law_pixel 7 s args wA R_Law := ⟨B.exec, B.bytes, hml, findClass_of_methodNamed B.named, fun w hw => atoms_spec (ws := xwsW y_Law_pixel b_Law_pixel 7 (some .int) [(0, 21, 24, 21), (0, 21, 28, 15)]) B.pre w (List.mem_cons_of_mem _ hw)⟩
  have hr := B.returns
  have hlocks := B.notSynchronized
  have htab := vx_table (x := y_Law_pixel) B (atoms_spec (ws := xwsW y_Law_pixel b_Law_pixel 7 (some .int) [(0, 21, 24, 21), (0, 21, 28, 15)]) B.pre _ List.mem_cons_self)
  obtain ⟨R, hR⟩ : ∃ R, R = (headSpec (xwsW y_Law_pixel b_Law_pixel 7 (some .int) [(0, 21, 24, 21), (0, 21, 28, 15)]) { frames := 7, cells := 1, slots := 6, locals := 107 }).room := ⟨_, rfl⟩
  have hR1 : 7 ≤ R.frames := by rw [hR]; exact Nat.le_of_ble_eq_true rfl
  have hR2 : 107 ≤ R.locals := by rw [hR]; exact Nat.le_of_ble_eq_true rfl
  have hR3 : 1 ≤ R.cells := by rw [hR]; exact Nat.le_refl _
  have hR4 : 6 ≤ R.slots := by rw [hR]; exact Nat.le_refl _
  rw [← hR]
  obtain ⟨Q, hQ⟩ : ∃ Q, Q = MQ below (xQ G vwCl (some (.int res.1)) res.2.1 res.2.2) args s (1) (6) (xA G) := ⟨_, rfl⟩
  rw [← hQ]
  have hS : xS G s s.heap [] := va_S.rf
  obtain ⟨ls, he, hl⟩ := x_entry m [.inr (.inl r0), .inl x1, .inl x2, .inl x3, .inl x4, .inr (.inl r5)] 7 (Nat.le_of_ble_eq_true rfl)
  rw [show entryFrame m args 7 = F0 m 0 ls [] by rw [ha]; exact he]
  have hl : xL ls 7 [(0, .inr (.inl r0)), (1, .inl x1), (2, .inl x2), (3, .inl x3), (4, .inl x4), (5, .inr (.inl r5))] := hl
  have h := hf
  unfold f_Law_pixel at h
  suffices hmain : ∀ (H : Heap) (locs : List Loc), xhd G vwCl w H → xS G s H locs → H.size = sz → (H = s.heap ∧ locs = []) → W p l e R s m args below meth c H locs 0 0 Q (F0 m 0 ls []) from hmain _ _ hH hS hz ⟨rfl, rfl⟩
  clear hH hS hz
  intro H locs hH hS hz hP0
  refine x_aload C0 hl 5 d_Law_pixel_0 rfl ?_
  refine lv_iconst (v := 0) C0.1 C0.2.1 d_Law_pixel_2 (by decide) ?_
  refine x_aload_n C0 hl 0 d_Law_pixel_3 rfl rfl ?_
  refine x_iload_n C0 hl 1 d_Law_pixel_4 rfl rfl ?_
  refine x_iload_n C0 hl 2 d_Law_pixel_5 rfl rfl ?_
  refine x_iload_n C0 hl 3 d_Law_pixel_6 rfl rfl ?_
  refine x_iload C0 hl 4 d_Law_pixel_7 rfl ?_
  obtain ⟨b_2, e9, h⟩ := Option.bind_eq_some_iff.mp h
  obtain ⟨e8, fs9, hb9⟩ := xo_inv e9
  obtain ⟨q_1, e9, h⟩ := Option.bind_eq_some_iff.mp h
  have e9 := (show f_LM_pixel w (Array.size H) b_2 x1 x2 x3 x4 = some q_1 by rw [hz]; exact e9)
  refine x_callTi hS (vx_runV (As := [.int x1, .int x2, .int x3, .int x4]) (rest := [.int (0 : Int32), va_rf r5]) C0 (c_LM_pixel l G w _ b_2 x1 x2 x3 x4 q_1 e9 hlt) (x_cwV 4 C0 kw_2_14 kw_2_17 kw_1_1 kw_2_15 kw_2_16 (by decide +kernel) (x_rm hR1 hR2 (Nat.le_of_ble_eq_true rfl) (Nat.le_of_ble_eq_true rfl))) (x_preV hE hH hS (ci := 0) rfl hb9) rfl rfl hl.1 (by rw [e8]; rfl) (lv_room (by first | exact Nat.le_of_ble_eq_true rfl | simp only [List.map_cons, List.map_nil, List.sum_cons, List.sum_nil, va_rf_cat, x_catI, x_catL, x_catA] <;> decide)) d_Law_pixel_9 ⟨Nat.le_trans (by omega) hR3, Nat.le_trans (by omega) hR4⟩) h (fun v_3 H locs hH hS hz h => ?_) (fun k9 q_6 ce9 H locs hH hS hz h hq9 hv9 hc9 => ?_)
  · refine W.widen (k := 1) (n := 6) (by omega) (by omega) ?_
    refine x_if_eq C0 19 d_Law_pixel_12 (by decide) h (fun h => ?_) (fun h => ?_)
    · refine lv_lconst (v := 0) C0.1 C0.2.1 d_Law_pixel_19 (by decide) ?_
      refine x_last C0 hE hH hS (t := 5) rfl d_Law_pixel_20 h (fun w_4 H locs hH hS hz9 h => ?_)
      have hz := hz9.trans hz
      refine x_goto C0 32 d_Law_pixel_21 (by decide) ?_
      refine lv_iconst (v := 0) C0.1 C0.2.1 d_Law_pixel_32 (by decide) ?_
      cases h
      rw [hQ]
      refine W.widen (k := 1) (n := 6) (by omega) (by omega) ?_
      exact x_iret C0 hr hlocks hH hS hz d_Law_pixel_33
    · refine lv_lconst (v := 1) C0.1 C0.2.1 d_Law_pixel_15 (by decide) ?_
      refine x_goto C0 20 d_Law_pixel_16 (by decide) ?_
      refine x_last C0 hE hH hS (t := 5) rfl d_Law_pixel_20 h (fun w_5 H locs hH hS hz9 h => ?_)
      have hz := hz9.trans hz
      refine x_goto C0 32 d_Law_pixel_21 (by decide) ?_
      refine lv_iconst (v := 0) C0.1 C0.2.1 d_Law_pixel_32 (by decide) ?_
      cases h
      rw [hQ]
      refine W.widen (k := 1) (n := 6) (by omega) (by omega) ?_
      exact x_iret C0 hr hlocks hH hS hz d_Law_pixel_33
  · refine vx_widen (k := 1) (n := 6) (by omega) (by omega) ?_
    by_cases z0 : k9 = 2
    · subst z0
      rw [if_pos rfl] at h
      refine vx_catch (E := "java/lang/IndexOutOfBoundsException") (name := "java/lang/IndexOutOfBoundsException") C0.2.2.2.1 [] ⟨0, 21, 24, 21⟩ [⟨0, 21, 28, 15⟩] htab (fun z h => by cases h) (by decide) (by decide) (C0.2.2.2.2 _ kw_2_13) (va_Nw.use rfl (hE.2.2.1 _ (List.mem_of_getElem? (i := 8) rfl))) hq9 hv9 hc9 ?_
      refine x_astore (lv' := [(6, .inr (.inl (some q_6))), (0, .inr (.inl r0)), (1, .inl x1), (2, .inl x2), (3, .inl x3), (4, .inl x4), (5, .inr (.inl r5))]) C0 hl d_Law_pixel_24 (by decide) rfl (fun ls hl => ?_)
      refine lv_iconst (v := 1) C0.1 C0.2.1 d_Law_pixel_26 (by decide) ?_
      cases h
      rw [hQ]
      refine W.widen (k := 1) (n := 6) (by omega) (by omega) ?_
      exact x_iret C0 hr hlocks hH hS hz d_Law_pixel_27
    by_cases z1 : k9 = 1
    · subst z1
      rw [if_neg (by decide), if_pos rfl] at h
      refine vx_catch (E := "java/lang/IllegalArgumentException") (name := "java/lang/IllegalArgumentException") C0.2.2.2.1 [⟨0, 21, 24, 21⟩] ⟨0, 21, 28, 15⟩ [] htab (List.forall_mem_cons.mpr ⟨Or.inr ⟨by decide, "java/lang/IndexOutOfBoundsException", C0.2.2.2.2 _ kw_2_13, hE.2.2.2.2.2.2.1 _ (List.mem_of_getElem? (i := 22) rfl)⟩, fun z h => by cases h⟩) (by decide) (by decide) (C0.2.2.2.2 _ kw_1_106) (va_Nw.use rfl (hE.2.2.1 _ (List.mem_of_getElem? (i := 7) rfl))) hq9 hv9 hc9 ?_
      refine x_astore (lv' := [(6, .inr (.inl (some q_6))), (0, .inr (.inl r0)), (1, .inl x1), (2, .inl x2), (3, .inl x3), (4, .inl x4), (5, .inr (.inl r5))]) C0 hl d_Law_pixel_28 (by decide) rfl (fun ls hl => ?_)
      refine lv_iconst (v := 2) C0.1 C0.2.1 d_Law_pixel_30 (by decide) ?_
      cases h
      rw [hQ]
      refine W.widen (k := 1) (n := 6) (by omega) (by omega) ?_
      exact x_iret C0 hr hlocks hH hS hz d_Law_pixel_31
    rw [if_neg z0, if_neg z1] at h
    cases h
theorem d_Law_reserve_0 : decode b_Law_reserve 0 = .ok (.aload_n 3, 1) := by decide +kernel
theorem d_Law_reserve_1 : decode b_Law_reserve 1 = .ok (.iconst 0, 1) := by decide +kernel
theorem d_Law_reserve_2 : decode b_Law_reserve 2 = .ok (.aload_n 0, 1) := by decide +kernel
theorem d_Law_reserve_3 : decode b_Law_reserve 3 = .ok (.iload_n 1, 1) := by decide +kernel
theorem d_Law_reserve_4 : decode b_Law_reserve 4 = .ok (.iload_n 2, 1) := by decide +kernel
theorem d_Law_reserve_5 : decode b_Law_reserve 5 = .ok (.invokevirtual 23, 3) := by decide +kernel
theorem d_Law_reserve_8 : decode b_Law_reserve 8 = .ok (.ifCond .eq 7, 3) := by decide +kernel
theorem d_Law_reserve_11 : decode b_Law_reserve 11 = .ok (.lconst 1, 1) := by decide +kernel
theorem d_Law_reserve_12 : decode b_Law_reserve 12 = .ok (.goto 4, 3) := by decide +kernel
theorem d_Law_reserve_15 : decode b_Law_reserve 15 = .ok (.lconst 0, 1) := by decide +kernel
theorem d_Law_reserve_16 : decode b_Law_reserve 16 = .ok (.lastore, 1) := by decide +kernel
theorem d_Law_reserve_17 : decode b_Law_reserve 17 = .ok (.goto 15, 3) := by decide +kernel
theorem d_Law_reserve_20 : decode b_Law_reserve 20 = .ok (.astore 4, 2) := by decide +kernel
theorem d_Law_reserve_22 : decode b_Law_reserve 22 = .ok (.iconst 1, 1) := by decide +kernel
theorem d_Law_reserve_23 : decode b_Law_reserve 23 = .ok (.ireturn, 1) := by decide +kernel
theorem d_Law_reserve_24 : decode b_Law_reserve 24 = .ok (.astore 4, 2) := by decide +kernel
theorem d_Law_reserve_26 : decode b_Law_reserve 26 = .ok (.iconst 2, 1) := by decide +kernel
theorem d_Law_reserve_27 : decode b_Law_reserve 27 = .ok (.ireturn, 1) := by decide +kernel
theorem d_Law_reserve_28 : decode b_Law_reserve 28 = .ok (.astore 4, 2) := by decide +kernel
theorem d_Law_reserve_30 : decode b_Law_reserve 30 = .ok (.iconst 3, 1) := by decide +kernel
theorem d_Law_reserve_31 : decode b_Law_reserve 31 = .ok (.ireturn, 1) := by decide +kernel
theorem d_Law_reserve_32 : decode b_Law_reserve 32 = .ok (.iconst 0, 1) := by decide +kernel
theorem d_Law_reserve_33 : decode b_Law_reserve 33 = .ok (.ireturn, 1) := by decide +kernel
def f_Law_reserve (w : Mp) (sz : Nat) (r0 : Option Nat) (x1 : Int32) (x2 : Int32) (r3 : Option Nat) : Option (Int32 × Mp × Nat) := (xo w r0 0).bind fun b_2 => (f_LM_reserve w sz b_2 x1 x2).bind fun q_1 => xsw q_1.1 (fun v_3 => if v_3 = 0 then ((sJ q_1.2.1 r3 5 (0 : Int32) (0 : Int64)).bind fun w_4 => some ((0 : Int32), w_4, q_1.2.2)) else ((sJ q_1.2.1 r3 5 (0 : Int32) (1 : Int64)).bind fun w_5 => some ((0 : Int32), w_5, q_1.2.2))) (fun k9 => if k9 = 2 then (some ((1 : Int32), q_1.2.1, q_1.2.2)) else (if k9 = 0 then (some ((2 : Int32), q_1.2.1, q_1.2.2)) else (if k9 = 1 then (some ((3 : Int32), q_1.2.1, q_1.2.2)) else (none))))
set_option maxHeartbeats 4000000 in
set_option maxRecDepth 100000 in
theorem c_Law_reserve (l : Launch) (G : Gx) (w : Mp) (sz : Nat) (r0 : Option Nat) (x1 : Int32) (x2 : Int32) (r3 : Option Nat) (res : Int32 × Mp × Nat) (hf : f_Law_reserve w sz r0 x1 x2 r3 = some res) (hlt : l.stackTraces = false) : Met l y_Law_reserve (xwsW y_Law_reserve b_Law_reserve 5 (some .int) [(0, 17, 20, 21), (0, 17, 24, 13), (0, 17, 28, 15)]) { frames := 7, cells := 1, slots := 6, locals := 106 } (xPc G vwCl xaty w sz [va_rf r0, .int x1, .int x2, va_rf r3]) (xQ G vwCl (some (.int res.1)) res.2.1 res.2.2) (1) (6) (xA G) := by
  refine va_MetW (cc := b_Law_reserve) (maxL := 5) (ret := (some .int)) (by decide) rfl ?_
  intro p e s m args below meth c s₁ B hml hv
  obtain ⟨ha, hE, hH, hz⟩ := hv
  have C0 : CallFix p m c b_Law_reserve 5 s args wA R_Law := ⟨B.exec, B.bytes, hml, findClass_of_methodNamed B.named, fun w hw => atoms_spec (ws := xwsW y_Law_reserve b_Law_reserve 5 (some .int) [(0, 17, 20, 21), (0, 17, 24, 13), (0, 17, 28, 15)]) B.pre w (List.mem_cons_of_mem _ hw)⟩
  have hr := B.returns
  have hlocks := B.notSynchronized
  have htab := vx_table (x := y_Law_reserve) B (atoms_spec (ws := xwsW y_Law_reserve b_Law_reserve 5 (some .int) [(0, 17, 20, 21), (0, 17, 24, 13), (0, 17, 28, 15)]) B.pre _ List.mem_cons_self)
  obtain ⟨R, hR⟩ : ∃ R, R = (headSpec (xwsW y_Law_reserve b_Law_reserve 5 (some .int) [(0, 17, 20, 21), (0, 17, 24, 13), (0, 17, 28, 15)]) { frames := 7, cells := 1, slots := 6, locals := 106 }).room := ⟨_, rfl⟩
  have hR1 : 7 ≤ R.frames := by rw [hR]; exact Nat.le_of_ble_eq_true rfl
  have hR2 : 106 ≤ R.locals := by rw [hR]; exact Nat.le_of_ble_eq_true rfl
  have hR3 : 1 ≤ R.cells := by rw [hR]; exact Nat.le_refl _
  have hR4 : 6 ≤ R.slots := by rw [hR]; exact Nat.le_refl _
  rw [← hR]
  obtain ⟨Q, hQ⟩ : ∃ Q, Q = MQ below (xQ G vwCl (some (.int res.1)) res.2.1 res.2.2) args s (1) (6) (xA G) := ⟨_, rfl⟩
  rw [← hQ]
  have hS : xS G s s.heap [] := va_S.rf
  obtain ⟨ls, he, hl⟩ := x_entry m [.inr (.inl r0), .inl x1, .inl x2, .inr (.inl r3)] 5 (Nat.le_of_ble_eq_true rfl)
  rw [show entryFrame m args 5 = F0 m 0 ls [] by rw [ha]; exact he]
  have hl : xL ls 5 [(0, .inr (.inl r0)), (1, .inl x1), (2, .inl x2), (3, .inr (.inl r3))] := hl
  have h := hf
  unfold f_Law_reserve at h
  suffices hmain : ∀ (H : Heap) (locs : List Loc), xhd G vwCl w H → xS G s H locs → H.size = sz → (H = s.heap ∧ locs = []) → W p l e R s m args below meth c H locs 0 0 Q (F0 m 0 ls []) from hmain _ _ hH hS hz ⟨rfl, rfl⟩
  clear hH hS hz
  intro H locs hH hS hz hP0
  refine x_aload_n C0 hl 3 d_Law_reserve_0 rfl rfl ?_
  refine lv_iconst (v := 0) C0.1 C0.2.1 d_Law_reserve_1 (by decide) ?_
  refine x_aload_n C0 hl 0 d_Law_reserve_2 rfl rfl ?_
  refine x_iload_n C0 hl 1 d_Law_reserve_3 rfl rfl ?_
  refine x_iload_n C0 hl 2 d_Law_reserve_4 rfl rfl ?_
  obtain ⟨b_2, e9, h⟩ := Option.bind_eq_some_iff.mp h
  obtain ⟨e8, fs9, hb9⟩ := xo_inv e9
  obtain ⟨q_1, e9, h⟩ := Option.bind_eq_some_iff.mp h
  have e9 := (show f_LM_reserve w (Array.size H) b_2 x1 x2 = some q_1 by rw [hz]; exact e9)
  refine x_callTi hS (vx_runV (As := [.int x1, .int x2]) (rest := [.int (0 : Int32), va_rf r3]) C0 (c_LM_reserve l G w _ b_2 x1 x2 q_1 e9 hlt) (x_cwV 2 C0 kw_2_50 kw_2_53 kw_1_1 kw_2_51 kw_2_52 (by decide +kernel) (x_rm hR1 hR2 (Nat.le_of_ble_eq_true rfl) (Nat.le_of_ble_eq_true rfl))) (x_preV hE hH hS (ci := 0) rfl hb9) rfl rfl hl.1 (by rw [e8]; rfl) (lv_room (by first | exact Nat.le_of_ble_eq_true rfl | simp only [List.map_cons, List.map_nil, List.sum_cons, List.sum_nil, va_rf_cat, x_catI, x_catL, x_catA] <;> decide)) d_Law_reserve_5 ⟨Nat.le_trans (by omega) hR3, Nat.le_trans (by omega) hR4⟩) h (fun v_3 H locs hH hS hz h => ?_) (fun k9 q_6 ce9 H locs hH hS hz h hq9 hv9 hc9 => ?_)
  · refine W.widen (k := 1) (n := 6) (by omega) (by omega) ?_
    refine x_if_eq C0 15 d_Law_reserve_8 (by decide) h (fun h => ?_) (fun h => ?_)
    · refine lv_lconst (v := 0) C0.1 C0.2.1 d_Law_reserve_15 (by decide) ?_
      refine x_last C0 hE hH hS (t := 5) rfl d_Law_reserve_16 h (fun w_4 H locs hH hS hz9 h => ?_)
      have hz := hz9.trans hz
      refine x_goto C0 32 d_Law_reserve_17 (by decide) ?_
      refine lv_iconst (v := 0) C0.1 C0.2.1 d_Law_reserve_32 (by decide) ?_
      cases h
      rw [hQ]
      refine W.widen (k := 1) (n := 6) (by omega) (by omega) ?_
      exact x_iret C0 hr hlocks hH hS hz d_Law_reserve_33
    · refine lv_lconst (v := 1) C0.1 C0.2.1 d_Law_reserve_11 (by decide) ?_
      refine x_goto C0 16 d_Law_reserve_12 (by decide) ?_
      refine x_last C0 hE hH hS (t := 5) rfl d_Law_reserve_16 h (fun w_5 H locs hH hS hz9 h => ?_)
      have hz := hz9.trans hz
      refine x_goto C0 32 d_Law_reserve_17 (by decide) ?_
      refine lv_iconst (v := 0) C0.1 C0.2.1 d_Law_reserve_32 (by decide) ?_
      cases h
      rw [hQ]
      refine W.widen (k := 1) (n := 6) (by omega) (by omega) ?_
      exact x_iret C0 hr hlocks hH hS hz d_Law_reserve_33
  · refine vx_widen (k := 1) (n := 6) (by omega) (by omega) ?_
    by_cases z0 : k9 = 2
    · subst z0
      rw [if_pos rfl] at h
      refine vx_catch (E := "java/lang/IndexOutOfBoundsException") (name := "java/lang/IndexOutOfBoundsException") C0.2.2.2.1 [] ⟨0, 17, 20, 21⟩ [⟨0, 17, 24, 13⟩, ⟨0, 17, 28, 15⟩] htab (fun z h => by cases h) (by decide) (by decide) (C0.2.2.2.2 _ kw_2_13) (va_Nw.use rfl (hE.2.2.1 _ (List.mem_of_getElem? (i := 8) rfl))) hq9 hv9 hc9 ?_
      refine x_astore (lv' := [(4, .inr (.inl (some q_6))), (0, .inr (.inl r0)), (1, .inl x1), (2, .inl x2), (3, .inr (.inl r3))]) C0 hl d_Law_reserve_20 (by decide) rfl (fun ls hl => ?_)
      refine lv_iconst (v := 1) C0.1 C0.2.1 d_Law_reserve_22 (by decide) ?_
      cases h
      rw [hQ]
      refine W.widen (k := 1) (n := 6) (by omega) (by omega) ?_
      exact x_iret C0 hr hlocks hH hS hz d_Law_reserve_23
    by_cases z1 : k9 = 0
    · subst z1
      rw [if_neg (by decide), if_pos rfl] at h
      refine vx_catch (E := "java/lang/IllegalStateException") (name := "java/lang/IllegalStateException") C0.2.2.2.1 [⟨0, 17, 20, 21⟩] ⟨0, 17, 24, 13⟩ [⟨0, 17, 28, 15⟩] htab (List.forall_mem_cons.mpr ⟨Or.inr ⟨by decide, "java/lang/IndexOutOfBoundsException", C0.2.2.2.2 _ kw_2_13, hE.2.2.2.2.2.2.1 _ (List.mem_of_getElem? (i := 21) rfl)⟩, fun z h => by cases h⟩) (by decide) (by decide) (C0.2.2.2.2 _ kw_1_105) (va_Nw.use rfl (hE.2.2.1 _ (List.mem_of_getElem? (i := 0) rfl))) hq9 hv9 hc9 ?_
      refine x_astore (lv' := [(4, .inr (.inl (some q_6))), (0, .inr (.inl r0)), (1, .inl x1), (2, .inl x2), (3, .inr (.inl r3))]) C0 hl d_Law_reserve_24 (by decide) rfl (fun ls hl => ?_)
      refine lv_iconst (v := 2) C0.1 C0.2.1 d_Law_reserve_26 (by decide) ?_
      cases h
      rw [hQ]
      refine W.widen (k := 1) (n := 6) (by omega) (by omega) ?_
      exact x_iret C0 hr hlocks hH hS hz d_Law_reserve_27
    by_cases z2 : k9 = 1
    · subst z2
      rw [if_neg (by decide), if_neg (by decide), if_pos rfl] at h
      refine vx_catch (E := "java/lang/IllegalArgumentException") (name := "java/lang/IllegalArgumentException") C0.2.2.2.1 [⟨0, 17, 20, 21⟩, ⟨0, 17, 24, 13⟩] ⟨0, 17, 28, 15⟩ [] htab (List.forall_mem_cons.mpr ⟨Or.inr ⟨by decide, "java/lang/IndexOutOfBoundsException", C0.2.2.2.2 _ kw_2_13, hE.2.2.2.2.2.2.1 _ (List.mem_of_getElem? (i := 22) rfl)⟩, List.forall_mem_cons.mpr ⟨Or.inr ⟨by decide, "java/lang/IllegalStateException", C0.2.2.2.2 _ kw_1_105, hE.2.2.2.2.2.2.1 _ (List.mem_of_getElem? (i := 3) rfl)⟩, fun z h => by cases h⟩⟩) (by decide) (by decide) (C0.2.2.2.2 _ kw_1_106) (va_Nw.use rfl (hE.2.2.1 _ (List.mem_of_getElem? (i := 7) rfl))) hq9 hv9 hc9 ?_
      refine x_astore (lv' := [(4, .inr (.inl (some q_6))), (0, .inr (.inl r0)), (1, .inl x1), (2, .inl x2), (3, .inr (.inl r3))]) C0 hl d_Law_reserve_28 (by decide) rfl (fun ls hl => ?_)
      refine lv_iconst (v := 3) C0.1 C0.2.1 d_Law_reserve_30 (by decide) ?_
      cases h
      rw [hQ]
      refine W.widen (k := 1) (n := 6) (by omega) (by omega) ?_
      exact x_iret C0 hr hlocks hH hS hz d_Law_reserve_31
    rw [if_neg z0, if_neg z1, if_neg z2] at h
    cases h
theorem d_Law_match_0 : decode b_Law_match 0 = .ok (.aload_n 3, 1) := by decide +kernel
theorem d_Law_match_1 : decode b_Law_match 1 = .ok (.iconst 0, 1) := by decide +kernel
theorem d_Law_match_2 : decode b_Law_match 2 = .ok (.aload_n 0, 1) := by decide +kernel
theorem d_Law_match_3 : decode b_Law_match 3 = .ok (.iload_n 1, 1) := by decide +kernel
theorem d_Law_match_4 : decode b_Law_match 4 = .ok (.iload_n 2, 1) := by decide +kernel
theorem d_Law_match_5 : decode b_Law_match 5 = .ok (.invokevirtual 27, 3) := by decide +kernel
theorem d_Law_match_8 : decode b_Law_match 8 = .ok (.i2l, 1) := by decide +kernel
theorem d_Law_match_9 : decode b_Law_match 9 = .ok (.lastore, 1) := by decide +kernel
theorem d_Law_match_10 : decode b_Law_match 10 = .ok (.goto 11, 3) := by decide +kernel
theorem d_Law_match_13 : decode b_Law_match 13 = .ok (.astore 4, 2) := by decide +kernel
theorem d_Law_match_15 : decode b_Law_match 15 = .ok (.iconst 1, 1) := by decide +kernel
theorem d_Law_match_16 : decode b_Law_match 16 = .ok (.ireturn, 1) := by decide +kernel
theorem d_Law_match_17 : decode b_Law_match 17 = .ok (.astore 4, 2) := by decide +kernel
theorem d_Law_match_19 : decode b_Law_match 19 = .ok (.iconst 2, 1) := by decide +kernel
theorem d_Law_match_20 : decode b_Law_match 20 = .ok (.ireturn, 1) := by decide +kernel
theorem d_Law_match_21 : decode b_Law_match 21 = .ok (.iconst 0, 1) := by decide +kernel
theorem d_Law_match_22 : decode b_Law_match 22 = .ok (.ireturn, 1) := by decide +kernel
def f_Law_match (w : Mp) (sz : Nat) (r0 : Option Nat) (x1 : Int32) (x2 : Int32) (r3 : Option Nat) : Option (Int32 × Mp × Nat) := (xo w r0 0).bind fun b_2 => (f_LM_match w sz b_2 x1 x2).bind fun q_1 => xsw q_1.1 (fun v_3 => (sJ q_1.2.1 r3 5 (0 : Int32) v_3.toInt64).bind fun w_4 => some ((0 : Int32), w_4, q_1.2.2)) (fun k9 => if k9 = 0 then (some ((1 : Int32), q_1.2.1, q_1.2.2)) else (if k9 = 1 then (some ((2 : Int32), q_1.2.1, q_1.2.2)) else (none)))
set_option maxHeartbeats 4000000 in
set_option maxRecDepth 100000 in
theorem c_Law_match (l : Launch) (G : Gx) (w : Mp) (sz : Nat) (r0 : Option Nat) (x1 : Int32) (x2 : Int32) (r3 : Option Nat) (res : Int32 × Mp × Nat) (hf : f_Law_match w sz r0 x1 x2 r3 = some res) (hlt : l.stackTraces = false) : Met l y_Law_match (xwsW y_Law_match b_Law_match 5 (some .int) [(0, 10, 13, 13), (0, 10, 17, 15)]) { frames := 7, cells := 11, slots := 55, locals := 106 } (xPc G vwCl xaty w sz [va_rf r0, .int x1, .int x2, va_rf r3]) (xQ G vwCl (some (.int res.1)) res.2.1 res.2.2) (11) (55) (xA G) := by
  refine va_MetW (cc := b_Law_match) (maxL := 5) (ret := (some .int)) (by decide) rfl ?_
  intro p e s m args below meth c s₁ B hml hv
  obtain ⟨ha, hE, hH, hz⟩ := hv
  have C0 : CallFix p m c b_Law_match 5 s args wA R_Law := ⟨B.exec, B.bytes, hml, findClass_of_methodNamed B.named, fun w hw => atoms_spec (ws := xwsW y_Law_match b_Law_match 5 (some .int) [(0, 10, 13, 13), (0, 10, 17, 15)]) B.pre w (List.mem_cons_of_mem _ hw)⟩
  have hr := B.returns
  have hlocks := B.notSynchronized
  have htab := vx_table (x := y_Law_match) B (atoms_spec (ws := xwsW y_Law_match b_Law_match 5 (some .int) [(0, 10, 13, 13), (0, 10, 17, 15)]) B.pre _ List.mem_cons_self)
  obtain ⟨R, hR⟩ : ∃ R, R = (headSpec (xwsW y_Law_match b_Law_match 5 (some .int) [(0, 10, 13, 13), (0, 10, 17, 15)]) { frames := 7, cells := 11, slots := 55, locals := 106 }).room := ⟨_, rfl⟩
  have hR1 : 7 ≤ R.frames := by rw [hR]; exact Nat.le_of_ble_eq_true rfl
  have hR2 : 106 ≤ R.locals := by rw [hR]; exact Nat.le_of_ble_eq_true rfl
  have hR3 : 11 ≤ R.cells := by rw [hR]; exact Nat.le_refl _
  have hR4 : 55 ≤ R.slots := by rw [hR]; exact Nat.le_refl _
  rw [← hR]
  obtain ⟨Q, hQ⟩ : ∃ Q, Q = MQ below (xQ G vwCl (some (.int res.1)) res.2.1 res.2.2) args s (11) (55) (xA G) := ⟨_, rfl⟩
  rw [← hQ]
  have hS : xS G s s.heap [] := va_S.rf
  obtain ⟨ls, he, hl⟩ := x_entry m [.inr (.inl r0), .inl x1, .inl x2, .inr (.inl r3)] 5 (Nat.le_of_ble_eq_true rfl)
  rw [show entryFrame m args 5 = F0 m 0 ls [] by rw [ha]; exact he]
  have hl : xL ls 5 [(0, .inr (.inl r0)), (1, .inl x1), (2, .inl x2), (3, .inr (.inl r3))] := hl
  have h := hf
  unfold f_Law_match at h
  suffices hmain : ∀ (H : Heap) (locs : List Loc), xhd G vwCl w H → xS G s H locs → H.size = sz → (H = s.heap ∧ locs = []) → W p l e R s m args below meth c H locs 0 0 Q (F0 m 0 ls []) from hmain _ _ hH hS hz ⟨rfl, rfl⟩
  clear hH hS hz
  intro H locs hH hS hz hP0
  refine x_aload_n C0 hl 3 d_Law_match_0 rfl rfl ?_
  refine lv_iconst (v := 0) C0.1 C0.2.1 d_Law_match_1 (by decide) ?_
  refine x_aload_n C0 hl 0 d_Law_match_2 rfl rfl ?_
  refine x_iload_n C0 hl 1 d_Law_match_3 rfl rfl ?_
  refine x_iload_n C0 hl 2 d_Law_match_4 rfl rfl ?_
  obtain ⟨b_2, e9, h⟩ := Option.bind_eq_some_iff.mp h
  obtain ⟨e8, fs9, hb9⟩ := xo_inv e9
  obtain ⟨q_1, e9, h⟩ := Option.bind_eq_some_iff.mp h
  have e9 := (show f_LM_match w (Array.size H) b_2 x1 x2 = some q_1 by rw [hz]; exact e9)
  refine x_callTi hS (vx_runV (As := [.int x1, .int x2]) (rest := [.int (0 : Int32), va_rf r3]) C0 (c_LM_match l G w _ b_2 x1 x2 q_1 e9 hlt) (x_cwV 2 C0 kw_2_60 kw_2_63 kw_1_1 kw_2_61 kw_2_62 (by decide +kernel) (x_rm hR1 hR2 (Nat.le_of_ble_eq_true rfl) (Nat.le_of_ble_eq_true rfl))) (x_preV hE hH hS (ci := 0) rfl hb9) rfl rfl hl.1 (by rw [e8]; rfl) (lv_room (by first | exact Nat.le_of_ble_eq_true rfl | simp only [List.map_cons, List.map_nil, List.sum_cons, List.sum_nil, va_rf_cat, x_catI, x_catL, x_catA] <;> decide)) d_Law_match_5 ⟨Nat.le_trans (by omega) hR3, Nat.le_trans (by omega) hR4⟩) h (fun v_3 H locs hH hS hz h => ?_) (fun k9 q_5 ce9 H locs hH hS hz h hq9 hv9 hc9 => ?_)
  · refine W.widen (k := 11) (n := 55) (by omega) (by omega) ?_
    refine lv_i2l C0.1 C0.2.1 d_Law_match_8 rfl ?_
    refine x_last C0 hE hH hS (t := 5) rfl d_Law_match_9 h (fun w_4 H locs hH hS hz9 h => ?_)
    have hz := hz9.trans hz
    refine x_goto C0 21 d_Law_match_10 (by decide) ?_
    refine lv_iconst (v := 0) C0.1 C0.2.1 d_Law_match_21 (by decide) ?_
    cases h
    rw [hQ]
    refine W.widen (k := 11) (n := 55) (by omega) (by omega) ?_
    exact x_iret C0 hr hlocks hH hS hz d_Law_match_22
  · refine vx_widen (k := 11) (n := 55) (by omega) (by omega) ?_
    by_cases z0 : k9 = 0
    · subst z0
      rw [if_pos rfl] at h
      refine vx_catch (E := "java/lang/IllegalStateException") (name := "java/lang/IllegalStateException") C0.2.2.2.1 [] ⟨0, 10, 13, 13⟩ [⟨0, 10, 17, 15⟩] htab (fun z h => by cases h) (by decide) (by decide) (C0.2.2.2.2 _ kw_1_105) (va_Nw.use rfl (hE.2.2.1 _ (List.mem_of_getElem? (i := 0) rfl))) hq9 hv9 hc9 ?_
      refine x_astore (lv' := [(4, .inr (.inl (some q_5))), (0, .inr (.inl r0)), (1, .inl x1), (2, .inl x2), (3, .inr (.inl r3))]) C0 hl d_Law_match_13 (by decide) rfl (fun ls hl => ?_)
      refine lv_iconst (v := 1) C0.1 C0.2.1 d_Law_match_15 (by decide) ?_
      cases h
      rw [hQ]
      refine W.widen (k := 11) (n := 55) (by omega) (by omega) ?_
      exact x_iret C0 hr hlocks hH hS hz d_Law_match_16
    by_cases z1 : k9 = 1
    · subst z1
      rw [if_neg (by decide), if_pos rfl] at h
      refine vx_catch (E := "java/lang/IllegalArgumentException") (name := "java/lang/IllegalArgumentException") C0.2.2.2.1 [⟨0, 10, 13, 13⟩] ⟨0, 10, 17, 15⟩ [] htab (List.forall_mem_cons.mpr ⟨Or.inr ⟨by decide, "java/lang/IllegalStateException", C0.2.2.2.2 _ kw_1_105, hE.2.2.2.2.2.2.1 _ (List.mem_of_getElem? (i := 3) rfl)⟩, fun z h => by cases h⟩) (by decide) (by decide) (C0.2.2.2.2 _ kw_1_106) (va_Nw.use rfl (hE.2.2.1 _ (List.mem_of_getElem? (i := 7) rfl))) hq9 hv9 hc9 ?_
      refine x_astore (lv' := [(4, .inr (.inl (some q_5))), (0, .inr (.inl r0)), (1, .inl x1), (2, .inl x2), (3, .inr (.inl r3))]) C0 hl d_Law_match_17 (by decide) rfl (fun ls hl => ?_)
      refine lv_iconst (v := 2) C0.1 C0.2.1 d_Law_match_19 (by decide) ?_
      cases h
      rw [hQ]
      refine W.widen (k := 11) (n := 55) (by omega) (by omega) ?_
      exact x_iret C0 hr hlocks hH hS hz d_Law_match_20
    rw [if_neg z0, if_neg z1] at h
    cases h
theorem d_Law_apart_0 : decode b_Law_apart 0 = .ok (.aload_n 2, 1) := by decide +kernel
theorem d_Law_apart_1 : decode b_Law_apart 1 = .ok (.iconst 0, 1) := by decide +kernel
theorem d_Law_apart_2 : decode b_Law_apart 2 = .ok (.aload_n 0, 1) := by decide +kernel
theorem d_Law_apart_3 : decode b_Law_apart 3 = .ok (.iload_n 1, 1) := by decide +kernel
theorem d_Law_apart_4 : decode b_Law_apart 4 = .ok (.invokevirtual 31, 3) := by decide +kernel
theorem d_Law_apart_7 : decode b_Law_apart 7 = .ok (.i2l, 1) := by decide +kernel
theorem d_Law_apart_8 : decode b_Law_apart 8 = .ok (.lastore, 1) := by decide +kernel
theorem d_Law_apart_9 : decode b_Law_apart 9 = .ok (.goto 6, 3) := by decide +kernel
theorem d_Law_apart_12 : decode b_Law_apart 12 = .ok (.astore_n 3, 1) := by decide +kernel
theorem d_Law_apart_13 : decode b_Law_apart 13 = .ok (.iconst 1, 1) := by decide +kernel
theorem d_Law_apart_14 : decode b_Law_apart 14 = .ok (.ireturn, 1) := by decide +kernel
theorem d_Law_apart_15 : decode b_Law_apart 15 = .ok (.iconst 0, 1) := by decide +kernel
theorem d_Law_apart_16 : decode b_Law_apart 16 = .ok (.ireturn, 1) := by decide +kernel
def f_Law_apart (w : Mp) (sz : Nat) (r0 : Option Nat) (x1 : Int32) (r2 : Option Nat) : Option (Int32 × Mp × Nat) := (xo w r0 0).bind fun b_2 => (f_LM_apart w sz b_2 x1).bind fun q_1 => xsw q_1.1 (fun v_3 => (sJ q_1.2.1 r2 5 (0 : Int32) v_3.toInt64).bind fun w_4 => some ((0 : Int32), w_4, q_1.2.2)) (fun k9 => if k9 = 2 then (some ((1 : Int32), q_1.2.1, q_1.2.2)) else (none))
set_option maxHeartbeats 4000000 in
set_option maxRecDepth 100000 in
theorem c_Law_apart (l : Launch) (G : Gx) (w : Mp) (sz : Nat) (r0 : Option Nat) (x1 : Int32) (r2 : Option Nat) (res : Int32 × Mp × Nat) (hf : f_Law_apart w sz r0 x1 r2 = some res) (hlt : l.stackTraces = false) : Met l y_Law_apart (xwsW y_Law_apart b_Law_apart 4 (some .int) [(0, 9, 12, 21)]) { frames := 7, cells := 1, slots := 6, locals := 105 } (xPc G vwCl xaty w sz [va_rf r0, .int x1, va_rf r2]) (xQ G vwCl (some (.int res.1)) res.2.1 res.2.2) (1) (6) (xA G) := by
  refine va_MetW (cc := b_Law_apart) (maxL := 4) (ret := (some .int)) (by decide) rfl ?_
  intro p e s m args below meth c s₁ B hml hv
  obtain ⟨ha, hE, hH, hz⟩ := hv
  have C0 : CallFix p m c b_Law_apart 4 s args wA R_Law := ⟨B.exec, B.bytes, hml, findClass_of_methodNamed B.named, fun w hw => atoms_spec (ws := xwsW y_Law_apart b_Law_apart 4 (some .int) [(0, 9, 12, 21)]) B.pre w (List.mem_cons_of_mem _ hw)⟩
  have hr := B.returns
  have hlocks := B.notSynchronized
  have htab := vx_table (x := y_Law_apart) B (atoms_spec (ws := xwsW y_Law_apart b_Law_apart 4 (some .int) [(0, 9, 12, 21)]) B.pre _ List.mem_cons_self)
  obtain ⟨R, hR⟩ : ∃ R, R = (headSpec (xwsW y_Law_apart b_Law_apart 4 (some .int) [(0, 9, 12, 21)]) { frames := 7, cells := 1, slots := 6, locals := 105 }).room := ⟨_, rfl⟩
  have hR1 : 7 ≤ R.frames := by rw [hR]; exact Nat.le_of_ble_eq_true rfl
  have hR2 : 105 ≤ R.locals := by rw [hR]; exact Nat.le_of_ble_eq_true rfl
  have hR3 : 1 ≤ R.cells := by rw [hR]; exact Nat.le_refl _
  have hR4 : 6 ≤ R.slots := by rw [hR]; exact Nat.le_refl _
  rw [← hR]
  obtain ⟨Q, hQ⟩ : ∃ Q, Q = MQ below (xQ G vwCl (some (.int res.1)) res.2.1 res.2.2) args s (1) (6) (xA G) := ⟨_, rfl⟩
  rw [← hQ]
  have hS : xS G s s.heap [] := va_S.rf
  obtain ⟨ls, he, hl⟩ := x_entry m [.inr (.inl r0), .inl x1, .inr (.inl r2)] 4 (Nat.le_of_ble_eq_true rfl)
  rw [show entryFrame m args 4 = F0 m 0 ls [] by rw [ha]; exact he]
  have hl : xL ls 4 [(0, .inr (.inl r0)), (1, .inl x1), (2, .inr (.inl r2))] := hl
  have h := hf
  unfold f_Law_apart at h
  suffices hmain : ∀ (H : Heap) (locs : List Loc), xhd G vwCl w H → xS G s H locs → H.size = sz → (H = s.heap ∧ locs = []) → W p l e R s m args below meth c H locs 0 0 Q (F0 m 0 ls []) from hmain _ _ hH hS hz ⟨rfl, rfl⟩
  clear hH hS hz
  intro H locs hH hS hz hP0
  refine x_aload_n C0 hl 2 d_Law_apart_0 rfl rfl ?_
  refine lv_iconst (v := 0) C0.1 C0.2.1 d_Law_apart_1 (by decide) ?_
  refine x_aload_n C0 hl 0 d_Law_apart_2 rfl rfl ?_
  refine x_iload_n C0 hl 1 d_Law_apart_3 rfl rfl ?_
  obtain ⟨b_2, e9, h⟩ := Option.bind_eq_some_iff.mp h
  obtain ⟨e8, fs9, hb9⟩ := xo_inv e9
  obtain ⟨q_1, e9, h⟩ := Option.bind_eq_some_iff.mp h
  have e9 := (show f_LM_apart w (Array.size H) b_2 x1 = some q_1 by rw [hz]; exact e9)
  refine x_callTi hS (vx_runV (As := [.int x1]) (rest := [.int (0 : Int32), va_rf r2]) C0 (c_LM_apart l G w _ b_2 x1 q_1 e9 hlt) (x_cwV 1 C0 kw_2_144 kw_2_147 kw_1_1 kw_2_145 kw_2_146 (by decide +kernel) (x_rm hR1 hR2 (Nat.le_of_ble_eq_true rfl) (Nat.le_of_ble_eq_true rfl))) (x_preV hE hH hS (ci := 0) rfl hb9) rfl rfl hl.1 (by rw [e8]; rfl) (lv_room (by first | exact Nat.le_of_ble_eq_true rfl | simp only [List.map_cons, List.map_nil, List.sum_cons, List.sum_nil, va_rf_cat, x_catI, x_catL, x_catA] <;> decide)) d_Law_apart_4 ⟨Nat.le_trans (by omega) hR3, Nat.le_trans (by omega) hR4⟩) h (fun v_3 H locs hH hS hz h => ?_) (fun k9 q_5 ce9 H locs hH hS hz h hq9 hv9 hc9 => ?_)
  · refine W.widen (k := 1) (n := 6) (by omega) (by omega) ?_
    refine lv_i2l C0.1 C0.2.1 d_Law_apart_7 rfl ?_
    refine x_last C0 hE hH hS (t := 5) rfl d_Law_apart_8 h (fun w_4 H locs hH hS hz9 h => ?_)
    have hz := hz9.trans hz
    refine x_goto C0 15 d_Law_apart_9 (by decide) ?_
    refine lv_iconst (v := 0) C0.1 C0.2.1 d_Law_apart_15 (by decide) ?_
    cases h
    rw [hQ]
    refine W.widen (k := 1) (n := 6) (by omega) (by omega) ?_
    exact x_iret C0 hr hlocks hH hS hz d_Law_apart_16
  · refine vx_widen (k := 1) (n := 6) (by omega) (by omega) ?_
    by_cases z0 : k9 = 2
    · subst z0
      rw [if_pos rfl] at h
      refine vx_catch (E := "java/lang/IndexOutOfBoundsException") (name := "java/lang/IndexOutOfBoundsException") C0.2.2.2.1 [] ⟨0, 9, 12, 21⟩ [] htab (fun z h => by cases h) (by decide) (by decide) (C0.2.2.2.2 _ kw_2_13) (va_Nw.use rfl (hE.2.2.1 _ (List.mem_of_getElem? (i := 8) rfl))) hq9 hv9 hc9 ?_
      refine x_astore_n (lv' := [(3, .inr (.inl (some q_5))), (0, .inr (.inl r0)), (1, .inl x1), (2, .inr (.inl r2))]) C0 hl d_Law_apart_12 rfl (by decide) rfl (fun ls hl => ?_)
      refine lv_iconst (v := 1) C0.1 C0.2.1 d_Law_apart_13 (by decide) ?_
      cases h
      rw [hQ]
      refine W.widen (k := 1) (n := 6) (by omega) (by omega) ?_
      exact x_iret C0 hr hlocks hH hS hz d_Law_apart_14
    rw [if_neg z0] at h
    cases h
theorem d_Law_place_0 : decode b_Law_place 0 = .ok (.aload 4, 2) := by decide +kernel
theorem d_Law_place_2 : decode b_Law_place 2 = .ok (.iconst 0, 1) := by decide +kernel
theorem d_Law_place_3 : decode b_Law_place 3 = .ok (.aload_n 0, 1) := by decide +kernel
theorem d_Law_place_4 : decode b_Law_place 4 = .ok (.iload_n 1, 1) := by decide +kernel
theorem d_Law_place_5 : decode b_Law_place 5 = .ok (.iload_n 2, 1) := by decide +kernel
theorem d_Law_place_6 : decode b_Law_place 6 = .ok (.iload_n 3, 1) := by decide +kernel
theorem d_Law_place_7 : decode b_Law_place 7 = .ok (.invokevirtual 35, 3) := by decide +kernel
theorem d_Law_place_10 : decode b_Law_place 10 = .ok (.i2l, 1) := by decide +kernel
theorem d_Law_place_11 : decode b_Law_place 11 = .ok (.lastore, 1) := by decide +kernel
theorem d_Law_place_12 : decode b_Law_place 12 = .ok (.goto 11, 3) := by decide +kernel
theorem d_Law_place_15 : decode b_Law_place 15 = .ok (.astore 5, 2) := by decide +kernel
theorem d_Law_place_17 : decode b_Law_place 17 = .ok (.iconst 1, 1) := by decide +kernel
theorem d_Law_place_18 : decode b_Law_place 18 = .ok (.ireturn, 1) := by decide +kernel
theorem d_Law_place_19 : decode b_Law_place 19 = .ok (.astore 5, 2) := by decide +kernel
theorem d_Law_place_21 : decode b_Law_place 21 = .ok (.iconst 2, 1) := by decide +kernel
theorem d_Law_place_22 : decode b_Law_place 22 = .ok (.ireturn, 1) := by decide +kernel
theorem d_Law_place_23 : decode b_Law_place 23 = .ok (.iconst 0, 1) := by decide +kernel
theorem d_Law_place_24 : decode b_Law_place 24 = .ok (.ireturn, 1) := by decide +kernel
def f_Law_place (w : Mp) (sz : Nat) (r0 : Option Nat) (x1 : Int32) (x2 : Int32) (x3 : Int32) (r4 : Option Nat) : Option (Int32 × Mp × Nat) := (xo w r0 0).bind fun b_2 => (f_LM_place w sz b_2 x1 x2 x3).bind fun q_1 => xsw q_1.1 (fun v_3 => (sJ q_1.2.1 r4 5 (0 : Int32) v_3.toInt64).bind fun w_4 => some ((0 : Int32), w_4, q_1.2.2)) (fun k9 => if k9 = 2 then (some ((1 : Int32), q_1.2.1, q_1.2.2)) else (if k9 = 1 then (some ((2 : Int32), q_1.2.1, q_1.2.2)) else (none)))
set_option maxHeartbeats 4000000 in
set_option maxRecDepth 100000 in
theorem c_Law_place (l : Launch) (G : Gx) (w : Mp) (sz : Nat) (r0 : Option Nat) (x1 : Int32) (x2 : Int32) (x3 : Int32) (r4 : Option Nat) (res : Int32 × Mp × Nat) (hf : f_Law_place w sz r0 x1 x2 x3 r4 = some res) (hlt : l.stackTraces = false) : Met l y_Law_place (xwsW y_Law_place b_Law_place 6 (some .int) [(0, 12, 15, 21), (0, 12, 19, 15)]) { frames := 7, cells := 1, slots := 6, locals := 168 } (xPc G vwCl xaty w sz [va_rf r0, .int x1, .int x2, .int x3, va_rf r4]) (xQ G vwCl (some (.int res.1)) res.2.1 res.2.2) (1) (6) (xA G) := by
  refine va_MetW (cc := b_Law_place) (maxL := 6) (ret := (some .int)) (by decide) rfl ?_
  intro p e s m args below meth c s₁ B hml hv
  obtain ⟨ha, hE, hH, hz⟩ := hv
  have C0 : CallFix p m c b_Law_place 6 s args wA R_Law := ⟨B.exec, B.bytes, hml, findClass_of_methodNamed B.named, fun w hw => atoms_spec (ws := xwsW y_Law_place b_Law_place 6 (some .int) [(0, 12, 15, 21), (0, 12, 19, 15)]) B.pre w (List.mem_cons_of_mem _ hw)⟩
  have hr := B.returns
  have hlocks := B.notSynchronized
  have htab := vx_table (x := y_Law_place) B (atoms_spec (ws := xwsW y_Law_place b_Law_place 6 (some .int) [(0, 12, 15, 21), (0, 12, 19, 15)]) B.pre _ List.mem_cons_self)
  obtain ⟨R, hR⟩ : ∃ R, R = (headSpec (xwsW y_Law_place b_Law_place 6 (some .int) [(0, 12, 15, 21), (0, 12, 19, 15)]) { frames := 7, cells := 1, slots := 6, locals := 168 }).room := ⟨_, rfl⟩
  have hR1 : 7 ≤ R.frames := by rw [hR]; exact Nat.le_of_ble_eq_true rfl
  have hR2 : 168 ≤ R.locals := by rw [hR]; exact Nat.le_of_ble_eq_true rfl
  have hR3 : 1 ≤ R.cells := by rw [hR]; exact Nat.le_refl _
  have hR4 : 6 ≤ R.slots := by rw [hR]; exact Nat.le_refl _
  rw [← hR]
  obtain ⟨Q, hQ⟩ : ∃ Q, Q = MQ below (xQ G vwCl (some (.int res.1)) res.2.1 res.2.2) args s (1) (6) (xA G) := ⟨_, rfl⟩
  rw [← hQ]
  have hS : xS G s s.heap [] := va_S.rf
  obtain ⟨ls, he, hl⟩ := x_entry m [.inr (.inl r0), .inl x1, .inl x2, .inl x3, .inr (.inl r4)] 6 (Nat.le_of_ble_eq_true rfl)
  rw [show entryFrame m args 6 = F0 m 0 ls [] by rw [ha]; exact he]
  have hl : xL ls 6 [(0, .inr (.inl r0)), (1, .inl x1), (2, .inl x2), (3, .inl x3), (4, .inr (.inl r4))] := hl
  have h := hf
  unfold f_Law_place at h
  suffices hmain : ∀ (H : Heap) (locs : List Loc), xhd G vwCl w H → xS G s H locs → H.size = sz → (H = s.heap ∧ locs = []) → W p l e R s m args below meth c H locs 0 0 Q (F0 m 0 ls []) from hmain _ _ hH hS hz ⟨rfl, rfl⟩
  clear hH hS hz
  intro H locs hH hS hz hP0
  refine x_aload C0 hl 4 d_Law_place_0 rfl ?_
  refine lv_iconst (v := 0) C0.1 C0.2.1 d_Law_place_2 (by decide) ?_
  refine x_aload_n C0 hl 0 d_Law_place_3 rfl rfl ?_
  refine x_iload_n C0 hl 1 d_Law_place_4 rfl rfl ?_
  refine x_iload_n C0 hl 2 d_Law_place_5 rfl rfl ?_
  refine x_iload_n C0 hl 3 d_Law_place_6 rfl rfl ?_
  obtain ⟨b_2, e9, h⟩ := Option.bind_eq_some_iff.mp h
  obtain ⟨e8, fs9, hb9⟩ := xo_inv e9
  obtain ⟨q_1, e9, h⟩ := Option.bind_eq_some_iff.mp h
  have e9 := (show f_LM_place w (Array.size H) b_2 x1 x2 x3 = some q_1 by rw [hz]; exact e9)
  refine x_callTi hS (vx_runV (As := [.int x1, .int x2, .int x3]) (rest := [.int (0 : Int32), va_rf r4]) C0 (c_LM_place l G w _ b_2 x1 x2 x3 q_1 e9 hlt) (x_cwV 3 C0 kw_2_156 kw_2_159 kw_1_1 kw_2_157 kw_2_158 (by decide +kernel) (x_rm hR1 hR2 (Nat.le_of_ble_eq_true rfl) (Nat.le_of_ble_eq_true rfl))) (x_preV hE hH hS (ci := 0) rfl hb9) rfl rfl hl.1 (by rw [e8]; rfl) (lv_room (by first | exact Nat.le_of_ble_eq_true rfl | simp only [List.map_cons, List.map_nil, List.sum_cons, List.sum_nil, va_rf_cat, x_catI, x_catL, x_catA] <;> decide)) d_Law_place_7 ⟨Nat.le_trans (by omega) hR3, Nat.le_trans (by omega) hR4⟩) h (fun v_3 H locs hH hS hz h => ?_) (fun k9 q_5 ce9 H locs hH hS hz h hq9 hv9 hc9 => ?_)
  · refine W.widen (k := 1) (n := 6) (by omega) (by omega) ?_
    refine lv_i2l C0.1 C0.2.1 d_Law_place_10 rfl ?_
    refine x_last C0 hE hH hS (t := 5) rfl d_Law_place_11 h (fun w_4 H locs hH hS hz9 h => ?_)
    have hz := hz9.trans hz
    refine x_goto C0 23 d_Law_place_12 (by decide) ?_
    refine lv_iconst (v := 0) C0.1 C0.2.1 d_Law_place_23 (by decide) ?_
    cases h
    rw [hQ]
    refine W.widen (k := 1) (n := 6) (by omega) (by omega) ?_
    exact x_iret C0 hr hlocks hH hS hz d_Law_place_24
  · refine vx_widen (k := 1) (n := 6) (by omega) (by omega) ?_
    by_cases z0 : k9 = 2
    · subst z0
      rw [if_pos rfl] at h
      refine vx_catch (E := "java/lang/IndexOutOfBoundsException") (name := "java/lang/IndexOutOfBoundsException") C0.2.2.2.1 [] ⟨0, 12, 15, 21⟩ [⟨0, 12, 19, 15⟩] htab (fun z h => by cases h) (by decide) (by decide) (C0.2.2.2.2 _ kw_2_13) (va_Nw.use rfl (hE.2.2.1 _ (List.mem_of_getElem? (i := 8) rfl))) hq9 hv9 hc9 ?_
      refine x_astore (lv' := [(5, .inr (.inl (some q_5))), (0, .inr (.inl r0)), (1, .inl x1), (2, .inl x2), (3, .inl x3), (4, .inr (.inl r4))]) C0 hl d_Law_place_15 (by decide) rfl (fun ls hl => ?_)
      refine lv_iconst (v := 1) C0.1 C0.2.1 d_Law_place_17 (by decide) ?_
      cases h
      rw [hQ]
      refine W.widen (k := 1) (n := 6) (by omega) (by omega) ?_
      exact x_iret C0 hr hlocks hH hS hz d_Law_place_18
    by_cases z1 : k9 = 1
    · subst z1
      rw [if_neg (by decide), if_pos rfl] at h
      refine vx_catch (E := "java/lang/IllegalArgumentException") (name := "java/lang/IllegalArgumentException") C0.2.2.2.1 [⟨0, 12, 15, 21⟩] ⟨0, 12, 19, 15⟩ [] htab (List.forall_mem_cons.mpr ⟨Or.inr ⟨by decide, "java/lang/IndexOutOfBoundsException", C0.2.2.2.2 _ kw_2_13, hE.2.2.2.2.2.2.1 _ (List.mem_of_getElem? (i := 22) rfl)⟩, fun z h => by cases h⟩) (by decide) (by decide) (C0.2.2.2.2 _ kw_1_106) (va_Nw.use rfl (hE.2.2.1 _ (List.mem_of_getElem? (i := 7) rfl))) hq9 hv9 hc9 ?_
      refine x_astore (lv' := [(5, .inr (.inl (some q_5))), (0, .inr (.inl r0)), (1, .inl x1), (2, .inl x2), (3, .inl x3), (4, .inr (.inl r4))]) C0 hl d_Law_place_19 (by decide) rfl (fun ls hl => ?_)
      refine lv_iconst (v := 2) C0.1 C0.2.1 d_Law_place_21 (by decide) ?_
      cases h
      rw [hQ]
      refine W.widen (k := 1) (n := 6) (by omega) (by omega) ?_
      exact x_iret C0 hr hlocks hH hS hz d_Law_place_22
    rw [if_neg z0, if_neg z1] at h
    cases h
theorem d_Law_at_0 : decode b_Law_at 0 = .ok (.aload 4, 2) := by decide +kernel
theorem d_Law_at_2 : decode b_Law_at 2 = .ok (.iconst 0, 1) := by decide +kernel
theorem d_Law_at_3 : decode b_Law_at 3 = .ok (.aload_n 0, 1) := by decide +kernel
theorem d_Law_at_4 : decode b_Law_at 4 = .ok (.iload_n 1, 1) := by decide +kernel
theorem d_Law_at_5 : decode b_Law_at 5 = .ok (.iload_n 2, 1) := by decide +kernel
theorem d_Law_at_6 : decode b_Law_at 6 = .ok (.iload_n 3, 1) := by decide +kernel
theorem d_Law_at_7 : decode b_Law_at 7 = .ok (.invokevirtual 39, 3) := by decide +kernel
theorem d_Law_at_10 : decode b_Law_at 10 = .ok (.i2l, 1) := by decide +kernel
theorem d_Law_at_11 : decode b_Law_at 11 = .ok (.lastore, 1) := by decide +kernel
theorem d_Law_at_12 : decode b_Law_at 12 = .ok (.goto 7, 3) := by decide +kernel
theorem d_Law_at_15 : decode b_Law_at 15 = .ok (.astore 5, 2) := by decide +kernel
theorem d_Law_at_17 : decode b_Law_at 17 = .ok (.iconst 1, 1) := by decide +kernel
theorem d_Law_at_18 : decode b_Law_at 18 = .ok (.ireturn, 1) := by decide +kernel
theorem d_Law_at_19 : decode b_Law_at 19 = .ok (.iconst 0, 1) := by decide +kernel
theorem d_Law_at_20 : decode b_Law_at 20 = .ok (.ireturn, 1) := by decide +kernel
def f_Law_at (w : Mp) (sz : Nat) (r0 : Option Nat) (x1 : Int32) (x2 : Int32) (x3 : Int32) (r4 : Option Nat) : Option (Int32 × Mp × Nat) := (xo w r0 0).bind fun b_2 => (f_LM_at w sz b_2 x1 x2 x3).bind fun q_1 => xsw q_1.1 (fun v_3 => (sJ q_1.2.1 r4 5 (0 : Int32) v_3.toInt64).bind fun w_4 => some ((0 : Int32), w_4, q_1.2.2)) (fun k9 => if k9 = 2 then (some ((1 : Int32), q_1.2.1, q_1.2.2)) else (none))
set_option maxHeartbeats 4000000 in
set_option maxRecDepth 100000 in
theorem c_Law_at (l : Launch) (G : Gx) (w : Mp) (sz : Nat) (r0 : Option Nat) (x1 : Int32) (x2 : Int32) (x3 : Int32) (r4 : Option Nat) (res : Int32 × Mp × Nat) (hf : f_Law_at w sz r0 x1 x2 x3 r4 = some res) (hlt : l.stackTraces = false) : Met l y_Law_at (xwsW y_Law_at b_Law_at 6 (some .int) [(0, 12, 15, 21)]) { frames := 7, cells := 1, slots := 6, locals := 167 } (xPc G vwCl xaty w sz [va_rf r0, .int x1, .int x2, .int x3, va_rf r4]) (xQ G vwCl (some (.int res.1)) res.2.1 res.2.2) (1) (6) (xA G) := by
  refine va_MetW (cc := b_Law_at) (maxL := 6) (ret := (some .int)) (by decide) rfl ?_
  intro p e s m args below meth c s₁ B hml hv
  obtain ⟨ha, hE, hH, hz⟩ := hv
  have C0 : CallFix p m c b_Law_at 6 s args wA R_Law := ⟨B.exec, B.bytes, hml, findClass_of_methodNamed B.named, fun w hw => atoms_spec (ws := xwsW y_Law_at b_Law_at 6 (some .int) [(0, 12, 15, 21)]) B.pre w (List.mem_cons_of_mem _ hw)⟩
  have hr := B.returns
  have hlocks := B.notSynchronized
  have htab := vx_table (x := y_Law_at) B (atoms_spec (ws := xwsW y_Law_at b_Law_at 6 (some .int) [(0, 12, 15, 21)]) B.pre _ List.mem_cons_self)
  obtain ⟨R, hR⟩ : ∃ R, R = (headSpec (xwsW y_Law_at b_Law_at 6 (some .int) [(0, 12, 15, 21)]) { frames := 7, cells := 1, slots := 6, locals := 167 }).room := ⟨_, rfl⟩
  have hR1 : 7 ≤ R.frames := by rw [hR]; exact Nat.le_of_ble_eq_true rfl
  have hR2 : 167 ≤ R.locals := by rw [hR]; exact Nat.le_of_ble_eq_true rfl
  have hR3 : 1 ≤ R.cells := by rw [hR]; exact Nat.le_refl _
  have hR4 : 6 ≤ R.slots := by rw [hR]; exact Nat.le_refl _
  rw [← hR]
  obtain ⟨Q, hQ⟩ : ∃ Q, Q = MQ below (xQ G vwCl (some (.int res.1)) res.2.1 res.2.2) args s (1) (6) (xA G) := ⟨_, rfl⟩
  rw [← hQ]
  have hS : xS G s s.heap [] := va_S.rf
  obtain ⟨ls, he, hl⟩ := x_entry m [.inr (.inl r0), .inl x1, .inl x2, .inl x3, .inr (.inl r4)] 6 (Nat.le_of_ble_eq_true rfl)
  rw [show entryFrame m args 6 = F0 m 0 ls [] by rw [ha]; exact he]
  have hl : xL ls 6 [(0, .inr (.inl r0)), (1, .inl x1), (2, .inl x2), (3, .inl x3), (4, .inr (.inl r4))] := hl
  have h := hf
  unfold f_Law_at at h
  suffices hmain : ∀ (H : Heap) (locs : List Loc), xhd G vwCl w H → xS G s H locs → H.size = sz → (H = s.heap ∧ locs = []) → W p l e R s m args below meth c H locs 0 0 Q (F0 m 0 ls []) from hmain _ _ hH hS hz ⟨rfl, rfl⟩
  clear hH hS hz
  intro H locs hH hS hz hP0
  refine x_aload C0 hl 4 d_Law_at_0 rfl ?_
  refine lv_iconst (v := 0) C0.1 C0.2.1 d_Law_at_2 (by decide) ?_
  refine x_aload_n C0 hl 0 d_Law_at_3 rfl rfl ?_
  refine x_iload_n C0 hl 1 d_Law_at_4 rfl rfl ?_
  refine x_iload_n C0 hl 2 d_Law_at_5 rfl rfl ?_
  refine x_iload_n C0 hl 3 d_Law_at_6 rfl rfl ?_
  obtain ⟨b_2, e9, h⟩ := Option.bind_eq_some_iff.mp h
  obtain ⟨e8, fs9, hb9⟩ := xo_inv e9
  obtain ⟨q_1, e9, h⟩ := Option.bind_eq_some_iff.mp h
  have e9 := (show f_LM_at w (Array.size H) b_2 x1 x2 x3 = some q_1 by rw [hz]; exact e9)
  refine x_callTi hS (vx_runV (As := [.int x1, .int x2, .int x3]) (rest := [.int (0 : Int32), va_rf r4]) C0 (c_LM_at l G w _ b_2 x1 x2 x3 q_1 e9 hlt) (x_cwV 3 C0 kw_2_204 kw_2_207 kw_1_1 kw_2_205 kw_2_206 (by decide +kernel) (x_rm hR1 hR2 (Nat.le_of_ble_eq_true rfl) (Nat.le_of_ble_eq_true rfl))) (x_preV hE hH hS (ci := 0) rfl hb9) rfl rfl hl.1 (by rw [e8]; rfl) (lv_room (by first | exact Nat.le_of_ble_eq_true rfl | simp only [List.map_cons, List.map_nil, List.sum_cons, List.sum_nil, va_rf_cat, x_catI, x_catL, x_catA] <;> decide)) d_Law_at_7 ⟨Nat.le_trans (by omega) hR3, Nat.le_trans (by omega) hR4⟩) h (fun v_3 H locs hH hS hz h => ?_) (fun k9 q_5 ce9 H locs hH hS hz h hq9 hv9 hc9 => ?_)
  · refine W.widen (k := 1) (n := 6) (by omega) (by omega) ?_
    refine lv_i2l C0.1 C0.2.1 d_Law_at_10 rfl ?_
    refine x_last C0 hE hH hS (t := 5) rfl d_Law_at_11 h (fun w_4 H locs hH hS hz9 h => ?_)
    have hz := hz9.trans hz
    refine x_goto C0 19 d_Law_at_12 (by decide) ?_
    refine lv_iconst (v := 0) C0.1 C0.2.1 d_Law_at_19 (by decide) ?_
    cases h
    rw [hQ]
    refine W.widen (k := 1) (n := 6) (by omega) (by omega) ?_
    exact x_iret C0 hr hlocks hH hS hz d_Law_at_20
  · refine vx_widen (k := 1) (n := 6) (by omega) (by omega) ?_
    by_cases z0 : k9 = 2
    · subst z0
      rw [if_pos rfl] at h
      refine vx_catch (E := "java/lang/IndexOutOfBoundsException") (name := "java/lang/IndexOutOfBoundsException") C0.2.2.2.1 [] ⟨0, 12, 15, 21⟩ [] htab (fun z h => by cases h) (by decide) (by decide) (C0.2.2.2.2 _ kw_2_13) (va_Nw.use rfl (hE.2.2.1 _ (List.mem_of_getElem? (i := 8) rfl))) hq9 hv9 hc9 ?_
      refine x_astore (lv' := [(5, .inr (.inl (some q_5))), (0, .inr (.inl r0)), (1, .inl x1), (2, .inl x2), (3, .inl x3), (4, .inr (.inl r4))]) C0 hl d_Law_at_15 (by decide) rfl (fun ls hl => ?_)
      refine lv_iconst (v := 1) C0.1 C0.2.1 d_Law_at_17 (by decide) ?_
      cases h
      rw [hQ]
      refine W.widen (k := 1) (n := 6) (by omega) (by omega) ?_
      exact x_iret C0 hr hlocks hH hS hz d_Law_at_18
    rw [if_neg z0] at h
    cases h
theorem d_Law_about_0 : decode b_Law_about 0 = .ok (.aload_n 3, 1) := by decide +kernel
theorem d_Law_about_1 : decode b_Law_about 1 = .ok (.iconst 0, 1) := by decide +kernel
theorem d_Law_about_2 : decode b_Law_about 2 = .ok (.aload_n 0, 1) := by decide +kernel
theorem d_Law_about_3 : decode b_Law_about 3 = .ok (.iload_n 1, 1) := by decide +kernel
theorem d_Law_about_4 : decode b_Law_about 4 = .ok (.iload_n 2, 1) := by decide +kernel
theorem d_Law_about_5 : decode b_Law_about 5 = .ok (.invokevirtual 42, 3) := by decide +kernel
theorem d_Law_about_8 : decode b_Law_about 8 = .ok (.i2l, 1) := by decide +kernel
theorem d_Law_about_9 : decode b_Law_about 9 = .ok (.lastore, 1) := by decide +kernel
theorem d_Law_about_10 : decode b_Law_about 10 = .ok (.goto 11, 3) := by decide +kernel
theorem d_Law_about_13 : decode b_Law_about 13 = .ok (.astore 4, 2) := by decide +kernel
theorem d_Law_about_15 : decode b_Law_about 15 = .ok (.iconst 1, 1) := by decide +kernel
theorem d_Law_about_16 : decode b_Law_about 16 = .ok (.ireturn, 1) := by decide +kernel
theorem d_Law_about_17 : decode b_Law_about 17 = .ok (.astore 4, 2) := by decide +kernel
theorem d_Law_about_19 : decode b_Law_about 19 = .ok (.iconst 2, 1) := by decide +kernel
theorem d_Law_about_20 : decode b_Law_about 20 = .ok (.ireturn, 1) := by decide +kernel
theorem d_Law_about_21 : decode b_Law_about 21 = .ok (.iconst 0, 1) := by decide +kernel
theorem d_Law_about_22 : decode b_Law_about 22 = .ok (.ireturn, 1) := by decide +kernel
def f_Law_about (w : Mp) (sz : Nat) (r0 : Option Nat) (x1 : Int32) (x2 : Int32) (r3 : Option Nat) : Option (Int32 × Mp × Nat) := (xo w r0 0).bind fun b_2 => (f_LM_about w sz b_2 x1 x2).bind fun q_1 => xsw q_1.1 (fun v_3 => (sJ q_1.2.1 r3 5 (0 : Int32) v_3.toInt64).bind fun w_4 => some ((0 : Int32), w_4, q_1.2.2)) (fun k9 => if k9 = 2 then (some ((1 : Int32), q_1.2.1, q_1.2.2)) else (if k9 = 1 then (some ((2 : Int32), q_1.2.1, q_1.2.2)) else (none)))
set_option maxHeartbeats 4000000 in
set_option maxRecDepth 100000 in
theorem c_Law_about (l : Launch) (G : Gx) (w : Mp) (sz : Nat) (r0 : Option Nat) (x1 : Int32) (x2 : Int32) (r3 : Option Nat) (res : Int32 × Mp × Nat) (hf : f_Law_about w sz r0 x1 x2 r3 = some res) (hlt : l.stackTraces = false) : Met l y_Law_about (xwsW y_Law_about b_Law_about 5 (some .int) [(0, 10, 13, 21), (0, 10, 17, 15)]) { frames := 7, cells := 1, slots := 6, locals := 166 } (xPc G vwCl xaty w sz [va_rf r0, .int x1, .int x2, va_rf r3]) (xQ G vwCl (some (.int res.1)) res.2.1 res.2.2) (1) (6) (xA G) := by
  refine va_MetW (cc := b_Law_about) (maxL := 5) (ret := (some .int)) (by decide) rfl ?_
  intro p e s m args below meth c s₁ B hml hv
  obtain ⟨ha, hE, hH, hz⟩ := hv
  have C0 : CallFix p m c b_Law_about 5 s args wA R_Law := ⟨B.exec, B.bytes, hml, findClass_of_methodNamed B.named, fun w hw => atoms_spec (ws := xwsW y_Law_about b_Law_about 5 (some .int) [(0, 10, 13, 21), (0, 10, 17, 15)]) B.pre w (List.mem_cons_of_mem _ hw)⟩
  have hr := B.returns
  have hlocks := B.notSynchronized
  have htab := vx_table (x := y_Law_about) B (atoms_spec (ws := xwsW y_Law_about b_Law_about 5 (some .int) [(0, 10, 13, 21), (0, 10, 17, 15)]) B.pre _ List.mem_cons_self)
  obtain ⟨R, hR⟩ : ∃ R, R = (headSpec (xwsW y_Law_about b_Law_about 5 (some .int) [(0, 10, 13, 21), (0, 10, 17, 15)]) { frames := 7, cells := 1, slots := 6, locals := 166 }).room := ⟨_, rfl⟩
  have hR1 : 7 ≤ R.frames := by rw [hR]; exact Nat.le_of_ble_eq_true rfl
  have hR2 : 166 ≤ R.locals := by rw [hR]; exact Nat.le_of_ble_eq_true rfl
  have hR3 : 1 ≤ R.cells := by rw [hR]; exact Nat.le_refl _
  have hR4 : 6 ≤ R.slots := by rw [hR]; exact Nat.le_refl _
  rw [← hR]
  obtain ⟨Q, hQ⟩ : ∃ Q, Q = MQ below (xQ G vwCl (some (.int res.1)) res.2.1 res.2.2) args s (1) (6) (xA G) := ⟨_, rfl⟩
  rw [← hQ]
  have hS : xS G s s.heap [] := va_S.rf
  obtain ⟨ls, he, hl⟩ := x_entry m [.inr (.inl r0), .inl x1, .inl x2, .inr (.inl r3)] 5 (Nat.le_of_ble_eq_true rfl)
  rw [show entryFrame m args 5 = F0 m 0 ls [] by rw [ha]; exact he]
  have hl : xL ls 5 [(0, .inr (.inl r0)), (1, .inl x1), (2, .inl x2), (3, .inr (.inl r3))] := hl
  have h := hf
  unfold f_Law_about at h
  suffices hmain : ∀ (H : Heap) (locs : List Loc), xhd G vwCl w H → xS G s H locs → H.size = sz → (H = s.heap ∧ locs = []) → W p l e R s m args below meth c H locs 0 0 Q (F0 m 0 ls []) from hmain _ _ hH hS hz ⟨rfl, rfl⟩
  clear hH hS hz
  intro H locs hH hS hz hP0
  refine x_aload_n C0 hl 3 d_Law_about_0 rfl rfl ?_
  refine lv_iconst (v := 0) C0.1 C0.2.1 d_Law_about_1 (by decide) ?_
  refine x_aload_n C0 hl 0 d_Law_about_2 rfl rfl ?_
  refine x_iload_n C0 hl 1 d_Law_about_3 rfl rfl ?_
  refine x_iload_n C0 hl 2 d_Law_about_4 rfl rfl ?_
  obtain ⟨b_2, e9, h⟩ := Option.bind_eq_some_iff.mp h
  obtain ⟨e8, fs9, hb9⟩ := xo_inv e9
  obtain ⟨q_1, e9, h⟩ := Option.bind_eq_some_iff.mp h
  have e9 := (show f_LM_about w (Array.size H) b_2 x1 x2 = some q_1 by rw [hz]; exact e9)
  refine x_callTi hS (vx_runV (As := [.int x1, .int x2]) (rest := [.int (0 : Int32), va_rf r3]) C0 (c_LM_about l G w _ b_2 x1 x2 q_1 e9 hlt) (x_cwV 2 C0 kw_2_222 kw_2_225 kw_1_1 kw_2_223 kw_2_224 (by decide +kernel) (x_rm hR1 hR2 (Nat.le_of_ble_eq_true rfl) (Nat.le_of_ble_eq_true rfl))) (x_preV hE hH hS (ci := 0) rfl hb9) rfl rfl hl.1 (by rw [e8]; rfl) (lv_room (by first | exact Nat.le_of_ble_eq_true rfl | simp only [List.map_cons, List.map_nil, List.sum_cons, List.sum_nil, va_rf_cat, x_catI, x_catL, x_catA] <;> decide)) d_Law_about_5 ⟨Nat.le_trans (by omega) hR3, Nat.le_trans (by omega) hR4⟩) h (fun v_3 H locs hH hS hz h => ?_) (fun k9 q_5 ce9 H locs hH hS hz h hq9 hv9 hc9 => ?_)
  · refine W.widen (k := 1) (n := 6) (by omega) (by omega) ?_
    refine lv_i2l C0.1 C0.2.1 d_Law_about_8 rfl ?_
    refine x_last C0 hE hH hS (t := 5) rfl d_Law_about_9 h (fun w_4 H locs hH hS hz9 h => ?_)
    have hz := hz9.trans hz
    refine x_goto C0 21 d_Law_about_10 (by decide) ?_
    refine lv_iconst (v := 0) C0.1 C0.2.1 d_Law_about_21 (by decide) ?_
    cases h
    rw [hQ]
    refine W.widen (k := 1) (n := 6) (by omega) (by omega) ?_
    exact x_iret C0 hr hlocks hH hS hz d_Law_about_22
  · refine vx_widen (k := 1) (n := 6) (by omega) (by omega) ?_
    by_cases z0 : k9 = 2
    · subst z0
      rw [if_pos rfl] at h
      refine vx_catch (E := "java/lang/IndexOutOfBoundsException") (name := "java/lang/IndexOutOfBoundsException") C0.2.2.2.1 [] ⟨0, 10, 13, 21⟩ [⟨0, 10, 17, 15⟩] htab (fun z h => by cases h) (by decide) (by decide) (C0.2.2.2.2 _ kw_2_13) (va_Nw.use rfl (hE.2.2.1 _ (List.mem_of_getElem? (i := 8) rfl))) hq9 hv9 hc9 ?_
      refine x_astore (lv' := [(4, .inr (.inl (some q_5))), (0, .inr (.inl r0)), (1, .inl x1), (2, .inl x2), (3, .inr (.inl r3))]) C0 hl d_Law_about_13 (by decide) rfl (fun ls hl => ?_)
      refine lv_iconst (v := 1) C0.1 C0.2.1 d_Law_about_15 (by decide) ?_
      cases h
      rw [hQ]
      refine W.widen (k := 1) (n := 6) (by omega) (by omega) ?_
      exact x_iret C0 hr hlocks hH hS hz d_Law_about_16
    by_cases z1 : k9 = 1
    · subst z1
      rw [if_neg (by decide), if_pos rfl] at h
      refine vx_catch (E := "java/lang/IllegalArgumentException") (name := "java/lang/IllegalArgumentException") C0.2.2.2.1 [⟨0, 10, 13, 21⟩] ⟨0, 10, 17, 15⟩ [] htab (List.forall_mem_cons.mpr ⟨Or.inr ⟨by decide, "java/lang/IndexOutOfBoundsException", C0.2.2.2.2 _ kw_2_13, hE.2.2.2.2.2.2.1 _ (List.mem_of_getElem? (i := 22) rfl)⟩, fun z h => by cases h⟩) (by decide) (by decide) (C0.2.2.2.2 _ kw_1_106) (va_Nw.use rfl (hE.2.2.1 _ (List.mem_of_getElem? (i := 7) rfl))) hq9 hv9 hc9 ?_
      refine x_astore (lv' := [(4, .inr (.inl (some q_5))), (0, .inr (.inl r0)), (1, .inl x1), (2, .inl x2), (3, .inr (.inl r3))]) C0 hl d_Law_about_17 (by decide) rfl (fun ls hl => ?_)
      refine lv_iconst (v := 2) C0.1 C0.2.1 d_Law_about_19 (by decide) ?_
      cases h
      rw [hQ]
      refine W.widen (k := 1) (n := 6) (by omega) (by omega) ?_
      exact x_iret C0 hr hlocks hH hS hz d_Law_about_20
    rw [if_neg z0, if_neg z1] at h
    cases h
theorem d_Law_seam_0 : decode b_Law_seam 0 = .ok (.aload_n 3, 1) := by decide +kernel
theorem d_Law_seam_1 : decode b_Law_seam 1 = .ok (.iconst 0, 1) := by decide +kernel
theorem d_Law_seam_2 : decode b_Law_seam 2 = .ok (.aload_n 0, 1) := by decide +kernel
theorem d_Law_seam_3 : decode b_Law_seam 3 = .ok (.iload_n 1, 1) := by decide +kernel
theorem d_Law_seam_4 : decode b_Law_seam 4 = .ok (.iload_n 2, 1) := by decide +kernel
theorem d_Law_seam_5 : decode b_Law_seam 5 = .ok (.invokevirtual 45, 3) := by decide +kernel
theorem d_Law_seam_8 : decode b_Law_seam 8 = .ok (.i2l, 1) := by decide +kernel
theorem d_Law_seam_9 : decode b_Law_seam 9 = .ok (.lastore, 1) := by decide +kernel
theorem d_Law_seam_10 : decode b_Law_seam 10 = .ok (.goto 7, 3) := by decide +kernel
theorem d_Law_seam_13 : decode b_Law_seam 13 = .ok (.astore 4, 2) := by decide +kernel
theorem d_Law_seam_15 : decode b_Law_seam 15 = .ok (.iconst 1, 1) := by decide +kernel
theorem d_Law_seam_16 : decode b_Law_seam 16 = .ok (.ireturn, 1) := by decide +kernel
theorem d_Law_seam_17 : decode b_Law_seam 17 = .ok (.iconst 0, 1) := by decide +kernel
theorem d_Law_seam_18 : decode b_Law_seam 18 = .ok (.ireturn, 1) := by decide +kernel
def f_Law_seam (w : Mp) (sz : Nat) (r0 : Option Nat) (x1 : Int32) (x2 : Int32) (r3 : Option Nat) : Option (Int32 × Mp × Nat) := (xo w r0 0).bind fun b_2 => (f_LM_seam w sz b_2 x1 x2).bind fun q_1 => xsw q_1.1 (fun v_3 => (sJ q_1.2.1 r3 5 (0 : Int32) v_3.toInt64).bind fun w_4 => some ((0 : Int32), w_4, q_1.2.2)) (fun k9 => if k9 = 2 then (some ((1 : Int32), q_1.2.1, q_1.2.2)) else (none))
set_option maxHeartbeats 4000000 in
set_option maxRecDepth 100000 in
theorem c_Law_seam (l : Launch) (G : Gx) (w : Mp) (sz : Nat) (r0 : Option Nat) (x1 : Int32) (x2 : Int32) (r3 : Option Nat) (res : Int32 × Mp × Nat) (hf : f_Law_seam w sz r0 x1 x2 r3 = some res) (hlt : l.stackTraces = false) : Met l y_Law_seam (xwsW y_Law_seam b_Law_seam 5 (some .int) [(0, 10, 13, 21)]) { frames := 7, cells := 1, slots := 6, locals := 145 } (xPc G vwCl xaty w sz [va_rf r0, .int x1, .int x2, va_rf r3]) (xQ G vwCl (some (.int res.1)) res.2.1 res.2.2) (1) (6) (xA G) := by
  refine va_MetW (cc := b_Law_seam) (maxL := 5) (ret := (some .int)) (by decide) rfl ?_
  intro p e s m args below meth c s₁ B hml hv
  obtain ⟨ha, hE, hH, hz⟩ := hv
  have C0 : CallFix p m c b_Law_seam 5 s args wA R_Law := ⟨B.exec, B.bytes, hml, findClass_of_methodNamed B.named, fun w hw => atoms_spec (ws := xwsW y_Law_seam b_Law_seam 5 (some .int) [(0, 10, 13, 21)]) B.pre w (List.mem_cons_of_mem _ hw)⟩
  have hr := B.returns
  have hlocks := B.notSynchronized
  have htab := vx_table (x := y_Law_seam) B (atoms_spec (ws := xwsW y_Law_seam b_Law_seam 5 (some .int) [(0, 10, 13, 21)]) B.pre _ List.mem_cons_self)
  obtain ⟨R, hR⟩ : ∃ R, R = (headSpec (xwsW y_Law_seam b_Law_seam 5 (some .int) [(0, 10, 13, 21)]) { frames := 7, cells := 1, slots := 6, locals := 145 }).room := ⟨_, rfl⟩
  have hR1 : 7 ≤ R.frames := by rw [hR]; exact Nat.le_of_ble_eq_true rfl
  have hR2 : 145 ≤ R.locals := by rw [hR]; exact Nat.le_of_ble_eq_true rfl
  have hR3 : 1 ≤ R.cells := by rw [hR]; exact Nat.le_refl _
  have hR4 : 6 ≤ R.slots := by rw [hR]; exact Nat.le_refl _
  rw [← hR]
  obtain ⟨Q, hQ⟩ : ∃ Q, Q = MQ below (xQ G vwCl (some (.int res.1)) res.2.1 res.2.2) args s (1) (6) (xA G) := ⟨_, rfl⟩
  rw [← hQ]
  have hS : xS G s s.heap [] := va_S.rf
  obtain ⟨ls, he, hl⟩ := x_entry m [.inr (.inl r0), .inl x1, .inl x2, .inr (.inl r3)] 5 (Nat.le_of_ble_eq_true rfl)
  rw [show entryFrame m args 5 = F0 m 0 ls [] by rw [ha]; exact he]
  have hl : xL ls 5 [(0, .inr (.inl r0)), (1, .inl x1), (2, .inl x2), (3, .inr (.inl r3))] := hl
  have h := hf
  unfold f_Law_seam at h
  suffices hmain : ∀ (H : Heap) (locs : List Loc), xhd G vwCl w H → xS G s H locs → H.size = sz → (H = s.heap ∧ locs = []) → W p l e R s m args below meth c H locs 0 0 Q (F0 m 0 ls []) from hmain _ _ hH hS hz ⟨rfl, rfl⟩
  clear hH hS hz
  intro H locs hH hS hz hP0
  refine x_aload_n C0 hl 3 d_Law_seam_0 rfl rfl ?_
  refine lv_iconst (v := 0) C0.1 C0.2.1 d_Law_seam_1 (by decide) ?_
  refine x_aload_n C0 hl 0 d_Law_seam_2 rfl rfl ?_
  refine x_iload_n C0 hl 1 d_Law_seam_3 rfl rfl ?_
  refine x_iload_n C0 hl 2 d_Law_seam_4 rfl rfl ?_
  obtain ⟨b_2, e9, h⟩ := Option.bind_eq_some_iff.mp h
  obtain ⟨e8, fs9, hb9⟩ := xo_inv e9
  obtain ⟨q_1, e9, h⟩ := Option.bind_eq_some_iff.mp h
  have e9 := (show f_LM_seam w (Array.size H) b_2 x1 x2 = some q_1 by rw [hz]; exact e9)
  refine x_callTi hS (vx_runV (As := [.int x1, .int x2]) (rest := [.int (0 : Int32), va_rf r3]) C0 (c_LM_seam l G w _ b_2 x1 x2 q_1 e9 hlt) (x_cwV 2 C0 kw_3_2 kw_3_5 kw_1_1 kw_3_3 kw_3_4 (by decide +kernel) (x_rm hR1 hR2 (Nat.le_of_ble_eq_true rfl) (Nat.le_of_ble_eq_true rfl))) (x_preV hE hH hS (ci := 0) rfl hb9) rfl rfl hl.1 (by rw [e8]; rfl) (lv_room (by first | exact Nat.le_of_ble_eq_true rfl | simp only [List.map_cons, List.map_nil, List.sum_cons, List.sum_nil, va_rf_cat, x_catI, x_catL, x_catA] <;> decide)) d_Law_seam_5 ⟨Nat.le_trans (by omega) hR3, Nat.le_trans (by omega) hR4⟩) h (fun v_3 H locs hH hS hz h => ?_) (fun k9 q_5 ce9 H locs hH hS hz h hq9 hv9 hc9 => ?_)
  · refine W.widen (k := 1) (n := 6) (by omega) (by omega) ?_
    refine lv_i2l C0.1 C0.2.1 d_Law_seam_8 rfl ?_
    refine x_last C0 hE hH hS (t := 5) rfl d_Law_seam_9 h (fun w_4 H locs hH hS hz9 h => ?_)
    have hz := hz9.trans hz
    refine x_goto C0 17 d_Law_seam_10 (by decide) ?_
    refine lv_iconst (v := 0) C0.1 C0.2.1 d_Law_seam_17 (by decide) ?_
    cases h
    rw [hQ]
    refine W.widen (k := 1) (n := 6) (by omega) (by omega) ?_
    exact x_iret C0 hr hlocks hH hS hz d_Law_seam_18
  · refine vx_widen (k := 1) (n := 6) (by omega) (by omega) ?_
    by_cases z0 : k9 = 2
    · subst z0
      rw [if_pos rfl] at h
      refine vx_catch (E := "java/lang/IndexOutOfBoundsException") (name := "java/lang/IndexOutOfBoundsException") C0.2.2.2.1 [] ⟨0, 10, 13, 21⟩ [] htab (fun z h => by cases h) (by decide) (by decide) (C0.2.2.2.2 _ kw_2_13) (va_Nw.use rfl (hE.2.2.1 _ (List.mem_of_getElem? (i := 8) rfl))) hq9 hv9 hc9 ?_
      refine x_astore (lv' := [(4, .inr (.inl (some q_5))), (0, .inr (.inl r0)), (1, .inl x1), (2, .inl x2), (3, .inr (.inl r3))]) C0 hl d_Law_seam_13 (by decide) rfl (fun ls hl => ?_)
      refine lv_iconst (v := 1) C0.1 C0.2.1 d_Law_seam_15 (by decide) ?_
      cases h
      rw [hQ]
      refine W.widen (k := 1) (n := 6) (by omega) (by omega) ?_
      exact x_iret C0 hr hlocks hH hS hz d_Law_seam_16
    rw [if_neg z0] at h
    cases h
theorem d_Law_sum_0 : decode b_Law_sum 0 = .ok (.aload 4, 2) := by decide +kernel
theorem d_Law_sum_2 : decode b_Law_sum 2 = .ok (.iconst 0, 1) := by decide +kernel
theorem d_Law_sum_3 : decode b_Law_sum 3 = .ok (.aload_n 0, 1) := by decide +kernel
theorem d_Law_sum_4 : decode b_Law_sum 4 = .ok (.iload_n 1, 1) := by decide +kernel
theorem d_Law_sum_5 : decode b_Law_sum 5 = .ok (.iload_n 2, 1) := by decide +kernel
theorem d_Law_sum_6 : decode b_Law_sum 6 = .ok (.iload_n 3, 1) := by decide +kernel
theorem d_Law_sum_7 : decode b_Law_sum 7 = .ok (.invokevirtual 48, 3) := by decide +kernel
theorem d_Law_sum_10 : decode b_Law_sum 10 = .ok (.lastore, 1) := by decide +kernel
theorem d_Law_sum_11 : decode b_Law_sum 11 = .ok (.goto 11, 3) := by decide +kernel
theorem d_Law_sum_14 : decode b_Law_sum 14 = .ok (.astore 5, 2) := by decide +kernel
theorem d_Law_sum_16 : decode b_Law_sum 16 = .ok (.iconst 1, 1) := by decide +kernel
theorem d_Law_sum_17 : decode b_Law_sum 17 = .ok (.ireturn, 1) := by decide +kernel
theorem d_Law_sum_18 : decode b_Law_sum 18 = .ok (.astore 5, 2) := by decide +kernel
theorem d_Law_sum_20 : decode b_Law_sum 20 = .ok (.iconst 2, 1) := by decide +kernel
theorem d_Law_sum_21 : decode b_Law_sum 21 = .ok (.ireturn, 1) := by decide +kernel
theorem d_Law_sum_22 : decode b_Law_sum 22 = .ok (.iconst 0, 1) := by decide +kernel
theorem d_Law_sum_23 : decode b_Law_sum 23 = .ok (.ireturn, 1) := by decide +kernel
def f_Law_sum (w : Mp) (sz : Nat) (r0 : Option Nat) (x1 : Int32) (x2 : Int32) (x3 : Int32) (r4 : Option Nat) : Option (Int32 × Mp × Nat) := (xo w r0 0).bind fun b_2 => (f_LM_sum w sz b_2 x1 x2 x3).bind fun q_1 => xsw q_1.1 (fun v_3 => (sJ q_1.2.1 r4 5 (0 : Int32) v_3).bind fun w_4 => some ((0 : Int32), w_4, q_1.2.2)) (fun k9 => if k9 = 2 then (some ((1 : Int32), q_1.2.1, q_1.2.2)) else (if k9 = 1 then (some ((2 : Int32), q_1.2.1, q_1.2.2)) else (none)))
set_option maxHeartbeats 4000000 in
set_option maxRecDepth 100000 in
theorem c_Law_sum (l : Launch) (G : Gx) (w : Mp) (sz : Nat) (r0 : Option Nat) (x1 : Int32) (x2 : Int32) (x3 : Int32) (r4 : Option Nat) (res : Int32 × Mp × Nat) (hf : f_Law_sum w sz r0 x1 x2 x3 r4 = some res) (hlt : l.stackTraces = false) : Met l y_Law_sum (xwsW y_Law_sum b_Law_sum 6 (some .int) [(0, 11, 14, 21), (0, 11, 18, 15)]) { frames := 7, cells := 1, slots := 6, locals := 121 } (xPc G vwCl xaty w sz [va_rf r0, .int x1, .int x2, .int x3, va_rf r4]) (xQ G vwCl (some (.int res.1)) res.2.1 res.2.2) (1) (6) (xA G) := by
  refine va_MetW (cc := b_Law_sum) (maxL := 6) (ret := (some .int)) (by decide) rfl ?_
  intro p e s m args below meth c s₁ B hml hv
  obtain ⟨ha, hE, hH, hz⟩ := hv
  have C0 : CallFix p m c b_Law_sum 6 s args wA R_Law := ⟨B.exec, B.bytes, hml, findClass_of_methodNamed B.named, fun w hw => atoms_spec (ws := xwsW y_Law_sum b_Law_sum 6 (some .int) [(0, 11, 14, 21), (0, 11, 18, 15)]) B.pre w (List.mem_cons_of_mem _ hw)⟩
  have hr := B.returns
  have hlocks := B.notSynchronized
  have htab := vx_table (x := y_Law_sum) B (atoms_spec (ws := xwsW y_Law_sum b_Law_sum 6 (some .int) [(0, 11, 14, 21), (0, 11, 18, 15)]) B.pre _ List.mem_cons_self)
  obtain ⟨R, hR⟩ : ∃ R, R = (headSpec (xwsW y_Law_sum b_Law_sum 6 (some .int) [(0, 11, 14, 21), (0, 11, 18, 15)]) { frames := 7, cells := 1, slots := 6, locals := 121 }).room := ⟨_, rfl⟩
  have hR1 : 7 ≤ R.frames := by rw [hR]; exact Nat.le_of_ble_eq_true rfl
  have hR2 : 121 ≤ R.locals := by rw [hR]; exact Nat.le_of_ble_eq_true rfl
  have hR3 : 1 ≤ R.cells := by rw [hR]; exact Nat.le_refl _
  have hR4 : 6 ≤ R.slots := by rw [hR]; exact Nat.le_refl _
  rw [← hR]
  obtain ⟨Q, hQ⟩ : ∃ Q, Q = MQ below (xQ G vwCl (some (.int res.1)) res.2.1 res.2.2) args s (1) (6) (xA G) := ⟨_, rfl⟩
  rw [← hQ]
  have hS : xS G s s.heap [] := va_S.rf
  obtain ⟨ls, he, hl⟩ := x_entry m [.inr (.inl r0), .inl x1, .inl x2, .inl x3, .inr (.inl r4)] 6 (Nat.le_of_ble_eq_true rfl)
  rw [show entryFrame m args 6 = F0 m 0 ls [] by rw [ha]; exact he]
  have hl : xL ls 6 [(0, .inr (.inl r0)), (1, .inl x1), (2, .inl x2), (3, .inl x3), (4, .inr (.inl r4))] := hl
  have h := hf
  unfold f_Law_sum at h
  suffices hmain : ∀ (H : Heap) (locs : List Loc), xhd G vwCl w H → xS G s H locs → H.size = sz → (H = s.heap ∧ locs = []) → W p l e R s m args below meth c H locs 0 0 Q (F0 m 0 ls []) from hmain _ _ hH hS hz ⟨rfl, rfl⟩
  clear hH hS hz
  intro H locs hH hS hz hP0
  refine x_aload C0 hl 4 d_Law_sum_0 rfl ?_
  refine lv_iconst (v := 0) C0.1 C0.2.1 d_Law_sum_2 (by decide) ?_
  refine x_aload_n C0 hl 0 d_Law_sum_3 rfl rfl ?_
  refine x_iload_n C0 hl 1 d_Law_sum_4 rfl rfl ?_
  refine x_iload_n C0 hl 2 d_Law_sum_5 rfl rfl ?_
  refine x_iload_n C0 hl 3 d_Law_sum_6 rfl rfl ?_
  obtain ⟨b_2, e9, h⟩ := Option.bind_eq_some_iff.mp h
  obtain ⟨e8, fs9, hb9⟩ := xo_inv e9
  obtain ⟨q_1, e9, h⟩ := Option.bind_eq_some_iff.mp h
  have e9 := (show f_LM_sum w (Array.size H) b_2 x1 x2 x3 = some q_1 by rw [hz]; exact e9)
  refine x_callTl hS (vx_runV (As := [.int x1, .int x2, .int x3]) (rest := [.int (0 : Int32), va_rf r4]) C0 (c_LM_sum l G w _ b_2 x1 x2 x3 q_1 e9 hlt) (x_cwV 3 C0 kw_3_15 kw_3_18 kw_1_1 kw_3_16 kw_3_17 (by decide +kernel) (x_rm hR1 hR2 (Nat.le_of_ble_eq_true rfl) (Nat.le_of_ble_eq_true rfl))) (x_preV hE hH hS (ci := 0) rfl hb9) rfl rfl hl.1 (by rw [e8]; rfl) (lv_room (by first | exact Nat.le_of_ble_eq_true rfl | simp only [List.map_cons, List.map_nil, List.sum_cons, List.sum_nil, va_rf_cat, x_catI, x_catL, x_catA] <;> decide)) d_Law_sum_7 ⟨Nat.le_trans (by omega) hR3, Nat.le_trans (by omega) hR4⟩) h (fun v_3 H locs hH hS hz h => ?_) (fun k9 q_5 ce9 H locs hH hS hz h hq9 hv9 hc9 => ?_)
  · refine W.widen (k := 1) (n := 6) (by omega) (by omega) ?_
    refine x_last C0 hE hH hS (t := 5) rfl d_Law_sum_10 h (fun w_4 H locs hH hS hz9 h => ?_)
    have hz := hz9.trans hz
    refine x_goto C0 22 d_Law_sum_11 (by decide) ?_
    refine lv_iconst (v := 0) C0.1 C0.2.1 d_Law_sum_22 (by decide) ?_
    cases h
    rw [hQ]
    refine W.widen (k := 1) (n := 6) (by omega) (by omega) ?_
    exact x_iret C0 hr hlocks hH hS hz d_Law_sum_23
  · refine vx_widen (k := 1) (n := 6) (by omega) (by omega) ?_
    by_cases z0 : k9 = 2
    · subst z0
      rw [if_pos rfl] at h
      refine vx_catch (E := "java/lang/IndexOutOfBoundsException") (name := "java/lang/IndexOutOfBoundsException") C0.2.2.2.1 [] ⟨0, 11, 14, 21⟩ [⟨0, 11, 18, 15⟩] htab (fun z h => by cases h) (by decide) (by decide) (C0.2.2.2.2 _ kw_2_13) (va_Nw.use rfl (hE.2.2.1 _ (List.mem_of_getElem? (i := 8) rfl))) hq9 hv9 hc9 ?_
      refine x_astore (lv' := [(5, .inr (.inl (some q_5))), (0, .inr (.inl r0)), (1, .inl x1), (2, .inl x2), (3, .inl x3), (4, .inr (.inl r4))]) C0 hl d_Law_sum_14 (by decide) rfl (fun ls hl => ?_)
      refine lv_iconst (v := 1) C0.1 C0.2.1 d_Law_sum_16 (by decide) ?_
      cases h
      rw [hQ]
      refine W.widen (k := 1) (n := 6) (by omega) (by omega) ?_
      exact x_iret C0 hr hlocks hH hS hz d_Law_sum_17
    by_cases z1 : k9 = 1
    · subst z1
      rw [if_neg (by decide), if_pos rfl] at h
      refine vx_catch (E := "java/lang/IllegalArgumentException") (name := "java/lang/IllegalArgumentException") C0.2.2.2.1 [⟨0, 11, 14, 21⟩] ⟨0, 11, 18, 15⟩ [] htab (List.forall_mem_cons.mpr ⟨Or.inr ⟨by decide, "java/lang/IndexOutOfBoundsException", C0.2.2.2.2 _ kw_2_13, hE.2.2.2.2.2.2.1 _ (List.mem_of_getElem? (i := 22) rfl)⟩, fun z h => by cases h⟩) (by decide) (by decide) (C0.2.2.2.2 _ kw_1_106) (va_Nw.use rfl (hE.2.2.1 _ (List.mem_of_getElem? (i := 7) rfl))) hq9 hv9 hc9 ?_
      refine x_astore (lv' := [(5, .inr (.inl (some q_5))), (0, .inr (.inl r0)), (1, .inl x1), (2, .inl x2), (3, .inl x3), (4, .inr (.inl r4))]) C0 hl d_Law_sum_18 (by decide) rfl (fun ls hl => ?_)
      refine lv_iconst (v := 2) C0.1 C0.2.1 d_Law_sum_20 (by decide) ?_
      cases h
      rw [hQ]
      refine W.widen (k := 1) (n := 6) (by omega) (by omega) ?_
      exact x_iret C0 hr hlocks hH hS hz d_Law_sum_21
    rw [if_neg z0, if_neg z1] at h
    cases h
theorem d_Law_mirrored_0 : decode b_Law_mirrored 0 = .ok (.aload_n 3, 1) := by decide +kernel
theorem d_Law_mirrored_1 : decode b_Law_mirrored 1 = .ok (.iconst 0, 1) := by decide +kernel
theorem d_Law_mirrored_2 : decode b_Law_mirrored 2 = .ok (.aload_n 0, 1) := by decide +kernel
theorem d_Law_mirrored_3 : decode b_Law_mirrored 3 = .ok (.iload_n 1, 1) := by decide +kernel
theorem d_Law_mirrored_4 : decode b_Law_mirrored 4 = .ok (.iload_n 2, 1) := by decide +kernel
theorem d_Law_mirrored_5 : decode b_Law_mirrored 5 = .ok (.invokevirtual 52, 3) := by decide +kernel
theorem d_Law_mirrored_8 : decode b_Law_mirrored 8 = .ok (.ifCond .eq 7, 3) := by decide +kernel
theorem d_Law_mirrored_11 : decode b_Law_mirrored 11 = .ok (.lconst 1, 1) := by decide +kernel
theorem d_Law_mirrored_12 : decode b_Law_mirrored 12 = .ok (.goto 4, 3) := by decide +kernel
theorem d_Law_mirrored_15 : decode b_Law_mirrored 15 = .ok (.lconst 0, 1) := by decide +kernel
theorem d_Law_mirrored_16 : decode b_Law_mirrored 16 = .ok (.lastore, 1) := by decide +kernel
theorem d_Law_mirrored_17 : decode b_Law_mirrored 17 = .ok (.goto 7, 3) := by decide +kernel
theorem d_Law_mirrored_20 : decode b_Law_mirrored 20 = .ok (.astore 4, 2) := by decide +kernel
theorem d_Law_mirrored_22 : decode b_Law_mirrored 22 = .ok (.iconst 1, 1) := by decide +kernel
theorem d_Law_mirrored_23 : decode b_Law_mirrored 23 = .ok (.ireturn, 1) := by decide +kernel
theorem d_Law_mirrored_24 : decode b_Law_mirrored 24 = .ok (.iconst 0, 1) := by decide +kernel
theorem d_Law_mirrored_25 : decode b_Law_mirrored 25 = .ok (.ireturn, 1) := by decide +kernel
def f_Law_mirrored (w : Mp) (sz : Nat) (r0 : Option Nat) (x1 : Int32) (x2 : Int32) (r3 : Option Nat) : Option (Int32 × Mp × Nat) := (xo w r0 0).bind fun b_2 => (f_LM_mirrored w sz b_2 x1 x2).bind fun q_1 => xsw q_1.1 (fun v_3 => if v_3 = 0 then ((sJ q_1.2.1 r3 5 (0 : Int32) (0 : Int64)).bind fun w_4 => some ((0 : Int32), w_4, q_1.2.2)) else ((sJ q_1.2.1 r3 5 (0 : Int32) (1 : Int64)).bind fun w_5 => some ((0 : Int32), w_5, q_1.2.2))) (fun k9 => if k9 = 2 then (some ((1 : Int32), q_1.2.1, q_1.2.2)) else (none))
set_option maxHeartbeats 4000000 in
set_option maxRecDepth 100000 in
theorem c_Law_mirrored (l : Launch) (G : Gx) (w : Mp) (sz : Nat) (r0 : Option Nat) (x1 : Int32) (x2 : Int32) (r3 : Option Nat) (res : Int32 × Mp × Nat) (hf : f_Law_mirrored w sz r0 x1 x2 r3 = some res) (hlt : l.stackTraces = false) : Met l y_Law_mirrored (xwsW y_Law_mirrored b_Law_mirrored 5 (some .int) [(0, 17, 20, 21)]) { frames := 7, cells := 1, slots := 6, locals := 120 } (xPc G vwCl xaty w sz [va_rf r0, .int x1, .int x2, va_rf r3]) (xQ G vwCl (some (.int res.1)) res.2.1 res.2.2) (1) (6) (xA G) := by
  refine va_MetW (cc := b_Law_mirrored) (maxL := 5) (ret := (some .int)) (by decide) rfl ?_
  intro p e s m args below meth c s₁ B hml hv
  obtain ⟨ha, hE, hH, hz⟩ := hv
  have C0 : CallFix p m c b_Law_mirrored 5 s args wA R_Law := ⟨B.exec, B.bytes, hml, findClass_of_methodNamed B.named, fun w hw => atoms_spec (ws := xwsW y_Law_mirrored b_Law_mirrored 5 (some .int) [(0, 17, 20, 21)]) B.pre w (List.mem_cons_of_mem _ hw)⟩
  have hr := B.returns
  have hlocks := B.notSynchronized
  have htab := vx_table (x := y_Law_mirrored) B (atoms_spec (ws := xwsW y_Law_mirrored b_Law_mirrored 5 (some .int) [(0, 17, 20, 21)]) B.pre _ List.mem_cons_self)
  obtain ⟨R, hR⟩ : ∃ R, R = (headSpec (xwsW y_Law_mirrored b_Law_mirrored 5 (some .int) [(0, 17, 20, 21)]) { frames := 7, cells := 1, slots := 6, locals := 120 }).room := ⟨_, rfl⟩
  have hR1 : 7 ≤ R.frames := by rw [hR]; exact Nat.le_of_ble_eq_true rfl
  have hR2 : 120 ≤ R.locals := by rw [hR]; exact Nat.le_of_ble_eq_true rfl
  have hR3 : 1 ≤ R.cells := by rw [hR]; exact Nat.le_refl _
  have hR4 : 6 ≤ R.slots := by rw [hR]; exact Nat.le_refl _
  rw [← hR]
  obtain ⟨Q, hQ⟩ : ∃ Q, Q = MQ below (xQ G vwCl (some (.int res.1)) res.2.1 res.2.2) args s (1) (6) (xA G) := ⟨_, rfl⟩
  rw [← hQ]
  have hS : xS G s s.heap [] := va_S.rf
  obtain ⟨ls, he, hl⟩ := x_entry m [.inr (.inl r0), .inl x1, .inl x2, .inr (.inl r3)] 5 (Nat.le_of_ble_eq_true rfl)
  rw [show entryFrame m args 5 = F0 m 0 ls [] by rw [ha]; exact he]
  have hl : xL ls 5 [(0, .inr (.inl r0)), (1, .inl x1), (2, .inl x2), (3, .inr (.inl r3))] := hl
  have h := hf
  unfold f_Law_mirrored at h
  suffices hmain : ∀ (H : Heap) (locs : List Loc), xhd G vwCl w H → xS G s H locs → H.size = sz → (H = s.heap ∧ locs = []) → W p l e R s m args below meth c H locs 0 0 Q (F0 m 0 ls []) from hmain _ _ hH hS hz ⟨rfl, rfl⟩
  clear hH hS hz
  intro H locs hH hS hz hP0
  refine x_aload_n C0 hl 3 d_Law_mirrored_0 rfl rfl ?_
  refine lv_iconst (v := 0) C0.1 C0.2.1 d_Law_mirrored_1 (by decide) ?_
  refine x_aload_n C0 hl 0 d_Law_mirrored_2 rfl rfl ?_
  refine x_iload_n C0 hl 1 d_Law_mirrored_3 rfl rfl ?_
  refine x_iload_n C0 hl 2 d_Law_mirrored_4 rfl rfl ?_
  obtain ⟨b_2, e9, h⟩ := Option.bind_eq_some_iff.mp h
  obtain ⟨e8, fs9, hb9⟩ := xo_inv e9
  obtain ⟨q_1, e9, h⟩ := Option.bind_eq_some_iff.mp h
  have e9 := (show f_LM_mirrored w (Array.size H) b_2 x1 x2 = some q_1 by rw [hz]; exact e9)
  refine x_callTi hS (vx_runV (As := [.int x1, .int x2]) (rest := [.int (0 : Int32), va_rf r3]) C0 (c_LM_mirrored l G w _ b_2 x1 x2 q_1 e9 hlt) (x_cwV 2 C0 kw_3_24 kw_3_27 kw_1_1 kw_3_25 kw_3_26 (by decide +kernel) (x_rm hR1 hR2 (Nat.le_of_ble_eq_true rfl) (Nat.le_of_ble_eq_true rfl))) (x_preV hE hH hS (ci := 0) rfl hb9) rfl rfl hl.1 (by rw [e8]; rfl) (lv_room (by first | exact Nat.le_of_ble_eq_true rfl | simp only [List.map_cons, List.map_nil, List.sum_cons, List.sum_nil, va_rf_cat, x_catI, x_catL, x_catA] <;> decide)) d_Law_mirrored_5 ⟨Nat.le_trans (by omega) hR3, Nat.le_trans (by omega) hR4⟩) h (fun v_3 H locs hH hS hz h => ?_) (fun k9 q_6 ce9 H locs hH hS hz h hq9 hv9 hc9 => ?_)
  · refine W.widen (k := 1) (n := 6) (by omega) (by omega) ?_
    refine x_if_eq C0 15 d_Law_mirrored_8 (by decide) h (fun h => ?_) (fun h => ?_)
    · refine lv_lconst (v := 0) C0.1 C0.2.1 d_Law_mirrored_15 (by decide) ?_
      refine x_last C0 hE hH hS (t := 5) rfl d_Law_mirrored_16 h (fun w_4 H locs hH hS hz9 h => ?_)
      have hz := hz9.trans hz
      refine x_goto C0 24 d_Law_mirrored_17 (by decide) ?_
      refine lv_iconst (v := 0) C0.1 C0.2.1 d_Law_mirrored_24 (by decide) ?_
      cases h
      rw [hQ]
      refine W.widen (k := 1) (n := 6) (by omega) (by omega) ?_
      exact x_iret C0 hr hlocks hH hS hz d_Law_mirrored_25
    · refine lv_lconst (v := 1) C0.1 C0.2.1 d_Law_mirrored_11 (by decide) ?_
      refine x_goto C0 16 d_Law_mirrored_12 (by decide) ?_
      refine x_last C0 hE hH hS (t := 5) rfl d_Law_mirrored_16 h (fun w_5 H locs hH hS hz9 h => ?_)
      have hz := hz9.trans hz
      refine x_goto C0 24 d_Law_mirrored_17 (by decide) ?_
      refine lv_iconst (v := 0) C0.1 C0.2.1 d_Law_mirrored_24 (by decide) ?_
      cases h
      rw [hQ]
      refine W.widen (k := 1) (n := 6) (by omega) (by omega) ?_
      exact x_iret C0 hr hlocks hH hS hz d_Law_mirrored_25
  · refine vx_widen (k := 1) (n := 6) (by omega) (by omega) ?_
    by_cases z0 : k9 = 2
    · subst z0
      rw [if_pos rfl] at h
      refine vx_catch (E := "java/lang/IndexOutOfBoundsException") (name := "java/lang/IndexOutOfBoundsException") C0.2.2.2.1 [] ⟨0, 17, 20, 21⟩ [] htab (fun z h => by cases h) (by decide) (by decide) (C0.2.2.2.2 _ kw_2_13) (va_Nw.use rfl (hE.2.2.1 _ (List.mem_of_getElem? (i := 8) rfl))) hq9 hv9 hc9 ?_
      refine x_astore (lv' := [(4, .inr (.inl (some q_6))), (0, .inr (.inl r0)), (1, .inl x1), (2, .inl x2), (3, .inr (.inl r3))]) C0 hl d_Law_mirrored_20 (by decide) rfl (fun ls hl => ?_)
      refine lv_iconst (v := 1) C0.1 C0.2.1 d_Law_mirrored_22 (by decide) ?_
      cases h
      rw [hQ]
      refine W.widen (k := 1) (n := 6) (by omega) (by omega) ?_
      exact x_iret C0 hr hlocks hH hS hz d_Law_mirrored_23
    rw [if_neg z0] at h
    cases h
theorem d_Law_balance_0 : decode b_Law_balance 0 = .ok (.aload_n 2, 1) := by decide +kernel
theorem d_Law_balance_1 : decode b_Law_balance 1 = .ok (.iconst 0, 1) := by decide +kernel
theorem d_Law_balance_2 : decode b_Law_balance 2 = .ok (.aload_n 0, 1) := by decide +kernel
theorem d_Law_balance_3 : decode b_Law_balance 3 = .ok (.iload_n 1, 1) := by decide +kernel
theorem d_Law_balance_4 : decode b_Law_balance 4 = .ok (.invokevirtual 55, 3) := by decide +kernel
theorem d_Law_balance_7 : decode b_Law_balance 7 = .ok (.ifCond .eq 7, 3) := by decide +kernel
theorem d_Law_balance_10 : decode b_Law_balance 10 = .ok (.lconst 1, 1) := by decide +kernel
theorem d_Law_balance_11 : decode b_Law_balance 11 = .ok (.goto 4, 3) := by decide +kernel
theorem d_Law_balance_14 : decode b_Law_balance 14 = .ok (.lconst 0, 1) := by decide +kernel
theorem d_Law_balance_15 : decode b_Law_balance 15 = .ok (.lastore, 1) := by decide +kernel
theorem d_Law_balance_16 : decode b_Law_balance 16 = .ok (.goto 6, 3) := by decide +kernel
theorem d_Law_balance_19 : decode b_Law_balance 19 = .ok (.astore_n 3, 1) := by decide +kernel
theorem d_Law_balance_20 : decode b_Law_balance 20 = .ok (.iconst 1, 1) := by decide +kernel
theorem d_Law_balance_21 : decode b_Law_balance 21 = .ok (.ireturn, 1) := by decide +kernel
theorem d_Law_balance_22 : decode b_Law_balance 22 = .ok (.iconst 0, 1) := by decide +kernel
theorem d_Law_balance_23 : decode b_Law_balance 23 = .ok (.ireturn, 1) := by decide +kernel
def f_Law_balance (w : Mp) (sz : Nat) (r0 : Option Nat) (x1 : Int32) (r2 : Option Nat) : Option (Int32 × Mp × Nat) := (xo w r0 0).bind fun b_2 => (f_LM_balance w sz b_2 x1).bind fun q_1 => xsw q_1.1 (fun v_3 => if v_3 = 0 then ((sJ q_1.2.1 r2 5 (0 : Int32) (0 : Int64)).bind fun w_4 => some ((0 : Int32), w_4, q_1.2.2)) else ((sJ q_1.2.1 r2 5 (0 : Int32) (1 : Int64)).bind fun w_5 => some ((0 : Int32), w_5, q_1.2.2))) (fun k9 => if k9 = 2 then (some ((1 : Int32), q_1.2.1, q_1.2.2)) else (none))
set_option maxHeartbeats 4000000 in
set_option maxRecDepth 100000 in
theorem c_Law_balance (l : Launch) (G : Gx) (w : Mp) (sz : Nat) (r0 : Option Nat) (x1 : Int32) (r2 : Option Nat) (res : Int32 × Mp × Nat) (hf : f_Law_balance w sz r0 x1 r2 = some res) (hlt : l.stackTraces = false) : Met l y_Law_balance (xwsW y_Law_balance b_Law_balance 4 (some .int) [(0, 16, 19, 21)]) { frames := 7, cells := 1, slots := 6, locals := 165 } (xPc G vwCl xaty w sz [va_rf r0, .int x1, va_rf r2]) (xQ G vwCl (some (.int res.1)) res.2.1 res.2.2) (1) (6) (xA G) := by
  refine va_MetW (cc := b_Law_balance) (maxL := 4) (ret := (some .int)) (by decide) rfl ?_
  intro p e s m args below meth c s₁ B hml hv
  obtain ⟨ha, hE, hH, hz⟩ := hv
  have C0 : CallFix p m c b_Law_balance 4 s args wA R_Law := ⟨B.exec, B.bytes, hml, findClass_of_methodNamed B.named, fun w hw => atoms_spec (ws := xwsW y_Law_balance b_Law_balance 4 (some .int) [(0, 16, 19, 21)]) B.pre w (List.mem_cons_of_mem _ hw)⟩
  have hr := B.returns
  have hlocks := B.notSynchronized
  have htab := vx_table (x := y_Law_balance) B (atoms_spec (ws := xwsW y_Law_balance b_Law_balance 4 (some .int) [(0, 16, 19, 21)]) B.pre _ List.mem_cons_self)
  obtain ⟨R, hR⟩ : ∃ R, R = (headSpec (xwsW y_Law_balance b_Law_balance 4 (some .int) [(0, 16, 19, 21)]) { frames := 7, cells := 1, slots := 6, locals := 165 }).room := ⟨_, rfl⟩
  have hR1 : 7 ≤ R.frames := by rw [hR]; exact Nat.le_of_ble_eq_true rfl
  have hR2 : 165 ≤ R.locals := by rw [hR]; exact Nat.le_of_ble_eq_true rfl
  have hR3 : 1 ≤ R.cells := by rw [hR]; exact Nat.le_refl _
  have hR4 : 6 ≤ R.slots := by rw [hR]; exact Nat.le_refl _
  rw [← hR]
  obtain ⟨Q, hQ⟩ : ∃ Q, Q = MQ below (xQ G vwCl (some (.int res.1)) res.2.1 res.2.2) args s (1) (6) (xA G) := ⟨_, rfl⟩
  rw [← hQ]
  have hS : xS G s s.heap [] := va_S.rf
  obtain ⟨ls, he, hl⟩ := x_entry m [.inr (.inl r0), .inl x1, .inr (.inl r2)] 4 (Nat.le_of_ble_eq_true rfl)
  rw [show entryFrame m args 4 = F0 m 0 ls [] by rw [ha]; exact he]
  have hl : xL ls 4 [(0, .inr (.inl r0)), (1, .inl x1), (2, .inr (.inl r2))] := hl
  have h := hf
  unfold f_Law_balance at h
  suffices hmain : ∀ (H : Heap) (locs : List Loc), xhd G vwCl w H → xS G s H locs → H.size = sz → (H = s.heap ∧ locs = []) → W p l e R s m args below meth c H locs 0 0 Q (F0 m 0 ls []) from hmain _ _ hH hS hz ⟨rfl, rfl⟩
  clear hH hS hz
  intro H locs hH hS hz hP0
  refine x_aload_n C0 hl 2 d_Law_balance_0 rfl rfl ?_
  refine lv_iconst (v := 0) C0.1 C0.2.1 d_Law_balance_1 (by decide) ?_
  refine x_aload_n C0 hl 0 d_Law_balance_2 rfl rfl ?_
  refine x_iload_n C0 hl 1 d_Law_balance_3 rfl rfl ?_
  obtain ⟨b_2, e9, h⟩ := Option.bind_eq_some_iff.mp h
  obtain ⟨e8, fs9, hb9⟩ := xo_inv e9
  obtain ⟨q_1, e9, h⟩ := Option.bind_eq_some_iff.mp h
  have e9 := (show f_LM_balance w (Array.size H) b_2 x1 = some q_1 by rw [hz]; exact e9)
  refine x_callTi hS (vx_runV (As := [.int x1]) (rest := [.int (0 : Int32), va_rf r2]) C0 (c_LM_balance l G w _ b_2 x1 q_1 e9 hlt) (x_cwV 1 C0 kw_3_31 kw_3_34 kw_1_1 kw_3_32 kw_3_33 (by decide +kernel) (x_rm hR1 hR2 (Nat.le_of_ble_eq_true rfl) (Nat.le_of_ble_eq_true rfl))) (x_preV hE hH hS (ci := 0) rfl hb9) rfl rfl hl.1 (by rw [e8]; rfl) (lv_room (by first | exact Nat.le_of_ble_eq_true rfl | simp only [List.map_cons, List.map_nil, List.sum_cons, List.sum_nil, va_rf_cat, x_catI, x_catL, x_catA] <;> decide)) d_Law_balance_4 ⟨Nat.le_trans (by omega) hR3, Nat.le_trans (by omega) hR4⟩) h (fun v_3 H locs hH hS hz h => ?_) (fun k9 q_6 ce9 H locs hH hS hz h hq9 hv9 hc9 => ?_)
  · refine W.widen (k := 1) (n := 6) (by omega) (by omega) ?_
    refine x_if_eq C0 14 d_Law_balance_7 (by decide) h (fun h => ?_) (fun h => ?_)
    · refine lv_lconst (v := 0) C0.1 C0.2.1 d_Law_balance_14 (by decide) ?_
      refine x_last C0 hE hH hS (t := 5) rfl d_Law_balance_15 h (fun w_4 H locs hH hS hz9 h => ?_)
      have hz := hz9.trans hz
      refine x_goto C0 22 d_Law_balance_16 (by decide) ?_
      refine lv_iconst (v := 0) C0.1 C0.2.1 d_Law_balance_22 (by decide) ?_
      cases h
      rw [hQ]
      refine W.widen (k := 1) (n := 6) (by omega) (by omega) ?_
      exact x_iret C0 hr hlocks hH hS hz d_Law_balance_23
    · refine lv_lconst (v := 1) C0.1 C0.2.1 d_Law_balance_10 (by decide) ?_
      refine x_goto C0 15 d_Law_balance_11 (by decide) ?_
      refine x_last C0 hE hH hS (t := 5) rfl d_Law_balance_15 h (fun w_5 H locs hH hS hz9 h => ?_)
      have hz := hz9.trans hz
      refine x_goto C0 22 d_Law_balance_16 (by decide) ?_
      refine lv_iconst (v := 0) C0.1 C0.2.1 d_Law_balance_22 (by decide) ?_
      cases h
      rw [hQ]
      refine W.widen (k := 1) (n := 6) (by omega) (by omega) ?_
      exact x_iret C0 hr hlocks hH hS hz d_Law_balance_23
  · refine vx_widen (k := 1) (n := 6) (by omega) (by omega) ?_
    by_cases z0 : k9 = 2
    · subst z0
      rw [if_pos rfl] at h
      refine vx_catch (E := "java/lang/IndexOutOfBoundsException") (name := "java/lang/IndexOutOfBoundsException") C0.2.2.2.1 [] ⟨0, 16, 19, 21⟩ [] htab (fun z h => by cases h) (by decide) (by decide) (C0.2.2.2.2 _ kw_2_13) (va_Nw.use rfl (hE.2.2.1 _ (List.mem_of_getElem? (i := 8) rfl))) hq9 hv9 hc9 ?_
      refine x_astore_n (lv' := [(3, .inr (.inl (some q_6))), (0, .inr (.inl r0)), (1, .inl x1), (2, .inr (.inl r2))]) C0 hl d_Law_balance_19 rfl (by decide) rfl (fun ls hl => ?_)
      refine lv_iconst (v := 1) C0.1 C0.2.1 d_Law_balance_20 (by decide) ?_
      cases h
      rw [hQ]
      refine W.widen (k := 1) (n := 6) (by omega) (by omega) ?_
      exact x_iret C0 hr hlocks hH hS hz d_Law_balance_21
    rw [if_neg z0] at h
    cases h
theorem d_Law_number_0 : decode b_Law_number 0 = .ok (.aload 4, 2) := by decide +kernel
theorem d_Law_number_2 : decode b_Law_number 2 = .ok (.iconst 0, 1) := by decide +kernel
theorem d_Law_number_3 : decode b_Law_number 3 = .ok (.aload_n 0, 1) := by decide +kernel
theorem d_Law_number_4 : decode b_Law_number 4 = .ok (.iload_n 1, 1) := by decide +kernel
theorem d_Law_number_5 : decode b_Law_number 5 = .ok (.iload_n 2, 1) := by decide +kernel
theorem d_Law_number_6 : decode b_Law_number 6 = .ok (.iload_n 3, 1) := by decide +kernel
theorem d_Law_number_7 : decode b_Law_number 7 = .ok (.invokevirtual 59, 3) := by decide +kernel
theorem d_Law_number_10 : decode b_Law_number 10 = .ok (.i2l, 1) := by decide +kernel
theorem d_Law_number_11 : decode b_Law_number 11 = .ok (.lastore, 1) := by decide +kernel
theorem d_Law_number_12 : decode b_Law_number 12 = .ok (.goto 11, 3) := by decide +kernel
theorem d_Law_number_15 : decode b_Law_number 15 = .ok (.astore 5, 2) := by decide +kernel
theorem d_Law_number_17 : decode b_Law_number 17 = .ok (.iconst 1, 1) := by decide +kernel
theorem d_Law_number_18 : decode b_Law_number 18 = .ok (.ireturn, 1) := by decide +kernel
theorem d_Law_number_19 : decode b_Law_number 19 = .ok (.astore 5, 2) := by decide +kernel
theorem d_Law_number_21 : decode b_Law_number 21 = .ok (.iconst 2, 1) := by decide +kernel
theorem d_Law_number_22 : decode b_Law_number 22 = .ok (.ireturn, 1) := by decide +kernel
theorem d_Law_number_23 : decode b_Law_number 23 = .ok (.iconst 0, 1) := by decide +kernel
theorem d_Law_number_24 : decode b_Law_number 24 = .ok (.ireturn, 1) := by decide +kernel
def f_Law_number (w : Mp) (sz : Nat) (r0 : Option Nat) (x1 : Int32) (x2 : Int32) (x3 : Int32) (r4 : Option Nat) : Option (Int32 × Mp × Nat) := (xo w r0 0).bind fun b_2 => (f_LM_number w sz b_2 x1 x2 x3).bind fun q_1 => xsw q_1.1 (fun v_3 => (sJ q_1.2.1 r4 5 (0 : Int32) v_3.toInt64).bind fun w_4 => some ((0 : Int32), w_4, q_1.2.2)) (fun k9 => if k9 = 2 then (some ((1 : Int32), q_1.2.1, q_1.2.2)) else (if k9 = 1 then (some ((2 : Int32), q_1.2.1, q_1.2.2)) else (none)))
set_option maxHeartbeats 4000000 in
set_option maxRecDepth 100000 in
theorem c_Law_number (l : Launch) (G : Gx) (w : Mp) (sz : Nat) (r0 : Option Nat) (x1 : Int32) (x2 : Int32) (x3 : Int32) (r4 : Option Nat) (res : Int32 × Mp × Nat) (hf : f_Law_number w sz r0 x1 x2 x3 r4 = some res) (hlt : l.stackTraces = false) : Met l y_Law_number (xwsW y_Law_number b_Law_number 6 (some .int) [(0, 12, 15, 21), (0, 12, 19, 15)]) { frames := 7, cells := 2, slots := 20, locals := 133 } (xPc G vwCl xaty w sz [va_rf r0, .int x1, .int x2, .int x3, va_rf r4]) (xQ G vwCl (some (.int res.1)) res.2.1 res.2.2) (2) (20) (xA G) := by
  refine va_MetW (cc := b_Law_number) (maxL := 6) (ret := (some .int)) (by decide) rfl ?_
  intro p e s m args below meth c s₁ B hml hv
  obtain ⟨ha, hE, hH, hz⟩ := hv
  have C0 : CallFix p m c b_Law_number 6 s args wA R_Law := ⟨B.exec, B.bytes, hml, findClass_of_methodNamed B.named, fun w hw => atoms_spec (ws := xwsW y_Law_number b_Law_number 6 (some .int) [(0, 12, 15, 21), (0, 12, 19, 15)]) B.pre w (List.mem_cons_of_mem _ hw)⟩
  have hr := B.returns
  have hlocks := B.notSynchronized
  have htab := vx_table (x := y_Law_number) B (atoms_spec (ws := xwsW y_Law_number b_Law_number 6 (some .int) [(0, 12, 15, 21), (0, 12, 19, 15)]) B.pre _ List.mem_cons_self)
  obtain ⟨R, hR⟩ : ∃ R, R = (headSpec (xwsW y_Law_number b_Law_number 6 (some .int) [(0, 12, 15, 21), (0, 12, 19, 15)]) { frames := 7, cells := 2, slots := 20, locals := 133 }).room := ⟨_, rfl⟩
  have hR1 : 7 ≤ R.frames := by rw [hR]; exact Nat.le_of_ble_eq_true rfl
  have hR2 : 133 ≤ R.locals := by rw [hR]; exact Nat.le_of_ble_eq_true rfl
  have hR3 : 2 ≤ R.cells := by rw [hR]; exact Nat.le_refl _
  have hR4 : 20 ≤ R.slots := by rw [hR]; exact Nat.le_refl _
  rw [← hR]
  obtain ⟨Q, hQ⟩ : ∃ Q, Q = MQ below (xQ G vwCl (some (.int res.1)) res.2.1 res.2.2) args s (2) (20) (xA G) := ⟨_, rfl⟩
  rw [← hQ]
  have hS : xS G s s.heap [] := va_S.rf
  obtain ⟨ls, he, hl⟩ := x_entry m [.inr (.inl r0), .inl x1, .inl x2, .inl x3, .inr (.inl r4)] 6 (Nat.le_of_ble_eq_true rfl)
  rw [show entryFrame m args 6 = F0 m 0 ls [] by rw [ha]; exact he]
  have hl : xL ls 6 [(0, .inr (.inl r0)), (1, .inl x1), (2, .inl x2), (3, .inl x3), (4, .inr (.inl r4))] := hl
  have h := hf
  unfold f_Law_number at h
  suffices hmain : ∀ (H : Heap) (locs : List Loc), xhd G vwCl w H → xS G s H locs → H.size = sz → (H = s.heap ∧ locs = []) → W p l e R s m args below meth c H locs 0 0 Q (F0 m 0 ls []) from hmain _ _ hH hS hz ⟨rfl, rfl⟩
  clear hH hS hz
  intro H locs hH hS hz hP0
  refine x_aload C0 hl 4 d_Law_number_0 rfl ?_
  refine lv_iconst (v := 0) C0.1 C0.2.1 d_Law_number_2 (by decide) ?_
  refine x_aload_n C0 hl 0 d_Law_number_3 rfl rfl ?_
  refine x_iload_n C0 hl 1 d_Law_number_4 rfl rfl ?_
  refine x_iload_n C0 hl 2 d_Law_number_5 rfl rfl ?_
  refine x_iload_n C0 hl 3 d_Law_number_6 rfl rfl ?_
  obtain ⟨b_2, e9, h⟩ := Option.bind_eq_some_iff.mp h
  obtain ⟨e8, fs9, hb9⟩ := xo_inv e9
  obtain ⟨q_1, e9, h⟩ := Option.bind_eq_some_iff.mp h
  have e9 := (show f_LM_number w (Array.size H) b_2 x1 x2 x3 = some q_1 by rw [hz]; exact e9)
  refine x_callTi hS (vx_runV (As := [.int x1, .int x2, .int x3]) (rest := [.int (0 : Int32), va_rf r4]) C0 (c_LM_number l G w _ b_2 x1 x2 x3 q_1 e9 hlt) (x_cwV 3 C0 kw_3_43 kw_3_46 kw_1_1 kw_3_44 kw_3_45 (by decide +kernel) (x_rm hR1 hR2 (Nat.le_of_ble_eq_true rfl) (Nat.le_of_ble_eq_true rfl))) (x_preV hE hH hS (ci := 0) rfl hb9) rfl rfl hl.1 (by rw [e8]; rfl) (lv_room (by first | exact Nat.le_of_ble_eq_true rfl | simp only [List.map_cons, List.map_nil, List.sum_cons, List.sum_nil, va_rf_cat, x_catI, x_catL, x_catA] <;> decide)) d_Law_number_7 ⟨Nat.le_trans (by omega) hR3, Nat.le_trans (by omega) hR4⟩) h (fun v_3 H locs hH hS hz h => ?_) (fun k9 q_5 ce9 H locs hH hS hz h hq9 hv9 hc9 => ?_)
  · refine W.widen (k := 2) (n := 20) (by omega) (by omega) ?_
    refine lv_i2l C0.1 C0.2.1 d_Law_number_10 rfl ?_
    refine x_last C0 hE hH hS (t := 5) rfl d_Law_number_11 h (fun w_4 H locs hH hS hz9 h => ?_)
    have hz := hz9.trans hz
    refine x_goto C0 23 d_Law_number_12 (by decide) ?_
    refine lv_iconst (v := 0) C0.1 C0.2.1 d_Law_number_23 (by decide) ?_
    cases h
    rw [hQ]
    refine W.widen (k := 2) (n := 20) (by omega) (by omega) ?_
    exact x_iret C0 hr hlocks hH hS hz d_Law_number_24
  · refine vx_widen (k := 2) (n := 20) (by omega) (by omega) ?_
    by_cases z0 : k9 = 2
    · subst z0
      rw [if_pos rfl] at h
      refine vx_catch (E := "java/lang/IndexOutOfBoundsException") (name := "java/lang/IndexOutOfBoundsException") C0.2.2.2.1 [] ⟨0, 12, 15, 21⟩ [⟨0, 12, 19, 15⟩] htab (fun z h => by cases h) (by decide) (by decide) (C0.2.2.2.2 _ kw_2_13) (va_Nw.use rfl (hE.2.2.1 _ (List.mem_of_getElem? (i := 8) rfl))) hq9 hv9 hc9 ?_
      refine x_astore (lv' := [(5, .inr (.inl (some q_5))), (0, .inr (.inl r0)), (1, .inl x1), (2, .inl x2), (3, .inl x3), (4, .inr (.inl r4))]) C0 hl d_Law_number_15 (by decide) rfl (fun ls hl => ?_)
      refine lv_iconst (v := 1) C0.1 C0.2.1 d_Law_number_17 (by decide) ?_
      cases h
      rw [hQ]
      refine W.widen (k := 2) (n := 20) (by omega) (by omega) ?_
      exact x_iret C0 hr hlocks hH hS hz d_Law_number_18
    by_cases z1 : k9 = 1
    · subst z1
      rw [if_neg (by decide), if_pos rfl] at h
      refine vx_catch (E := "java/lang/IllegalArgumentException") (name := "java/lang/IllegalArgumentException") C0.2.2.2.1 [⟨0, 12, 15, 21⟩] ⟨0, 12, 19, 15⟩ [] htab (List.forall_mem_cons.mpr ⟨Or.inr ⟨by decide, "java/lang/IndexOutOfBoundsException", C0.2.2.2.2 _ kw_2_13, hE.2.2.2.2.2.2.1 _ (List.mem_of_getElem? (i := 22) rfl)⟩, fun z h => by cases h⟩) (by decide) (by decide) (C0.2.2.2.2 _ kw_1_106) (va_Nw.use rfl (hE.2.2.1 _ (List.mem_of_getElem? (i := 7) rfl))) hq9 hv9 hc9 ?_
      refine x_astore (lv' := [(5, .inr (.inl (some q_5))), (0, .inr (.inl r0)), (1, .inl x1), (2, .inl x2), (3, .inl x3), (4, .inr (.inl r4))]) C0 hl d_Law_number_19 (by decide) rfl (fun ls hl => ?_)
      refine lv_iconst (v := 2) C0.1 C0.2.1 d_Law_number_21 (by decide) ?_
      cases h
      rw [hQ]
      refine W.widen (k := 2) (n := 20) (by omega) (by omega) ?_
      exact x_iret C0 hr hlocks hH hS hz d_Law_number_22
    rw [if_neg z0, if_neg z1] at h
    cases h
theorem d_Law_want_0 : decode b_Law_want 0 = .ok (.aload_n 2, 1) := by decide +kernel
theorem d_Law_want_1 : decode b_Law_want 1 = .ok (.iconst 0, 1) := by decide +kernel
theorem d_Law_want_2 : decode b_Law_want 2 = .ok (.aload_n 0, 1) := by decide +kernel
theorem d_Law_want_3 : decode b_Law_want 3 = .ok (.iload_n 1, 1) := by decide +kernel
theorem d_Law_want_4 : decode b_Law_want 4 = .ok (.invokevirtual 62, 3) := by decide +kernel
theorem d_Law_want_7 : decode b_Law_want 7 = .ok (.i2l, 1) := by decide +kernel
theorem d_Law_want_8 : decode b_Law_want 8 = .ok (.lastore, 1) := by decide +kernel
theorem d_Law_want_9 : decode b_Law_want 9 = .ok (.goto 9, 3) := by decide +kernel
theorem d_Law_want_12 : decode b_Law_want 12 = .ok (.astore_n 3, 1) := by decide +kernel
theorem d_Law_want_13 : decode b_Law_want 13 = .ok (.iconst 1, 1) := by decide +kernel
theorem d_Law_want_14 : decode b_Law_want 14 = .ok (.ireturn, 1) := by decide +kernel
theorem d_Law_want_15 : decode b_Law_want 15 = .ok (.astore_n 3, 1) := by decide +kernel
theorem d_Law_want_16 : decode b_Law_want 16 = .ok (.iconst 2, 1) := by decide +kernel
theorem d_Law_want_17 : decode b_Law_want 17 = .ok (.ireturn, 1) := by decide +kernel
theorem d_Law_want_18 : decode b_Law_want 18 = .ok (.iconst 0, 1) := by decide +kernel
theorem d_Law_want_19 : decode b_Law_want 19 = .ok (.ireturn, 1) := by decide +kernel
def f_Law_want (w : Mp) (sz : Nat) (r0 : Option Nat) (x1 : Int32) (r2 : Option Nat) : Option (Int32 × Mp × Nat) := (xo w r0 0).bind fun b_2 => (f_LM_want w sz b_2 x1).bind fun q_1 => xsw q_1.1 (fun v_3 => (sJ q_1.2.1 r2 5 (0 : Int32) v_3.toInt64).bind fun w_4 => some ((0 : Int32), w_4, q_1.2.2)) (fun k9 => if k9 = 0 then (some ((1 : Int32), q_1.2.1, q_1.2.2)) else (if k9 = 1 then (some ((2 : Int32), q_1.2.1, q_1.2.2)) else (none)))
set_option maxHeartbeats 4000000 in
set_option maxRecDepth 100000 in
theorem c_Law_want (l : Launch) (G : Gx) (w : Mp) (sz : Nat) (r0 : Option Nat) (x1 : Int32) (r2 : Option Nat) (res : Int32 × Mp × Nat) (hf : f_Law_want w sz r0 x1 r2 = some res) (hlt : l.stackTraces = false) : Met l y_Law_want (xwsW y_Law_want b_Law_want 4 (some .int) [(0, 9, 12, 13), (0, 9, 15, 15)]) { frames := 7, cells := 1, slots := 6, locals := 103 } (xPc G vwCl xaty w sz [va_rf r0, .int x1, va_rf r2]) (xQ G vwCl (some (.int res.1)) res.2.1 res.2.2) (1) (6) (xA G) := by
  refine va_MetW (cc := b_Law_want) (maxL := 4) (ret := (some .int)) (by decide) rfl ?_
  intro p e s m args below meth c s₁ B hml hv
  obtain ⟨ha, hE, hH, hz⟩ := hv
  have C0 : CallFix p m c b_Law_want 4 s args wA R_Law := ⟨B.exec, B.bytes, hml, findClass_of_methodNamed B.named, fun w hw => atoms_spec (ws := xwsW y_Law_want b_Law_want 4 (some .int) [(0, 9, 12, 13), (0, 9, 15, 15)]) B.pre w (List.mem_cons_of_mem _ hw)⟩
  have hr := B.returns
  have hlocks := B.notSynchronized
  have htab := vx_table (x := y_Law_want) B (atoms_spec (ws := xwsW y_Law_want b_Law_want 4 (some .int) [(0, 9, 12, 13), (0, 9, 15, 15)]) B.pre _ List.mem_cons_self)
  obtain ⟨R, hR⟩ : ∃ R, R = (headSpec (xwsW y_Law_want b_Law_want 4 (some .int) [(0, 9, 12, 13), (0, 9, 15, 15)]) { frames := 7, cells := 1, slots := 6, locals := 103 }).room := ⟨_, rfl⟩
  have hR1 : 7 ≤ R.frames := by rw [hR]; exact Nat.le_of_ble_eq_true rfl
  have hR2 : 103 ≤ R.locals := by rw [hR]; exact Nat.le_of_ble_eq_true rfl
  have hR3 : 1 ≤ R.cells := by rw [hR]; exact Nat.le_refl _
  have hR4 : 6 ≤ R.slots := by rw [hR]; exact Nat.le_refl _
  rw [← hR]
  obtain ⟨Q, hQ⟩ : ∃ Q, Q = MQ below (xQ G vwCl (some (.int res.1)) res.2.1 res.2.2) args s (1) (6) (xA G) := ⟨_, rfl⟩
  rw [← hQ]
  have hS : xS G s s.heap [] := va_S.rf
  obtain ⟨ls, he, hl⟩ := x_entry m [.inr (.inl r0), .inl x1, .inr (.inl r2)] 4 (Nat.le_of_ble_eq_true rfl)
  rw [show entryFrame m args 4 = F0 m 0 ls [] by rw [ha]; exact he]
  have hl : xL ls 4 [(0, .inr (.inl r0)), (1, .inl x1), (2, .inr (.inl r2))] := hl
  have h := hf
  unfold f_Law_want at h
  suffices hmain : ∀ (H : Heap) (locs : List Loc), xhd G vwCl w H → xS G s H locs → H.size = sz → (H = s.heap ∧ locs = []) → W p l e R s m args below meth c H locs 0 0 Q (F0 m 0 ls []) from hmain _ _ hH hS hz ⟨rfl, rfl⟩
  clear hH hS hz
  intro H locs hH hS hz hP0
  refine x_aload_n C0 hl 2 d_Law_want_0 rfl rfl ?_
  refine lv_iconst (v := 0) C0.1 C0.2.1 d_Law_want_1 (by decide) ?_
  refine x_aload_n C0 hl 0 d_Law_want_2 rfl rfl ?_
  refine x_iload_n C0 hl 1 d_Law_want_3 rfl rfl ?_
  obtain ⟨b_2, e9, h⟩ := Option.bind_eq_some_iff.mp h
  obtain ⟨e8, fs9, hb9⟩ := xo_inv e9
  obtain ⟨q_1, e9, h⟩ := Option.bind_eq_some_iff.mp h
  have e9 := (show f_LM_want w (Array.size H) b_2 x1 = some q_1 by rw [hz]; exact e9)
  refine x_callTi hS (vx_runV (As := [.int x1]) (rest := [.int (0 : Int32), va_rf r2]) C0 (c_LM_want l G w _ b_2 x1 q_1 e9 hlt) (x_cwV 1 C0 kw_4_6 kw_4_9 kw_1_1 kw_4_7 kw_4_8 (by decide +kernel) (x_rm hR1 hR2 (Nat.le_of_ble_eq_true rfl) (Nat.le_of_ble_eq_true rfl))) (x_preV hE hH hS (ci := 0) rfl hb9) rfl rfl hl.1 (by rw [e8]; rfl) (lv_room (by first | exact Nat.le_of_ble_eq_true rfl | simp only [List.map_cons, List.map_nil, List.sum_cons, List.sum_nil, va_rf_cat, x_catI, x_catL, x_catA] <;> decide)) d_Law_want_4 ⟨Nat.le_trans (by omega) hR3, Nat.le_trans (by omega) hR4⟩) h (fun v_3 H locs hH hS hz h => ?_) (fun k9 q_5 ce9 H locs hH hS hz h hq9 hv9 hc9 => ?_)
  · refine W.widen (k := 1) (n := 6) (by omega) (by omega) ?_
    refine lv_i2l C0.1 C0.2.1 d_Law_want_7 rfl ?_
    refine x_last C0 hE hH hS (t := 5) rfl d_Law_want_8 h (fun w_4 H locs hH hS hz9 h => ?_)
    have hz := hz9.trans hz
    refine x_goto C0 18 d_Law_want_9 (by decide) ?_
    refine lv_iconst (v := 0) C0.1 C0.2.1 d_Law_want_18 (by decide) ?_
    cases h
    rw [hQ]
    refine W.widen (k := 1) (n := 6) (by omega) (by omega) ?_
    exact x_iret C0 hr hlocks hH hS hz d_Law_want_19
  · refine vx_widen (k := 1) (n := 6) (by omega) (by omega) ?_
    by_cases z0 : k9 = 0
    · subst z0
      rw [if_pos rfl] at h
      refine vx_catch (E := "java/lang/IllegalStateException") (name := "java/lang/IllegalStateException") C0.2.2.2.1 [] ⟨0, 9, 12, 13⟩ [⟨0, 9, 15, 15⟩] htab (fun z h => by cases h) (by decide) (by decide) (C0.2.2.2.2 _ kw_1_105) (va_Nw.use rfl (hE.2.2.1 _ (List.mem_of_getElem? (i := 0) rfl))) hq9 hv9 hc9 ?_
      refine x_astore_n (lv' := [(3, .inr (.inl (some q_5))), (0, .inr (.inl r0)), (1, .inl x1), (2, .inr (.inl r2))]) C0 hl d_Law_want_12 rfl (by decide) rfl (fun ls hl => ?_)
      refine lv_iconst (v := 1) C0.1 C0.2.1 d_Law_want_13 (by decide) ?_
      cases h
      rw [hQ]
      refine W.widen (k := 1) (n := 6) (by omega) (by omega) ?_
      exact x_iret C0 hr hlocks hH hS hz d_Law_want_14
    by_cases z1 : k9 = 1
    · subst z1
      rw [if_neg (by decide), if_pos rfl] at h
      refine vx_catch (E := "java/lang/IllegalArgumentException") (name := "java/lang/IllegalArgumentException") C0.2.2.2.1 [⟨0, 9, 12, 13⟩] ⟨0, 9, 15, 15⟩ [] htab (List.forall_mem_cons.mpr ⟨Or.inr ⟨by decide, "java/lang/IllegalStateException", C0.2.2.2.2 _ kw_1_105, hE.2.2.2.2.2.2.1 _ (List.mem_of_getElem? (i := 3) rfl)⟩, fun z h => by cases h⟩) (by decide) (by decide) (C0.2.2.2.2 _ kw_1_106) (va_Nw.use rfl (hE.2.2.1 _ (List.mem_of_getElem? (i := 7) rfl))) hq9 hv9 hc9 ?_
      refine x_astore_n (lv' := [(3, .inr (.inl (some q_5))), (0, .inr (.inl r0)), (1, .inl x1), (2, .inr (.inl r2))]) C0 hl d_Law_want_15 rfl (by decide) rfl (fun ls hl => ?_)
      refine lv_iconst (v := 2) C0.1 C0.2.1 d_Law_want_16 (by decide) ?_
      cases h
      rw [hQ]
      refine W.widen (k := 1) (n := 6) (by omega) (by omega) ?_
      exact x_iret C0 hr hlocks hH hS hz d_Law_want_17
    rw [if_neg z0, if_neg z1] at h
    cases h
theorem d_Law_faces_0 : decode b_Law_faces 0 = .ok (.aload_n 2, 1) := by decide +kernel
theorem d_Law_faces_1 : decode b_Law_faces 1 = .ok (.iconst 0, 1) := by decide +kernel
theorem d_Law_faces_2 : decode b_Law_faces 2 = .ok (.aload_n 0, 1) := by decide +kernel
theorem d_Law_faces_3 : decode b_Law_faces 3 = .ok (.iload_n 1, 1) := by decide +kernel
theorem d_Law_faces_4 : decode b_Law_faces 4 = .ok (.invokevirtual 65, 3) := by decide +kernel
theorem d_Law_faces_7 : decode b_Law_faces 7 = .ok (.i2l, 1) := by decide +kernel
theorem d_Law_faces_8 : decode b_Law_faces 8 = .ok (.lastore, 1) := by decide +kernel
theorem d_Law_faces_9 : decode b_Law_faces 9 = .ok (.goto 6, 3) := by decide +kernel
theorem d_Law_faces_12 : decode b_Law_faces 12 = .ok (.astore_n 3, 1) := by decide +kernel
theorem d_Law_faces_13 : decode b_Law_faces 13 = .ok (.iconst 1, 1) := by decide +kernel
theorem d_Law_faces_14 : decode b_Law_faces 14 = .ok (.ireturn, 1) := by decide +kernel
theorem d_Law_faces_15 : decode b_Law_faces 15 = .ok (.iconst 0, 1) := by decide +kernel
theorem d_Law_faces_16 : decode b_Law_faces 16 = .ok (.ireturn, 1) := by decide +kernel
def f_Law_faces (k1 : Nat) (k2 : Nat) (k3 : Nat) (w : Mp) (sz : Nat) (r0 : Option Nat) (x1 : Int32) (r2 : Option Nat) : Option (Int32 × Mp × Nat) := (xo w r0 0).bind fun b_2 => (f_LM_faces k1 k2 k3 w sz b_2 x1).bind fun q_1 => xsw q_1.1 (fun v_3 => (sJ q_1.2.1 r2 5 (0 : Int32) v_3.toInt64).bind fun w_4 => some ((0 : Int32), w_4, q_1.2.2)) (fun k9 => if k9 = 1 then (some ((1 : Int32), q_1.2.1, q_1.2.2)) else (none))
set_option maxHeartbeats 4000000 in
set_option maxRecDepth 100000 in
theorem c_Law_faces (l : Launch) (G : Gx) (k1 : Nat) (k2 : Nat) (k3 : Nat) (w : Mp) (sz : Nat) (r0 : Option Nat) (x1 : Int32) (r2 : Option Nat) (res : Int32 × Mp × Nat) (hf : f_Law_faces k1 k2 k3 w sz r0 x1 r2 = some res) (hlt : l.stackTraces = false) : Met l y_Law_faces (xwsW y_Law_faces b_Law_faces 4 (some .int) [(0, 9, 12, 15)]) { frames := 7, cells := 3, slots := 6 + k1 + k2 + k3, locals := 119 } (xPc G vwCl xaty w sz [va_rf r0, .int x1, va_rf r2]) (xQ G vwCl (some (.int res.1)) res.2.1 res.2.2) (3) (6 + k1 + k2 + k3) (xA G) := by
  refine va_MetW (cc := b_Law_faces) (maxL := 4) (ret := (some .int)) (by decide) rfl ?_
  intro p e s m args below meth c s₁ B hml hv
  obtain ⟨ha, hE, hH, hz⟩ := hv
  have C0 : CallFix p m c b_Law_faces 4 s args wA R_Law := ⟨B.exec, B.bytes, hml, findClass_of_methodNamed B.named, fun w hw => atoms_spec (ws := xwsW y_Law_faces b_Law_faces 4 (some .int) [(0, 9, 12, 15)]) B.pre w (List.mem_cons_of_mem _ hw)⟩
  have hr := B.returns
  have hlocks := B.notSynchronized
  have htab := vx_table (x := y_Law_faces) B (atoms_spec (ws := xwsW y_Law_faces b_Law_faces 4 (some .int) [(0, 9, 12, 15)]) B.pre _ List.mem_cons_self)
  obtain ⟨R, hR⟩ : ∃ R, R = (headSpec (xwsW y_Law_faces b_Law_faces 4 (some .int) [(0, 9, 12, 15)]) { frames := 7, cells := 3, slots := 6 + k1 + k2 + k3, locals := 119 }).room := ⟨_, rfl⟩
  have hR1 : 7 ≤ R.frames := by rw [hR]; exact Nat.le_of_ble_eq_true rfl
  have hR2 : 119 ≤ R.locals := by rw [hR]; exact Nat.le_of_ble_eq_true rfl
  have hR3 : 3 ≤ R.cells := by rw [hR]; exact Nat.le_refl _
  have hR4 : 6 + k1 + k2 + k3 ≤ R.slots := by rw [hR]; exact Nat.le_refl _
  rw [← hR]
  obtain ⟨Q, hQ⟩ : ∃ Q, Q = MQ below (xQ G vwCl (some (.int res.1)) res.2.1 res.2.2) args s (3) (6 + k1 + k2 + k3) (xA G) := ⟨_, rfl⟩
  rw [← hQ]
  have hS : xS G s s.heap [] := va_S.rf
  obtain ⟨ls, he, hl⟩ := x_entry m [.inr (.inl r0), .inl x1, .inr (.inl r2)] 4 (Nat.le_of_ble_eq_true rfl)
  rw [show entryFrame m args 4 = F0 m 0 ls [] by rw [ha]; exact he]
  have hl : xL ls 4 [(0, .inr (.inl r0)), (1, .inl x1), (2, .inr (.inl r2))] := hl
  have h := hf
  unfold f_Law_faces at h
  suffices hmain : ∀ (H : Heap) (locs : List Loc), xhd G vwCl w H → xS G s H locs → H.size = sz → (H = s.heap ∧ locs = []) → W p l e R s m args below meth c H locs 0 0 Q (F0 m 0 ls []) from hmain _ _ hH hS hz ⟨rfl, rfl⟩
  clear hH hS hz
  intro H locs hH hS hz hP0
  refine x_aload_n C0 hl 2 d_Law_faces_0 rfl rfl ?_
  refine lv_iconst (v := 0) C0.1 C0.2.1 d_Law_faces_1 (by decide) ?_
  refine x_aload_n C0 hl 0 d_Law_faces_2 rfl rfl ?_
  refine x_iload_n C0 hl 1 d_Law_faces_3 rfl rfl ?_
  obtain ⟨b_2, e9, h⟩ := Option.bind_eq_some_iff.mp h
  obtain ⟨e8, fs9, hb9⟩ := xo_inv e9
  obtain ⟨q_1, e9, h⟩ := Option.bind_eq_some_iff.mp h
  have e9 := (show f_LM_faces k1 k2 k3 w (Array.size H) b_2 x1 = some q_1 by rw [hz]; exact e9)
  refine x_callTi hS (vx_runV (As := [.int x1]) (rest := [.int (0 : Int32), va_rf r2]) C0 (c_LM_faces l G k1 k2 k3 w _ b_2 x1 q_1 e9 hlt) (x_cwV 1 C0 kw_4_19 kw_4_22 kw_1_1 kw_4_20 kw_4_21 (by decide +kernel) (x_rm hR1 hR2 (Nat.le_of_ble_eq_true rfl) (Nat.le_of_ble_eq_true rfl))) (x_preV hE hH hS (ci := 0) rfl hb9) rfl rfl hl.1 (by rw [e8]; rfl) (lv_room (by first | exact Nat.le_of_ble_eq_true rfl | simp only [List.map_cons, List.map_nil, List.sum_cons, List.sum_nil, va_rf_cat, x_catI, x_catL, x_catA] <;> decide)) d_Law_faces_4 ⟨Nat.le_trans (by omega) hR3, Nat.le_trans (by omega) hR4⟩) h (fun v_3 H locs hH hS hz h => ?_) (fun k9 q_5 ce9 H locs hH hS hz h hq9 hv9 hc9 => ?_)
  · refine W.widen (k := 3) (n := 6 + k1 + k2 + k3) (by omega) (by omega) ?_
    refine lv_i2l C0.1 C0.2.1 d_Law_faces_7 rfl ?_
    refine x_last C0 hE hH hS (t := 5) rfl d_Law_faces_8 h (fun w_4 H locs hH hS hz9 h => ?_)
    have hz := hz9.trans hz
    refine x_goto C0 15 d_Law_faces_9 (by decide) ?_
    refine lv_iconst (v := 0) C0.1 C0.2.1 d_Law_faces_15 (by decide) ?_
    cases h
    rw [hQ]
    refine W.widen (k := 3) (n := 6 + k1 + k2 + k3) (by omega) (by omega) ?_
    exact x_iret C0 hr hlocks hH hS hz d_Law_faces_16
  · refine vx_widen (k := 3) (n := 6 + k1 + k2 + k3) (by omega) (by omega) ?_
    by_cases z0 : k9 = 1
    · subst z0
      rw [if_pos rfl] at h
      refine vx_catch (E := "java/lang/IllegalArgumentException") (name := "java/lang/IllegalArgumentException") C0.2.2.2.1 [] ⟨0, 9, 12, 15⟩ [] htab (fun z h => by cases h) (by decide) (by decide) (C0.2.2.2.2 _ kw_1_106) (va_Nw.use rfl (hE.2.2.1 _ (List.mem_of_getElem? (i := 7) rfl))) hq9 hv9 hc9 ?_
      refine x_astore_n (lv' := [(3, .inr (.inl (some q_5))), (0, .inr (.inl r0)), (1, .inl x1), (2, .inr (.inl r2))]) C0 hl d_Law_faces_12 rfl (by decide) rfl (fun ls hl => ?_)
      refine lv_iconst (v := 1) C0.1 C0.2.1 d_Law_faces_13 (by decide) ?_
      cases h
      rw [hQ]
      refine W.widen (k := 3) (n := 6 + k1 + k2 + k3) (by omega) (by omega) ?_
      exact x_iret C0 hr hlocks hH hS hz d_Law_faces_14
    rw [if_neg z0] at h
    cases h
theorem d_Law_planned_0 : decode b_Law_planned 0 = .ok (.aload_n 3, 1) := by decide +kernel
theorem d_Law_planned_1 : decode b_Law_planned 1 = .ok (.iconst 0, 1) := by decide +kernel
theorem d_Law_planned_2 : decode b_Law_planned 2 = .ok (.aload_n 0, 1) := by decide +kernel
theorem d_Law_planned_3 : decode b_Law_planned 3 = .ok (.iload_n 1, 1) := by decide +kernel
theorem d_Law_planned_4 : decode b_Law_planned 4 = .ok (.iload_n 2, 1) := by decide +kernel
theorem d_Law_planned_5 : decode b_Law_planned 5 = .ok (.invokevirtual 68, 3) := by decide +kernel
theorem d_Law_planned_8 : decode b_Law_planned 8 = .ok (.i2l, 1) := by decide +kernel
theorem d_Law_planned_9 : decode b_Law_planned 9 = .ok (.lastore, 1) := by decide +kernel
theorem d_Law_planned_10 : decode b_Law_planned 10 = .ok (.goto 15, 3) := by decide +kernel
theorem d_Law_planned_13 : decode b_Law_planned 13 = .ok (.astore 4, 2) := by decide +kernel
theorem d_Law_planned_15 : decode b_Law_planned 15 = .ok (.iconst 1, 1) := by decide +kernel
theorem d_Law_planned_16 : decode b_Law_planned 16 = .ok (.ireturn, 1) := by decide +kernel
theorem d_Law_planned_17 : decode b_Law_planned 17 = .ok (.astore 4, 2) := by decide +kernel
theorem d_Law_planned_19 : decode b_Law_planned 19 = .ok (.iconst 2, 1) := by decide +kernel
theorem d_Law_planned_20 : decode b_Law_planned 20 = .ok (.ireturn, 1) := by decide +kernel
theorem d_Law_planned_21 : decode b_Law_planned 21 = .ok (.astore 4, 2) := by decide +kernel
theorem d_Law_planned_23 : decode b_Law_planned 23 = .ok (.iconst 3, 1) := by decide +kernel
theorem d_Law_planned_24 : decode b_Law_planned 24 = .ok (.ireturn, 1) := by decide +kernel
theorem d_Law_planned_25 : decode b_Law_planned 25 = .ok (.iconst 0, 1) := by decide +kernel
theorem d_Law_planned_26 : decode b_Law_planned 26 = .ok (.ireturn, 1) := by decide +kernel
def f_Law_planned (w : Mp) (sz : Nat) (r0 : Option Nat) (x1 : Int32) (x2 : Int32) (r3 : Option Nat) : Option (Int32 × Mp × Nat) := (xo w r0 0).bind fun b_2 => (f_LM_planned w sz b_2 x1 x2).bind fun q_1 => xsw q_1.1 (fun v_3 => (sJ q_1.2.1 r3 5 (0 : Int32) v_3.toInt64).bind fun w_4 => some ((0 : Int32), w_4, q_1.2.2)) (fun k9 => if k9 = 0 then (some ((1 : Int32), q_1.2.1, q_1.2.2)) else (if k9 = 2 then (some ((2 : Int32), q_1.2.1, q_1.2.2)) else (if k9 = 1 then (some ((3 : Int32), q_1.2.1, q_1.2.2)) else (none))))
set_option maxHeartbeats 4000000 in
set_option maxRecDepth 100000 in
theorem c_Law_planned (l : Launch) (G : Gx) (w : Mp) (sz : Nat) (r0 : Option Nat) (x1 : Int32) (x2 : Int32) (r3 : Option Nat) (res : Int32 × Mp × Nat) (hf : f_Law_planned w sz r0 x1 x2 r3 = some res) (hlt : l.stackTraces = false) : Met l y_Law_planned (xwsW y_Law_planned b_Law_planned 5 (some .int) [(0, 10, 13, 13), (0, 10, 17, 21), (0, 10, 21, 15)]) { frames := 7, cells := 1, slots := 6, locals := 104 } (xPc G vwCl xaty w sz [va_rf r0, .int x1, .int x2, va_rf r3]) (xQ G vwCl (some (.int res.1)) res.2.1 res.2.2) (1) (6) (xA G) := by
  refine va_MetW (cc := b_Law_planned) (maxL := 5) (ret := (some .int)) (by decide) rfl ?_
  intro p e s m args below meth c s₁ B hml hv
  obtain ⟨ha, hE, hH, hz⟩ := hv
  have C0 : CallFix p m c b_Law_planned 5 s args wA R_Law := ⟨B.exec, B.bytes, hml, findClass_of_methodNamed B.named, fun w hw => atoms_spec (ws := xwsW y_Law_planned b_Law_planned 5 (some .int) [(0, 10, 13, 13), (0, 10, 17, 21), (0, 10, 21, 15)]) B.pre w (List.mem_cons_of_mem _ hw)⟩
  have hr := B.returns
  have hlocks := B.notSynchronized
  have htab := vx_table (x := y_Law_planned) B (atoms_spec (ws := xwsW y_Law_planned b_Law_planned 5 (some .int) [(0, 10, 13, 13), (0, 10, 17, 21), (0, 10, 21, 15)]) B.pre _ List.mem_cons_self)
  obtain ⟨R, hR⟩ : ∃ R, R = (headSpec (xwsW y_Law_planned b_Law_planned 5 (some .int) [(0, 10, 13, 13), (0, 10, 17, 21), (0, 10, 21, 15)]) { frames := 7, cells := 1, slots := 6, locals := 104 }).room := ⟨_, rfl⟩
  have hR1 : 7 ≤ R.frames := by rw [hR]; exact Nat.le_of_ble_eq_true rfl
  have hR2 : 104 ≤ R.locals := by rw [hR]; exact Nat.le_of_ble_eq_true rfl
  have hR3 : 1 ≤ R.cells := by rw [hR]; exact Nat.le_refl _
  have hR4 : 6 ≤ R.slots := by rw [hR]; exact Nat.le_refl _
  rw [← hR]
  obtain ⟨Q, hQ⟩ : ∃ Q, Q = MQ below (xQ G vwCl (some (.int res.1)) res.2.1 res.2.2) args s (1) (6) (xA G) := ⟨_, rfl⟩
  rw [← hQ]
  have hS : xS G s s.heap [] := va_S.rf
  obtain ⟨ls, he, hl⟩ := x_entry m [.inr (.inl r0), .inl x1, .inl x2, .inr (.inl r3)] 5 (Nat.le_of_ble_eq_true rfl)
  rw [show entryFrame m args 5 = F0 m 0 ls [] by rw [ha]; exact he]
  have hl : xL ls 5 [(0, .inr (.inl r0)), (1, .inl x1), (2, .inl x2), (3, .inr (.inl r3))] := hl
  have h := hf
  unfold f_Law_planned at h
  suffices hmain : ∀ (H : Heap) (locs : List Loc), xhd G vwCl w H → xS G s H locs → H.size = sz → (H = s.heap ∧ locs = []) → W p l e R s m args below meth c H locs 0 0 Q (F0 m 0 ls []) from hmain _ _ hH hS hz ⟨rfl, rfl⟩
  clear hH hS hz
  intro H locs hH hS hz hP0
  refine x_aload_n C0 hl 3 d_Law_planned_0 rfl rfl ?_
  refine lv_iconst (v := 0) C0.1 C0.2.1 d_Law_planned_1 (by decide) ?_
  refine x_aload_n C0 hl 0 d_Law_planned_2 rfl rfl ?_
  refine x_iload_n C0 hl 1 d_Law_planned_3 rfl rfl ?_
  refine x_iload_n C0 hl 2 d_Law_planned_4 rfl rfl ?_
  obtain ⟨b_2, e9, h⟩ := Option.bind_eq_some_iff.mp h
  obtain ⟨e8, fs9, hb9⟩ := xo_inv e9
  obtain ⟨q_1, e9, h⟩ := Option.bind_eq_some_iff.mp h
  have e9 := (show f_LM_planned w (Array.size H) b_2 x1 x2 = some q_1 by rw [hz]; exact e9)
  refine x_callTi hS (vx_runV (As := [.int x1, .int x2]) (rest := [.int (0 : Int32), va_rf r3]) C0 (c_LM_planned l G w _ b_2 x1 x2 q_1 e9 hlt) (x_cwV 2 C0 kw_4_66 kw_4_69 kw_1_1 kw_4_67 kw_4_68 (by decide +kernel) (x_rm hR1 hR2 (Nat.le_of_ble_eq_true rfl) (Nat.le_of_ble_eq_true rfl))) (x_preV hE hH hS (ci := 0) rfl hb9) rfl rfl hl.1 (by rw [e8]; rfl) (lv_room (by first | exact Nat.le_of_ble_eq_true rfl | simp only [List.map_cons, List.map_nil, List.sum_cons, List.sum_nil, va_rf_cat, x_catI, x_catL, x_catA] <;> decide)) d_Law_planned_5 ⟨Nat.le_trans (by omega) hR3, Nat.le_trans (by omega) hR4⟩) h (fun v_3 H locs hH hS hz h => ?_) (fun k9 q_5 ce9 H locs hH hS hz h hq9 hv9 hc9 => ?_)
  · refine W.widen (k := 1) (n := 6) (by omega) (by omega) ?_
    refine lv_i2l C0.1 C0.2.1 d_Law_planned_8 rfl ?_
    refine x_last C0 hE hH hS (t := 5) rfl d_Law_planned_9 h (fun w_4 H locs hH hS hz9 h => ?_)
    have hz := hz9.trans hz
    refine x_goto C0 25 d_Law_planned_10 (by decide) ?_
    refine lv_iconst (v := 0) C0.1 C0.2.1 d_Law_planned_25 (by decide) ?_
    cases h
    rw [hQ]
    refine W.widen (k := 1) (n := 6) (by omega) (by omega) ?_
    exact x_iret C0 hr hlocks hH hS hz d_Law_planned_26
  · refine vx_widen (k := 1) (n := 6) (by omega) (by omega) ?_
    by_cases z0 : k9 = 0
    · subst z0
      rw [if_pos rfl] at h
      refine vx_catch (E := "java/lang/IllegalStateException") (name := "java/lang/IllegalStateException") C0.2.2.2.1 [] ⟨0, 10, 13, 13⟩ [⟨0, 10, 17, 21⟩, ⟨0, 10, 21, 15⟩] htab (fun z h => by cases h) (by decide) (by decide) (C0.2.2.2.2 _ kw_1_105) (va_Nw.use rfl (hE.2.2.1 _ (List.mem_of_getElem? (i := 0) rfl))) hq9 hv9 hc9 ?_
      refine x_astore (lv' := [(4, .inr (.inl (some q_5))), (0, .inr (.inl r0)), (1, .inl x1), (2, .inl x2), (3, .inr (.inl r3))]) C0 hl d_Law_planned_13 (by decide) rfl (fun ls hl => ?_)
      refine lv_iconst (v := 1) C0.1 C0.2.1 d_Law_planned_15 (by decide) ?_
      cases h
      rw [hQ]
      refine W.widen (k := 1) (n := 6) (by omega) (by omega) ?_
      exact x_iret C0 hr hlocks hH hS hz d_Law_planned_16
    by_cases z1 : k9 = 2
    · subst z1
      rw [if_neg (by decide), if_pos rfl] at h
      refine vx_catch (E := "java/lang/IndexOutOfBoundsException") (name := "java/lang/IndexOutOfBoundsException") C0.2.2.2.1 [⟨0, 10, 13, 13⟩] ⟨0, 10, 17, 21⟩ [⟨0, 10, 21, 15⟩] htab (List.forall_mem_cons.mpr ⟨Or.inr ⟨by decide, "java/lang/IllegalStateException", C0.2.2.2.2 _ kw_1_105, hE.2.2.2.2.2.2.1 _ (List.mem_of_getElem? (i := 5) rfl)⟩, fun z h => by cases h⟩) (by decide) (by decide) (C0.2.2.2.2 _ kw_2_13) (va_Nw.use rfl (hE.2.2.1 _ (List.mem_of_getElem? (i := 8) rfl))) hq9 hv9 hc9 ?_
      refine x_astore (lv' := [(4, .inr (.inl (some q_5))), (0, .inr (.inl r0)), (1, .inl x1), (2, .inl x2), (3, .inr (.inl r3))]) C0 hl d_Law_planned_17 (by decide) rfl (fun ls hl => ?_)
      refine lv_iconst (v := 2) C0.1 C0.2.1 d_Law_planned_19 (by decide) ?_
      cases h
      rw [hQ]
      refine W.widen (k := 1) (n := 6) (by omega) (by omega) ?_
      exact x_iret C0 hr hlocks hH hS hz d_Law_planned_20
    by_cases z2 : k9 = 1
    · subst z2
      rw [if_neg (by decide), if_neg (by decide), if_pos rfl] at h
      refine vx_catch (E := "java/lang/IllegalArgumentException") (name := "java/lang/IllegalArgumentException") C0.2.2.2.1 [⟨0, 10, 13, 13⟩, ⟨0, 10, 17, 21⟩] ⟨0, 10, 21, 15⟩ [] htab (List.forall_mem_cons.mpr ⟨Or.inr ⟨by decide, "java/lang/IllegalStateException", C0.2.2.2.2 _ kw_1_105, hE.2.2.2.2.2.2.1 _ (List.mem_of_getElem? (i := 3) rfl)⟩, List.forall_mem_cons.mpr ⟨Or.inr ⟨by decide, "java/lang/IndexOutOfBoundsException", C0.2.2.2.2 _ kw_2_13, hE.2.2.2.2.2.2.1 _ (List.mem_of_getElem? (i := 22) rfl)⟩, fun z h => by cases h⟩⟩) (by decide) (by decide) (C0.2.2.2.2 _ kw_1_106) (va_Nw.use rfl (hE.2.2.1 _ (List.mem_of_getElem? (i := 7) rfl))) hq9 hv9 hc9 ?_
      refine x_astore (lv' := [(4, .inr (.inl (some q_5))), (0, .inr (.inl r0)), (1, .inl x1), (2, .inl x2), (3, .inr (.inl r3))]) C0 hl d_Law_planned_21 (by decide) rfl (fun ls hl => ?_)
      refine lv_iconst (v := 3) C0.1 C0.2.1 d_Law_planned_23 (by decide) ?_
      cases h
      rw [hQ]
      refine W.widen (k := 1) (n := 6) (by omega) (by omega) ?_
      exact x_iret C0 hr hlocks hH hS hz d_Law_planned_24
    rw [if_neg z0, if_neg z1, if_neg z2] at h
    cases h
