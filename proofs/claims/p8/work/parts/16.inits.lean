theorem kw_0_8 : (Jvm.Cond.selects "LeafMatches$Planner" ({ cls := "LeafMatches$Planner", name := "makeRoom", desc := "(I)V" } : Jvm.MethodName) ({ cls := "LeafMatches$Planner", name := "makeRoom", desc := "(I)V" } : Jvm.MethodName)) ∈ wA := ku_0 8 rfl rfl
theorem kw_0_9 : (Jvm.Cond.selects "LeafMatches$Planner" ({ cls := "LeafMatches$Planner", name := "findRows", desc := "([LLeafMatches$Leaf;I)V" } : Jvm.MethodName) ({ cls := "LeafMatches$Planner", name := "findRows", desc := "([LLeafMatches$Leaf;I)V" } : Jvm.MethodName)) ∈ wA := ku_0 9 rfl rfl
theorem kw_0_11 : (Jvm.Cond.selects "LeafMatches$Planner" ({ cls := "LeafMatches$Planner", name := "findLeastLoss", desc := "(I)V" } : Jvm.MethodName) ({ cls := "LeafMatches$Planner", name := "findLeastLoss", desc := "(I)V" } : Jvm.MethodName)) ∈ wA := ku_0 11 rfl rfl
theorem kw_0_13 : (Jvm.Cond.selects "LeafMatches$Planner" ({ cls := "LeafMatches$Planner", name := "keepPlan", desc := "([LLeafMatches$Leaf;I)V" } : Jvm.MethodName) ({ cls := "LeafMatches$Planner", name := "keepPlan", desc := "([LLeafMatches$Leaf;I)V" } : Jvm.MethodName)) ∈ wA := ku_0 13 rfl rfl
theorem kw_1_41 : (Jvm.Cond.methodLink "LeafMatches$Planner" (3 : Nat) ({ cls := "java/lang/Object", name := "<init>", desc := "()V" } : Jvm.MethodName)) ∈ wA := ku_1 41 rfl rfl
theorem kw_1_74 : (Jvm.Cond.arrayClass Jvm.ClassFile.FieldType.int) ∈ wA := ku_1 74 rfl rfl
theorem kw_1_208 : (Jvm.Cond.methodLink "LeafMatches$Leaf" (3 : Nat) ({ cls := "java/lang/Object", name := "<init>", desc := "()V" } : Jvm.MethodName)) ∈ wA := ku_1 208 rfl rfl
theorem kw_1_209 : (Jvm.Cond.fieldLink "LeafMatches$Leaf" (19 : Nat) "LeafMatches$Leaf" "index" "I") ∈ wA := ku_1 209 rfl rfl
theorem kw_1_212 : (Jvm.Cond.fieldLink "LeafMatches$Leaf" (22 : Nat) "LeafMatches$Leaf" "flitch" "I") ∈ wA := ku_1 212 rfl rfl
theorem kw_2_96 : (Jvm.Cond.methodLink "LeafMatches$Face" (3 : Nat) ({ cls := "java/lang/Object", name := "<init>", desc := "()V" } : Jvm.MethodName)) ∈ wA := ku_2 96 rfl rfl
theorem kw_2_97 : (Jvm.Cond.classLink "LeafMatches$Face" (15 : Nat) "LeafMatches$Piece") ∈ wA := ku_2 97 rfl rfl
theorem kw_2_99 : (Jvm.Cond.instantiable "LeafMatches$Piece" (5 : Nat)) ∈ wA := ku_2 99 rfl rfl
theorem kw_2_100 : (Jvm.Cond.methodLink "LeafMatches$Face" (21 : Nat) ({ cls := "LeafMatches$Piece", name := "<init>", desc := "(LLeafMatches$Leaf;ZZ)V" } : Jvm.MethodName)) ∈ wA := ku_2 100 rfl rfl
theorem kw_2_101 : (Jvm.Cond.instanceMethod ({ cls := "LeafMatches$Piece", name := "<init>", desc := "(LLeafMatches$Leaf;ZZ)V" } : Jvm.MethodName)) ∈ wA := ku_2 101 rfl rfl
theorem kw_2_102 : (Jvm.Cond.code ({ cls := "LeafMatches$Piece", name := "<init>", desc := "(LLeafMatches$Leaf;ZZ)V" } : Jvm.MethodName) prog_4_method_1_code (4 : Nat) (Option.none : Option Jvm.ClassFile.FieldType)) ∈ wA := ku_2 102 rfl rfl
theorem kw_4_28 : (Jvm.Cond.methodLink "LeafMatches$Planner" (41 : Nat) ({ cls := "LeafMatches$Planner", name := "makeRoom", desc := "(I)V" } : Jvm.MethodName)) ∈ wA := ku_4 28 rfl rfl
theorem kw_4_30 : (Jvm.Cond.instanceMethod ({ cls := "LeafMatches$Planner", name := "makeRoom", desc := "(I)V" } : Jvm.MethodName)) ∈ wA := ku_4 30 rfl rfl
theorem kw_4_31 : (Jvm.Cond.code ({ cls := "LeafMatches$Planner", name := "makeRoom", desc := "(I)V" } : Jvm.MethodName) prog_5_method_6_code (2 : Nat) (Option.none : Option Jvm.ClassFile.FieldType)) ∈ wA := ku_4 31 rfl rfl
theorem kw_4_32 : (Jvm.Cond.methodLink "LeafMatches$Planner" (56 : Nat) ({ cls := "LeafMatches$Planner", name := "grown", desc := "([II)[I" } : Jvm.MethodName)) ∈ wA := ku_4 32 rfl rfl
theorem kw_4_33 : (Jvm.Cond.static ({ cls := "LeafMatches$Planner", name := "grown", desc := "([II)[I" } : Jvm.MethodName)) ∈ wA := ku_4 33 rfl rfl
theorem kw_4_34 : (Jvm.Cond.code ({ cls := "LeafMatches$Planner", name := "grown", desc := "([II)[I" } : Jvm.MethodName) prog_5_method_7_code (2 : Nat) (Option.some (Jvm.ClassFile.FieldType.array Jvm.ClassFile.FieldType.int))) ∈ wA := ku_4 34 rfl rfl
theorem kw_4_35 : (Jvm.Cond.methodLink "LeafMatches$Planner" (60 : Nat) ({ cls := "java/lang/Math", name := "max", desc := "(II)I" } : Jvm.MethodName)) ∈ wA := ku_4 35 rfl rfl
theorem kw_4_36 : (Jvm.Cond.methodLink "LeafMatches$Planner" (45 : Nat) ({ cls := "LeafMatches$Planner", name := "findRows", desc := "([LLeafMatches$Leaf;I)V" } : Jvm.MethodName)) ∈ wA := ku_4 36 rfl rfl
theorem kw_4_38 : (Jvm.Cond.instanceMethod ({ cls := "LeafMatches$Planner", name := "findRows", desc := "([LLeafMatches$Leaf;I)V" } : Jvm.MethodName)) ∈ wA := ku_4 38 rfl rfl
theorem kw_4_39 : (Jvm.Cond.code ({ cls := "LeafMatches$Planner", name := "findRows", desc := "([LLeafMatches$Leaf;I)V" } : Jvm.MethodName) prog_5_method_8_code (5 : Nat) (Option.none : Option Jvm.ClassFile.FieldType)) ∈ wA := ku_4 39 rfl rfl
theorem kw_4_45 : (Jvm.Cond.methodLink "LeafMatches$Planner" (49 : Nat) ({ cls := "LeafMatches$Planner", name := "findLeastLoss", desc := "(I)V" } : Jvm.MethodName)) ∈ wA := ku_4 45 rfl rfl
theorem kw_4_47 : (Jvm.Cond.instanceMethod ({ cls := "LeafMatches$Planner", name := "findLeastLoss", desc := "(I)V" } : Jvm.MethodName)) ∈ wA := ku_4 47 rfl rfl
theorem kw_4_48 : (Jvm.Cond.code ({ cls := "LeafMatches$Planner", name := "findLeastLoss", desc := "(I)V" } : Jvm.MethodName) prog_5_method_10_code (4 : Nat) (Option.none : Option Jvm.ClassFile.FieldType)) ∈ wA := ku_4 48 rfl rfl
theorem kw_4_55 : (Jvm.Cond.methodLink "LeafMatches$Planner" (53 : Nat) ({ cls := "LeafMatches$Planner", name := "keepPlan", desc := "([LLeafMatches$Leaf;I)V" } : Jvm.MethodName)) ∈ wA := ku_4 55 rfl rfl
theorem kw_4_57 : (Jvm.Cond.instanceMethod ({ cls := "LeafMatches$Planner", name := "keepPlan", desc := "([LLeafMatches$Leaf;I)V" } : Jvm.MethodName)) ∈ wA := ku_4 57 rfl rfl
theorem kw_4_58 : (Jvm.Cond.code ({ cls := "LeafMatches$Planner", name := "keepPlan", desc := "([LLeafMatches$Leaf;I)V" } : Jvm.MethodName) prog_5_method_12_code (7 : Nat) (Option.none : Option Jvm.ClassFile.FieldType)) ∈ wA := ku_4 58 rfl rfl
theorem kw_4_78 : (Jvm.Cond.methodLink "LeafMatchesModel" (1 : Nat) ({ cls := "java/lang/Object", name := "<init>", desc := "()V" } : Jvm.MethodName)) ∈ wA := ku_4 78 rfl rfl
theorem kw_4_146 : (Jvm.Cond.arrayClass Jvm.ClassFile.FieldType.boolean) ∈ wA := ku_4 146 rfl rfl
theorem d_Mod_init_0 : decode b_Mod_init 0 = .ok (.aload_n 0, 1) := by decide +kernel
theorem d_Mod_init_1 : decode b_Mod_init 1 = .ok (.invokespecial 1, 3) := by decide +kernel
theorem d_Mod_init_4 : decode b_Mod_init 4 = .ok (.aload_n 0, 1) := by decide +kernel
theorem d_Mod_init_5 : decode b_Mod_init 5 = .ok (.bipush 32, 2) := by decide +kernel
theorem d_Mod_init_7 : decode b_Mod_init 7 = .ok (.newarray .int, 2) := by decide +kernel
theorem d_Mod_init_9 : decode b_Mod_init 9 = .ok (.putfield 7, 3) := by decide +kernel
theorem d_Mod_init_12 : decode b_Mod_init 12 = .ok (.aload_n 0, 1) := by decide +kernel
theorem d_Mod_init_13 : decode b_Mod_init 13 = .ok (.bipush 32, 2) := by decide +kernel
theorem d_Mod_init_15 : decode b_Mod_init 15 = .ok (.newarray .int, 2) := by decide +kernel
theorem d_Mod_init_17 : decode b_Mod_init 17 = .ok (.putfield 13, 3) := by decide +kernel
theorem d_Mod_init_20 : decode b_Mod_init 20 = .ok (.aload_n 0, 1) := by decide +kernel
theorem d_Mod_init_21 : decode b_Mod_init 21 = .ok (.bipush 32, 2) := by decide +kernel
theorem d_Mod_init_23 : decode b_Mod_init 23 = .ok (.newarray .int, 2) := by decide +kernel
theorem d_Mod_init_25 : decode b_Mod_init 25 = .ok (.putfield 16, 3) := by decide +kernel
theorem d_Mod_init_28 : decode b_Mod_init 28 = .ok (.aload_n 0, 1) := by decide +kernel
theorem d_Mod_init_29 : decode b_Mod_init 29 = .ok (.bipush 32, 2) := by decide +kernel
theorem d_Mod_init_31 : decode b_Mod_init 31 = .ok (.newarray .int, 2) := by decide +kernel
theorem d_Mod_init_33 : decode b_Mod_init 33 = .ok (.putfield 19, 3) := by decide +kernel
theorem d_Mod_init_36 : decode b_Mod_init 36 = .ok (.aload_n 0, 1) := by decide +kernel
theorem d_Mod_init_37 : decode b_Mod_init 37 = .ok (.bipush 32, 2) := by decide +kernel
theorem d_Mod_init_39 : decode b_Mod_init 39 = .ok (.newarray .int, 2) := by decide +kernel
theorem d_Mod_init_41 : decode b_Mod_init 41 = .ok (.putfield 22, 3) := by decide +kernel
theorem d_Mod_init_44 : decode b_Mod_init 44 = .ok (.aload_n 0, 1) := by decide +kernel
theorem d_Mod_init_45 : decode b_Mod_init 45 = .ok (.bipush 32, 2) := by decide +kernel
theorem d_Mod_init_47 : decode b_Mod_init 47 = .ok (.newarray .boolean, 2) := by decide +kernel
theorem d_Mod_init_49 : decode b_Mod_init 49 = .ok (.putfield 25, 3) := by decide +kernel
theorem d_Mod_init_52 : decode b_Mod_init 52 = .ok (.aload_n 0, 1) := by decide +kernel
theorem d_Mod_init_53 : decode b_Mod_init 53 = .ok (.sipush 4608, 3) := by decide +kernel
theorem d_Mod_init_56 : decode b_Mod_init 56 = .ok (.newarray .int, 2) := by decide +kernel
theorem d_Mod_init_58 : decode b_Mod_init 58 = .ok (.putfield 29, 3) := by decide +kernel
theorem d_Mod_init_61 : decode b_Mod_init 61 = .ok (.aload_n 0, 1) := by decide +kernel
theorem d_Mod_init_62 : decode b_Mod_init 62 = .ok (.bipush 8, 2) := by decide +kernel
theorem d_Mod_init_64 : decode b_Mod_init 64 = .ok (.newarray .int, 2) := by decide +kernel
theorem d_Mod_init_66 : decode b_Mod_init 66 = .ok (.putfield 32, 3) := by decide +kernel
theorem d_Mod_init_69 : decode b_Mod_init 69 = .ok (.aload_n 0, 1) := by decide +kernel
theorem d_Mod_init_70 : decode b_Mod_init 70 = .ok (.bipush 8, 2) := by decide +kernel
theorem d_Mod_init_72 : decode b_Mod_init 72 = .ok (.newarray .int, 2) := by decide +kernel
theorem d_Mod_init_74 : decode b_Mod_init 74 = .ok (.putfield 35, 3) := by decide +kernel
theorem d_Mod_init_77 : decode b_Mod_init 77 = .ok (.aload_n 0, 1) := by decide +kernel
theorem d_Mod_init_78 : decode b_Mod_init 78 = .ok (.bipush 64, 2) := by decide +kernel
theorem d_Mod_init_80 : decode b_Mod_init 80 = .ok (.newarray .int, 2) := by decide +kernel
theorem d_Mod_init_82 : decode b_Mod_init 82 = .ok (.putfield 38, 3) := by decide +kernel
theorem d_Mod_init_85 : decode b_Mod_init 85 = .ok (.aload_n 0, 1) := by decide +kernel
theorem d_Mod_init_86 : decode b_Mod_init 86 = .ok (.bipush 8, 2) := by decide +kernel
theorem d_Mod_init_88 : decode b_Mod_init 88 = .ok (.newarray .int, 2) := by decide +kernel
theorem d_Mod_init_90 : decode b_Mod_init 90 = .ok (.putfield 41, 3) := by decide +kernel
theorem d_Mod_init_93 : decode b_Mod_init 93 = .ok (.aload_n 0, 1) := by decide +kernel
theorem d_Mod_init_94 : decode b_Mod_init 94 = .ok (.bipush 8, 2) := by decide +kernel
theorem d_Mod_init_96 : decode b_Mod_init 96 = .ok (.newarray .int, 2) := by decide +kernel
theorem d_Mod_init_98 : decode b_Mod_init 98 = .ok (.putfield 44, 3) := by decide +kernel
theorem d_Mod_init_101 : decode b_Mod_init 101 = .ok (.aload_n 0, 1) := by decide +kernel
theorem d_Mod_init_102 : decode b_Mod_init 102 = .ok (.bipush 8, 2) := by decide +kernel
theorem d_Mod_init_104 : decode b_Mod_init 104 = .ok (.newarray .int, 2) := by decide +kernel
theorem d_Mod_init_106 : decode b_Mod_init 106 = .ok (.putfield 47, 3) := by decide +kernel
theorem d_Mod_init_109 : decode b_Mod_init 109 = .ok (.aload_n 0, 1) := by decide +kernel
theorem d_Mod_init_110 : decode b_Mod_init 110 = .ok (.bipush 32, 2) := by decide +kernel
theorem d_Mod_init_112 : decode b_Mod_init 112 = .ok (.newarray .int, 2) := by decide +kernel
theorem d_Mod_init_114 : decode b_Mod_init 114 = .ok (.putfield 50, 3) := by decide +kernel
theorem d_Mod_init_117 : decode b_Mod_init 117 = .ok (.aload_n 0, 1) := by decide +kernel
theorem d_Mod_init_118 : decode b_Mod_init 118 = .ok (.sipush 8448, 3) := by decide +kernel
theorem d_Mod_init_121 : decode b_Mod_init 121 = .ok (.newarray .int, 2) := by decide +kernel
theorem d_Mod_init_123 : decode b_Mod_init 123 = .ok (.putfield 53, 3) := by decide +kernel
theorem d_Mod_init_126 : decode b_Mod_init 126 = .ok (.aload_n 0, 1) := by decide +kernel
theorem d_Mod_init_127 : decode b_Mod_init 127 = .ok (.bipush 32, 2) := by decide +kernel
theorem d_Mod_init_129 : decode b_Mod_init 129 = .ok (.newarray .int, 2) := by decide +kernel
theorem d_Mod_init_131 : decode b_Mod_init 131 = .ok (.putfield 56, 3) := by decide +kernel
theorem d_Mod_init_134 : decode b_Mod_init 134 = .ok (.return_, 1) := by decide +kernel
def f_Mod_init (w : Mp) (sz : Nat) (h0 : Nat) : Option (Unit × Mp × Nat) := (xnI w sz 0 32 (32 : Int32)).bind fun w_1 => (pF w_1 (some h0) 5 2 (va_rf (some sz))).bind fun w_2 => (xnI w_2 (sz + 1) 0 32 (32 : Int32)).bind fun w_3 => (pF w_3 (some h0) 5 3 (va_rf (some (sz + 1)))).bind fun w_4 => (xnI w_4 (sz + 2) 0 32 (32 : Int32)).bind fun w_5 => (pF w_5 (some h0) 5 4 (va_rf (some (sz + 2)))).bind fun w_6 => (xnI w_6 (sz + 3) 0 32 (32 : Int32)).bind fun w_7 => (pF w_7 (some h0) 5 5 (va_rf (some (sz + 3)))).bind fun w_8 => (xnI w_8 (sz + 4) 0 32 (32 : Int32)).bind fun w_9 => (pF w_9 (some h0) 5 6 (va_rf (some (sz + 4)))).bind fun w_10 => (xnI w_10 (sz + 5) 4 32 (32 : Int32)).bind fun w_11 => (pF w_11 (some h0) 5 7 (va_rf (some (sz + 5)))).bind fun w_12 => (xnI w_12 (sz + 6) 0 4608 (4608 : Int32)).bind fun w_13 => (pF w_13 (some h0) 5 8 (va_rf (some (sz + 6)))).bind fun w_14 => (xnI w_14 (sz + 7) 0 8 (8 : Int32)).bind fun w_15 => (pF w_15 (some h0) 5 10 (va_rf (some (sz + 7)))).bind fun w_16 => (xnI w_16 (sz + 8) 0 8 (8 : Int32)).bind fun w_17 => (pF w_17 (some h0) 5 11 (va_rf (some (sz + 8)))).bind fun w_18 => (xnI w_18 (sz + 9) 0 64 (64 : Int32)).bind fun w_19 => (pF w_19 (some h0) 5 12 (va_rf (some (sz + 9)))).bind fun w_20 => (xnI w_20 (sz + 10) 0 8 (8 : Int32)).bind fun w_21 => (pF w_21 (some h0) 5 14 (va_rf (some (sz + 10)))).bind fun w_22 => (xnI w_22 (sz + 11) 0 8 (8 : Int32)).bind fun w_23 => (pF w_23 (some h0) 5 16 (va_rf (some (sz + 11)))).bind fun w_24 => (xnI w_24 (sz + 12) 0 8 (8 : Int32)).bind fun w_25 => (pF w_25 (some h0) 5 17 (va_rf (some (sz + 12)))).bind fun w_26 => (xnI w_26 (sz + 13) 0 32 (32 : Int32)).bind fun w_27 => (pF w_27 (some h0) 5 19 (va_rf (some (sz + 13)))).bind fun w_28 => (xnI w_28 (sz + 14) 0 8448 (8448 : Int32)).bind fun w_29 => (pF w_29 (some h0) 5 20 (va_rf (some (sz + 14)))).bind fun w_30 => (xnI w_30 (sz + 15) 0 32 (32 : Int32)).bind fun w_31 => (pF w_31 (some h0) 5 21 (va_rf (some (sz + 15)))).bind fun w_32 => some ((), w_32, sz + 16)
set_option maxHeartbeats 4000000 in
set_option maxRecDepth 100000 in
theorem c_Mod_init (l : Launch) (G : Gx) (w : Mp) (sz : Nat) (h0 : Nat) (res : Unit × Mp × Nat) (hf : f_Mod_init w sz h0 = some res) : Met l y_Mod_init (xws y_Mod_init b_Mod_init 1 none) { frames := 1, cells := 16, slots := 13416, locals := 24 } (xPc G vwCl xaty w sz [va_rf (some h0)]) (xQ G vwCl (none) res.2.1 res.2.2) (16) (13416) (xA G) := by
  refine Met.ofW (cc := b_Mod_init) (maxL := 1) (ret := none) (by decide) rfl ?_
  intro p e s m args below meth c s₁ B hml hv
  obtain ⟨ha, hE, hH, hz⟩ := hv
  have C0 : CallFix p m c b_Mod_init 1 s args wA R_Mod := ⟨B.exec, B.bytes, hml, findClass_of_methodNamed B.named, fun w hw => atoms_spec (ws := xws y_Mod_init b_Mod_init 1 none) B.pre w (List.mem_cons_of_mem _ hw)⟩
  have hr := B.returns
  have hlocks := B.notSynchronized
  have hin : meth.name = "<init>" := (name_of_methodNamed B.named B.method).1
  obtain ⟨R, hR⟩ : ∃ R, R = (headSpec (xws y_Mod_init b_Mod_init 1 none) { frames := 1, cells := 16, slots := 13416, locals := 24 }).room := ⟨_, rfl⟩
  have hR1 : 1 ≤ R.frames := by rw [hR]; exact Nat.le_of_ble_eq_true rfl
  have hR2 : 24 ≤ R.locals := by rw [hR]; exact Nat.le_of_ble_eq_true rfl
  have hR3 : 16 ≤ R.cells := by rw [hR]; exact Nat.le_refl _
  have hR4 : 13416 ≤ R.slots := by rw [hR]; exact Nat.le_refl _
  rw [← hR]
  obtain ⟨Q, hQ⟩ : ∃ Q, Q = MQ below (xQ G vwCl (none) res.2.1 res.2.2) args s (16) (13416) (xA G) := ⟨_, rfl⟩
  rw [← hQ]
  have hS : xS G s s.heap [] := va_S.rf
  obtain ⟨ls, he, hl⟩ := x_entry m [.inr (.inl (some h0))] 1 (Nat.le_of_ble_eq_true rfl)
  rw [show entryFrame m args 1 = F0 m 0 ls [] by rw [ha]; exact he]
  have hl : xL ls 1 [(0, .inr (.inl (some h0)))] := hl
  have h := hf
  unfold f_Mod_init at h
  suffices hmain : ∀ (H : Heap) (locs : List Loc), xhd G vwCl w H → xS G s H locs → H.size = sz → (H = s.heap ∧ locs = []) → W p l e R s m args below meth c H locs 0 0 Q (F0 m 0 ls []) from hmain _ _ hH hS hz ⟨rfl, rfl⟩
  clear hH hS hz
  intro H locs hH hS hz hP0
  refine x_aload_n C0 hl 0 d_Mod_init_0 rfl rfl ?_
  refine x_obj C0 hl kw_4_78 kw_1_30 kw_1_31 d_Mod_init_1 (Nat.le_trans (by decide) hR1) (Nat.le_trans (by first | exact Nat.le_of_ble_eq_true rfl | simp only [List.map_cons, List.map_nil, List.sum_cons, List.sum_nil, va_rf_cat, x_catI, x_catL, x_catA] <;> decide) hR2) ?_
  refine x_aload_n C0 hl 0 d_Mod_init_4 rfl rfl ?_
  refine lv_bipush (v := 32) C0.1 C0.2.1 d_Mod_init_5 (by decide) ?_
  refine x_newp C0 hE hH hS hz (t := 0) (lim := 32) rfl (Or.inl rfl) kw_1_74 (Nat.le_trans (by omega) hR3) (Nat.le_trans (by omega) hR4) d_Mod_init_7 h (fun w_1 H hH hS hz h => ?_)
  refine W.widen (k := 1) (n := 32) (by omega) (by omega) ?_
  refine x_putF C0 hE hH hS hin (ci := 5) rfl i_Mod t_Mod t_Mod_ok n_Mod 2 (by decide) kw_4_81 rfl rfl (x_narR _ _) (x_fitR (Or.inr ⟨_, rfl⟩) _) d_Mod_init_9 h (fun w_2 H locs hH hS hz9 h => ?_)
  have hz := hz9.trans hz
  refine x_aload_n C0 hl 0 d_Mod_init_12 rfl rfl ?_
  refine lv_bipush (v := 32) C0.1 C0.2.1 d_Mod_init_13 (by decide) ?_
  refine x_newp C0 hE hH hS hz (t := 0) (lim := 32) rfl (Or.inl rfl) kw_1_74 (Nat.le_trans (by omega) hR3) (Nat.le_trans (by omega) hR4) d_Mod_init_15 h (fun w_3 H hH hS hz h => ?_)
  refine W.widen (k := 2) (n := 64) (by omega) (by omega) ?_
  refine x_putF C0 hE hH hS hin (ci := 5) rfl i_Mod t_Mod t_Mod_ok n_Mod 3 (by decide) kw_4_82 rfl rfl (x_narR _ _) (x_fitR (Or.inr ⟨_, rfl⟩) _) d_Mod_init_17 h (fun w_4 H locs hH hS hz9 h => ?_)
  have hz := hz9.trans hz
  refine x_aload_n C0 hl 0 d_Mod_init_20 rfl rfl ?_
  refine lv_bipush (v := 32) C0.1 C0.2.1 d_Mod_init_21 (by decide) ?_
  refine x_newp C0 hE hH hS hz (t := 0) (lim := 32) rfl (Or.inl rfl) kw_1_74 (Nat.le_trans (by omega) hR3) (Nat.le_trans (by omega) hR4) d_Mod_init_23 h (fun w_5 H hH hS hz h => ?_)
  refine W.widen (k := 3) (n := 96) (by omega) (by omega) ?_
  refine x_putF C0 hE hH hS hin (ci := 5) rfl i_Mod t_Mod t_Mod_ok n_Mod 4 (by decide) kw_4_83 rfl rfl (x_narR _ _) (x_fitR (Or.inr ⟨_, rfl⟩) _) d_Mod_init_25 h (fun w_6 H locs hH hS hz9 h => ?_)
  have hz := hz9.trans hz
  refine x_aload_n C0 hl 0 d_Mod_init_28 rfl rfl ?_
  refine lv_bipush (v := 32) C0.1 C0.2.1 d_Mod_init_29 (by decide) ?_
  refine x_newp C0 hE hH hS hz (t := 0) (lim := 32) rfl (Or.inl rfl) kw_1_74 (Nat.le_trans (by omega) hR3) (Nat.le_trans (by omega) hR4) d_Mod_init_31 h (fun w_7 H hH hS hz h => ?_)
  refine W.widen (k := 4) (n := 128) (by omega) (by omega) ?_
  refine x_putF C0 hE hH hS hin (ci := 5) rfl i_Mod t_Mod t_Mod_ok n_Mod 5 (by decide) kw_4_84 rfl rfl (x_narR _ _) (x_fitR (Or.inr ⟨_, rfl⟩) _) d_Mod_init_33 h (fun w_8 H locs hH hS hz9 h => ?_)
  have hz := hz9.trans hz
  refine x_aload_n C0 hl 0 d_Mod_init_36 rfl rfl ?_
  refine lv_bipush (v := 32) C0.1 C0.2.1 d_Mod_init_37 (by decide) ?_
  refine x_newp C0 hE hH hS hz (t := 0) (lim := 32) rfl (Or.inl rfl) kw_1_74 (Nat.le_trans (by omega) hR3) (Nat.le_trans (by omega) hR4) d_Mod_init_39 h (fun w_9 H hH hS hz h => ?_)
  refine W.widen (k := 5) (n := 160) (by omega) (by omega) ?_
  refine x_putF C0 hE hH hS hin (ci := 5) rfl i_Mod t_Mod t_Mod_ok n_Mod 6 (by decide) kw_4_85 rfl rfl (x_narR _ _) (x_fitR (Or.inr ⟨_, rfl⟩) _) d_Mod_init_41 h (fun w_10 H locs hH hS hz9 h => ?_)
  have hz := hz9.trans hz
  refine x_aload_n C0 hl 0 d_Mod_init_44 rfl rfl ?_
  refine lv_bipush (v := 32) C0.1 C0.2.1 d_Mod_init_45 (by decide) ?_
  refine x_newp C0 hE hH hS hz (t := 4) (lim := 32) rfl (Or.inr rfl) kw_4_146 (Nat.le_trans (by omega) hR3) (Nat.le_trans (by omega) hR4) d_Mod_init_47 h (fun w_11 H hH hS hz h => ?_)
  refine W.widen (k := 6) (n := 192) (by omega) (by omega) ?_
  refine x_putF C0 hE hH hS hin (ci := 5) rfl i_Mod t_Mod t_Mod_ok n_Mod 7 (by decide) kw_4_86 rfl rfl (x_narR _ _) (x_fitR (Or.inr ⟨_, rfl⟩) _) d_Mod_init_49 h (fun w_12 H locs hH hS hz9 h => ?_)
  have hz := hz9.trans hz
  refine x_aload_n C0 hl 0 d_Mod_init_52 rfl rfl ?_
  refine lv_sipush (v := 4608) C0.1 C0.2.1 d_Mod_init_53 (by decide) ?_
  refine x_newp C0 hE hH hS hz (t := 0) (lim := 4608) rfl (Or.inl rfl) kw_1_74 (Nat.le_trans (by omega) hR3) (Nat.le_trans (by omega) hR4) d_Mod_init_56 h (fun w_13 H hH hS hz h => ?_)
  refine W.widen (k := 7) (n := 4800) (by omega) (by omega) ?_
  refine x_putF C0 hE hH hS hin (ci := 5) rfl i_Mod t_Mod t_Mod_ok n_Mod 8 (by decide) kw_4_87 rfl rfl (x_narR _ _) (x_fitR (Or.inr ⟨_, rfl⟩) _) d_Mod_init_58 h (fun w_14 H locs hH hS hz9 h => ?_)
  have hz := hz9.trans hz
  refine x_aload_n C0 hl 0 d_Mod_init_61 rfl rfl ?_
  refine lv_bipush (v := 8) C0.1 C0.2.1 d_Mod_init_62 (by decide) ?_
  refine x_newp C0 hE hH hS hz (t := 0) (lim := 8) rfl (Or.inl rfl) kw_1_74 (Nat.le_trans (by omega) hR3) (Nat.le_trans (by omega) hR4) d_Mod_init_64 h (fun w_15 H hH hS hz h => ?_)
  refine W.widen (k := 8) (n := 4808) (by omega) (by omega) ?_
  refine x_putF C0 hE hH hS hin (ci := 5) rfl i_Mod t_Mod t_Mod_ok n_Mod 10 (by decide) kw_4_89 rfl rfl (x_narR _ _) (x_fitR (Or.inr ⟨_, rfl⟩) _) d_Mod_init_66 h (fun w_16 H locs hH hS hz9 h => ?_)
  have hz := hz9.trans hz
  refine x_aload_n C0 hl 0 d_Mod_init_69 rfl rfl ?_
  refine lv_bipush (v := 8) C0.1 C0.2.1 d_Mod_init_70 (by decide) ?_
  refine x_newp C0 hE hH hS hz (t := 0) (lim := 8) rfl (Or.inl rfl) kw_1_74 (Nat.le_trans (by omega) hR3) (Nat.le_trans (by omega) hR4) d_Mod_init_72 h (fun w_17 H hH hS hz h => ?_)
  refine W.widen (k := 9) (n := 4816) (by omega) (by omega) ?_
  refine x_putF C0 hE hH hS hin (ci := 5) rfl i_Mod t_Mod t_Mod_ok n_Mod 11 (by decide) kw_4_90 rfl rfl (x_narR _ _) (x_fitR (Or.inr ⟨_, rfl⟩) _) d_Mod_init_74 h (fun w_18 H locs hH hS hz9 h => ?_)
  have hz := hz9.trans hz
  refine x_aload_n C0 hl 0 d_Mod_init_77 rfl rfl ?_
  refine lv_bipush (v := 64) C0.1 C0.2.1 d_Mod_init_78 (by decide) ?_
  refine x_newp C0 hE hH hS hz (t := 0) (lim := 64) rfl (Or.inl rfl) kw_1_74 (Nat.le_trans (by omega) hR3) (Nat.le_trans (by omega) hR4) d_Mod_init_80 h (fun w_19 H hH hS hz h => ?_)
  refine W.widen (k := 10) (n := 4880) (by omega) (by omega) ?_
  refine x_putF C0 hE hH hS hin (ci := 5) rfl i_Mod t_Mod t_Mod_ok n_Mod 12 (by decide) kw_4_91 rfl rfl (x_narR _ _) (x_fitR (Or.inr ⟨_, rfl⟩) _) d_Mod_init_82 h (fun w_20 H locs hH hS hz9 h => ?_)
  have hz := hz9.trans hz
  refine x_aload_n C0 hl 0 d_Mod_init_85 rfl rfl ?_
  refine lv_bipush (v := 8) C0.1 C0.2.1 d_Mod_init_86 (by decide) ?_
  refine x_newp C0 hE hH hS hz (t := 0) (lim := 8) rfl (Or.inl rfl) kw_1_74 (Nat.le_trans (by omega) hR3) (Nat.le_trans (by omega) hR4) d_Mod_init_88 h (fun w_21 H hH hS hz h => ?_)
  refine W.widen (k := 11) (n := 4888) (by omega) (by omega) ?_
  refine x_putF C0 hE hH hS hin (ci := 5) rfl i_Mod t_Mod t_Mod_ok n_Mod 14 (by decide) kw_4_93 rfl rfl (x_narR _ _) (x_fitR (Or.inr ⟨_, rfl⟩) _) d_Mod_init_90 h (fun w_22 H locs hH hS hz9 h => ?_)
  have hz := hz9.trans hz
  refine x_aload_n C0 hl 0 d_Mod_init_93 rfl rfl ?_
  refine lv_bipush (v := 8) C0.1 C0.2.1 d_Mod_init_94 (by decide) ?_
  refine x_newp C0 hE hH hS hz (t := 0) (lim := 8) rfl (Or.inl rfl) kw_1_74 (Nat.le_trans (by omega) hR3) (Nat.le_trans (by omega) hR4) d_Mod_init_96 h (fun w_23 H hH hS hz h => ?_)
  refine W.widen (k := 12) (n := 4896) (by omega) (by omega) ?_
  refine x_putF C0 hE hH hS hin (ci := 5) rfl i_Mod t_Mod t_Mod_ok n_Mod 16 (by decide) kw_4_95 rfl rfl (x_narR _ _) (x_fitR (Or.inr ⟨_, rfl⟩) _) d_Mod_init_98 h (fun w_24 H locs hH hS hz9 h => ?_)
  have hz := hz9.trans hz
  refine x_aload_n C0 hl 0 d_Mod_init_101 rfl rfl ?_
  refine lv_bipush (v := 8) C0.1 C0.2.1 d_Mod_init_102 (by decide) ?_
  refine x_newp C0 hE hH hS hz (t := 0) (lim := 8) rfl (Or.inl rfl) kw_1_74 (Nat.le_trans (by omega) hR3) (Nat.le_trans (by omega) hR4) d_Mod_init_104 h (fun w_25 H hH hS hz h => ?_)
  refine W.widen (k := 13) (n := 4904) (by omega) (by omega) ?_
  refine x_putF C0 hE hH hS hin (ci := 5) rfl i_Mod t_Mod t_Mod_ok n_Mod 17 (by decide) kw_4_96 rfl rfl (x_narR _ _) (x_fitR (Or.inr ⟨_, rfl⟩) _) d_Mod_init_106 h (fun w_26 H locs hH hS hz9 h => ?_)
  have hz := hz9.trans hz
  refine x_aload_n C0 hl 0 d_Mod_init_109 rfl rfl ?_
  refine lv_bipush (v := 32) C0.1 C0.2.1 d_Mod_init_110 (by decide) ?_
  refine x_newp C0 hE hH hS hz (t := 0) (lim := 32) rfl (Or.inl rfl) kw_1_74 (Nat.le_trans (by omega) hR3) (Nat.le_trans (by omega) hR4) d_Mod_init_112 h (fun w_27 H hH hS hz h => ?_)
  refine W.widen (k := 14) (n := 4936) (by omega) (by omega) ?_
  refine x_putF C0 hE hH hS hin (ci := 5) rfl i_Mod t_Mod t_Mod_ok n_Mod 19 (by decide) kw_4_98 rfl rfl (x_narR _ _) (x_fitR (Or.inr ⟨_, rfl⟩) _) d_Mod_init_114 h (fun w_28 H locs hH hS hz9 h => ?_)
  have hz := hz9.trans hz
  refine x_aload_n C0 hl 0 d_Mod_init_117 rfl rfl ?_
  refine lv_sipush (v := 8448) C0.1 C0.2.1 d_Mod_init_118 (by decide) ?_
  refine x_newp C0 hE hH hS hz (t := 0) (lim := 8448) rfl (Or.inl rfl) kw_1_74 (Nat.le_trans (by omega) hR3) (Nat.le_trans (by omega) hR4) d_Mod_init_121 h (fun w_29 H hH hS hz h => ?_)
  refine W.widen (k := 15) (n := 13384) (by omega) (by omega) ?_
  refine x_putF C0 hE hH hS hin (ci := 5) rfl i_Mod t_Mod t_Mod_ok n_Mod 20 (by decide) kw_4_99 rfl rfl (x_narR _ _) (x_fitR (Or.inr ⟨_, rfl⟩) _) d_Mod_init_123 h (fun w_30 H locs hH hS hz9 h => ?_)
  have hz := hz9.trans hz
  refine x_aload_n C0 hl 0 d_Mod_init_126 rfl rfl ?_
  refine lv_bipush (v := 32) C0.1 C0.2.1 d_Mod_init_127 (by decide) ?_
  refine x_newp C0 hE hH hS hz (t := 0) (lim := 32) rfl (Or.inl rfl) kw_1_74 (Nat.le_trans (by omega) hR3) (Nat.le_trans (by omega) hR4) d_Mod_init_129 h (fun w_31 H hH hS hz h => ?_)
  refine W.widen (k := 16) (n := 13416) (by omega) (by omega) ?_
  refine x_putF C0 hE hH hS hin (ci := 5) rfl i_Mod t_Mod t_Mod_ok n_Mod 21 (by decide) kw_4_100 rfl rfl (x_narR _ _) (x_fitR (Or.inr ⟨_, rfl⟩) _) d_Mod_init_131 h (fun w_32 H locs hH hS hz9 h => ?_)
  have hz := hz9.trans hz
  cases h
  rw [hQ]
  refine W.widen (k := 16) (n := 13416) (by omega) (by omega) ?_
  exact x_vret C0 hr hlocks hH hS hz d_Mod_init_134
theorem d_Face_init_0 : decode b_Face_init 0 = .ok (.aload_n 0, 1) := by decide +kernel
theorem d_Face_init_1 : decode b_Face_init 1 = .ok (.invokespecial 3, 3) := by decide +kernel
theorem d_Face_init_4 : decode b_Face_init 4 = .ok (.aload_n 0, 1) := by decide +kernel
theorem d_Face_init_5 : decode b_Face_init 5 = .ok (.iload_n 1, 1) := by decide +kernel
theorem d_Face_init_6 : decode b_Face_init 6 = .ok (.putfield 9, 3) := by decide +kernel
theorem d_Face_init_9 : decode b_Face_init 9 = .ok (.aload_n 0, 1) := by decide +kernel
theorem d_Face_init_10 : decode b_Face_init 10 = .ok (.iload_n 3, 1) := by decide +kernel
theorem d_Face_init_11 : decode b_Face_init 11 = .ok (.anewarray 15, 3) := by decide +kernel
theorem d_Face_init_14 : decode b_Face_init 14 = .ok (.putfield 17, 3) := by decide +kernel
theorem d_Face_init_17 : decode b_Face_init 17 = .ok (.iconst 0, 1) := by decide +kernel
theorem d_Face_init_18 : decode b_Face_init 18 = .ok (.istore 4, 2) := by decide +kernel
theorem d_Face_init_20 : decode b_Face_init 20 = .ok (.iload 4, 2) := by decide +kernel
theorem d_Face_init_22 : decode b_Face_init 22 = .ok (.iload_n 3, 1) := by decide +kernel
theorem d_Face_init_23 : decode b_Face_init 23 = .ok (.if_icmp .ge 103, 3) := by decide +kernel
theorem d_Face_init_26 : decode b_Face_init 26 = .ok (.iload 4, 2) := by decide +kernel
theorem d_Face_init_28 : decode b_Face_init 28 = .ok (.iconst 2, 1) := by decide +kernel
theorem d_Face_init_29 : decode b_Face_init 29 = .ok (.irem, 1) := by decide +kernel
theorem d_Face_init_30 : decode b_Face_init 30 = .ok (.iconst 1, 1) := by decide +kernel
theorem d_Face_init_31 : decode b_Face_init 31 = .ok (.if_icmp .ne 7, 3) := by decide +kernel
theorem d_Face_init_34 : decode b_Face_init 34 = .ok (.iconst 1, 1) := by decide +kernel
theorem d_Face_init_35 : decode b_Face_init 35 = .ok (.goto 4, 3) := by decide +kernel
theorem d_Face_init_38 : decode b_Face_init 38 = .ok (.iconst 0, 1) := by decide +kernel
theorem d_Face_init_39 : decode b_Face_init 39 = .ok (.istore 5, 2) := by decide +kernel
theorem d_Face_init_41 : decode b_Face_init 41 = .ok (.iload 5, 2) := by decide +kernel
theorem d_Face_init_43 : decode b_Face_init 43 = .ok (.ifCond .eq 16, 3) := by decide +kernel
theorem d_Face_init_46 : decode b_Face_init 46 = .ok (.iload_n 1, 1) := by decide +kernel
theorem d_Face_init_47 : decode b_Face_init 47 = .ok (.ifCond .eq 8, 3) := by decide +kernel
theorem d_Face_init_50 : decode b_Face_init 50 = .ok (.iload_n 1, 1) := by decide +kernel
theorem d_Face_init_51 : decode b_Face_init 51 = .ok (.iconst 3, 1) := by decide +kernel
theorem d_Face_init_52 : decode b_Face_init 52 = .ok (.if_icmp .ne 7, 3) := by decide +kernel
theorem d_Face_init_55 : decode b_Face_init 55 = .ok (.iconst 1, 1) := by decide +kernel
theorem d_Face_init_56 : decode b_Face_init 56 = .ok (.goto 4, 3) := by decide +kernel
theorem d_Face_init_59 : decode b_Face_init 59 = .ok (.iconst 0, 1) := by decide +kernel
theorem d_Face_init_60 : decode b_Face_init 60 = .ok (.istore 6, 2) := by decide +kernel
theorem d_Face_init_62 : decode b_Face_init 62 = .ok (.iload_n 1, 1) := by decide +kernel
theorem d_Face_init_63 : decode b_Face_init 63 = .ok (.iconst 3, 1) := by decide +kernel
theorem d_Face_init_64 : decode b_Face_init 64 = .ok (.if_icmp .ne 17, 3) := by decide +kernel
theorem d_Face_init_67 : decode b_Face_init 67 = .ok (.iload 4, 2) := by decide +kernel
theorem d_Face_init_69 : decode b_Face_init 69 = .ok (.iconst 2, 1) := by decide +kernel
theorem d_Face_init_70 : decode b_Face_init 70 = .ok (.if_icmp .lt 7, 3) := by decide +kernel
theorem d_Face_init_73 : decode b_Face_init 73 = .ok (.iconst 1, 1) := by decide +kernel
theorem d_Face_init_74 : decode b_Face_init 74 = .ok (.goto 22, 3) := by decide +kernel
theorem d_Face_init_77 : decode b_Face_init 77 = .ok (.iconst 0, 1) := by decide +kernel
theorem d_Face_init_78 : decode b_Face_init 78 = .ok (.goto 18, 3) := by decide +kernel
theorem d_Face_init_81 : decode b_Face_init 81 = .ok (.iload 5, 2) := by decide +kernel
theorem d_Face_init_83 : decode b_Face_init 83 = .ok (.ifCond .eq 12, 3) := by decide +kernel
theorem d_Face_init_86 : decode b_Face_init 86 = .ok (.iload_n 1, 1) := by decide +kernel
theorem d_Face_init_87 : decode b_Face_init 87 = .ok (.iconst 2, 1) := by decide +kernel
theorem d_Face_init_88 : decode b_Face_init 88 = .ok (.if_icmp .ne 7, 3) := by decide +kernel
theorem d_Face_init_91 : decode b_Face_init 91 = .ok (.iconst 1, 1) := by decide +kernel
theorem d_Face_init_92 : decode b_Face_init 92 = .ok (.goto 4, 3) := by decide +kernel
theorem d_Face_init_95 : decode b_Face_init 95 = .ok (.iconst 0, 1) := by decide +kernel
theorem d_Face_init_96 : decode b_Face_init 96 = .ok (.istore 7, 2) := by decide +kernel
theorem d_Face_init_98 : decode b_Face_init 98 = .ok (.aload_n 0, 1) := by decide +kernel
theorem d_Face_init_99 : decode b_Face_init 99 = .ok (.getfield 17, 3) := by decide +kernel
theorem d_Face_init_102 : decode b_Face_init 102 = .ok (.iload 4, 2) := by decide +kernel
theorem d_Face_init_104 : decode b_Face_init 104 = .ok (.new 15, 3) := by decide +kernel
theorem d_Face_init_107 : decode b_Face_init 107 = .ok (.dup, 1) := by decide +kernel
theorem d_Face_init_108 : decode b_Face_init 108 = .ok (.aload_n 2, 1) := by decide +kernel
theorem d_Face_init_109 : decode b_Face_init 109 = .ok (.iload 4, 2) := by decide +kernel
theorem d_Face_init_111 : decode b_Face_init 111 = .ok (.aaload, 1) := by decide +kernel
theorem d_Face_init_112 : decode b_Face_init 112 = .ok (.iload 6, 2) := by decide +kernel
theorem d_Face_init_114 : decode b_Face_init 114 = .ok (.iload 7, 2) := by decide +kernel
theorem d_Face_init_116 : decode b_Face_init 116 = .ok (.invokespecial 21, 3) := by decide +kernel
theorem d_Face_init_119 : decode b_Face_init 119 = .ok (.aastore, 1) := by decide +kernel
theorem d_Face_init_120 : decode b_Face_init 120 = .ok (.iinc 4 1, 3) := by decide +kernel
theorem d_Face_init_123 : decode b_Face_init 123 = .ok (.goto (-103), 3) := by decide +kernel
theorem d_Face_init_126 : decode b_Face_init 126 = .ok (.return_, 1) := by decide +kernel
def f_Face_init_L20 (h0 : Nat) (x1 : Int32) (r2 : Option Nat) (x3 : Int32) : Nat → Int32 → Mp → Nat → Option (Nat × Int32 × Mp × Nat)
  | 0, _, _, _ => none
  | n + 1, x4, w, sz => if x3 ≤ x4 then (some (0, x4, w, sz)) else (xJ1 (fun (x_4 : Int32) => xJ1 (fun (x_6 : Int32) => xJ1 (fun (x_8 : Int32) => (gR w (some h0) 3 1).bind fun v_10 => (xnO w sz 2 [.null, .int 0, .int 0, .int 0, .int 0]).bind fun w_11 => (aR w_11 r2 1 x4).bind fun v_12 => (xo w_11 (some sz) 2).bind fun b_14 => (f_Piece_init w_11 b_14 v_12 x_6 x_8).bind fun q_13 => (sR q_13.2 v_10 3 2 x4 (some sz)).bind fun w_15 => f_Face_init_L20 h0 x1 r2 x3 n (x4 + 1) w_15 (sz + 1)) fun J_9 => if x1 = (3 : Int32) then (if x4 < (2 : Int32) then (J_9 (0 : Int32)) else (J_9 (1 : Int32))) else (if x_4 = 0 then (J_9 (0 : Int32)) else (if x1 = (2 : Int32) then (J_9 (1 : Int32)) else (J_9 (0 : Int32))))) fun J_7 => if x_4 = 0 then (J_7 (0 : Int32)) else (if x1 = 0 then (J_7 (1 : Int32)) else (if x1 = (3 : Int32) then (J_7 (1 : Int32)) else (J_7 (0 : Int32))))) fun J_5 => if (x4 - x4 / (2 : Int32) * (2 : Int32)) = (1 : Int32) then (J_5 (1 : Int32)) else (J_5 (0 : Int32)))
set_option maxHeartbeats 4000000 in
set_option maxRecDepth 100000 in
theorem w_Face_init_L20 {p : Program} {l : Launch} {e : Env} {R : Room} {s : State} {m : MethodId} {args : Array Value} {below : List Frame} {meth : Method} {c : Code} {Q : State → Prop} {cells slots : Nat} {G : Gx} {h0 : Nat} {x1 : Int32} {r2 : Option Nat} {x3 : Int32} (C0 : CallFix p m c b_Face_init 8 s args wA R_Face) (hE : xE G vwCl xaty s) (hR1 : 2 ≤ R.frames) (hR2 : 47 ≤ R.locals) (hR3 : (cells + 9 * 1) ≤ R.cells) (hR4 : (slots + 9 * 5) ≤ R.slots) : ∀ (n : Nat) (x4 : Int32) (w : Mp) (sz : Nat) (H : Heap) (locs : List Loc) (_ : n ≤ 9) (q : Nat × Int32 × Mp × Nat) (ls : Array Slot), xhd G vwCl w H → xS G s H locs → H.size = sz → xL ls 8 [(0, .inr (.inl (some h0))), (1, .inl x1), (2, .inr (.inl r2)), (3, .inl x3), (4, .inl x4)] → f_Face_init_L20 h0 x1 r2 x3 n x4 w sz = some q → (∀ (H : Heap) (locs : List Loc) (ls : Array Slot), xhd G vwCl q.2.2.1 H → xS G s H locs → H.size = q.2.2.2 → xL ls 8 [(0, .inr (.inl (some h0))), (1, .inl x1), (2, .inr (.inl r2)), (3, .inl x3), (4, .inl q.2.1)] → W p l e R s m args below meth c H locs (cells + 9 * 1) (slots + 9 * 5) Q (F0 m 126 ls [])) → W p l e R s m args below meth c H locs (cells + (9 - n) * 1) (slots + (9 - n) * 5) Q (F0 m 20 ls []) := by
  intro n
  induction n with
  | zero => intro _ _ _ _ _ _ q ls hH hS hz hl h; cases h
  | succ n ih =>
    intro x4 w sz H locs hn q ls hH hS hz hl h K
    rw [f_Face_init_L20] at h
    refine x_iload C0 hl 4 d_Face_init_20 rfl ?_
    refine x_iload_n C0 hl 3 d_Face_init_22 rfl rfl ?_
    refine x_icmp_ge C0 126 d_Face_init_23 (by decide) h (fun h => ?_) (fun h => ?_)
    · cases h
      refine W.widen (k := cells + 9 * 1) (n := slots + 9 * 5) (by omega) (by omega) ?_
      exact K _ _ ls hH hS hz (x_sub hl [0, 1, 2, 3, 4] rfl)
    · refine x_iload C0 hl 4 d_Face_init_26 rfl ?_
      refine lv_iconst (v := 2) C0.1 C0.2.1 d_Face_init_28 (by decide) ?_
      refine lv_irem C0.1 C0.2.1 d_Face_init_29 (by decide) ?_
      refine lv_iconst (v := 1) C0.1 C0.2.1 d_Face_init_30 (by decide) ?_
      refine xj1 h (fun J_5 eJ_5 h => ?_)
      have kJ_5 : ∀ (x_4 : Int32) (ls : Array Slot), xL ls 8 [(0, .inr (.inl (some h0))), (1, .inl x1), (2, .inr (.inl r2)), (3, .inl x3), (4, .inl x4)] → J_5 x_4 = some q → W p l e R s m args below meth c H locs (cells + (9 - (n + 1)) * 1) (slots + (9 - (n + 1)) * 5) Q (F0 m 39 ls [.int x_4]) := by
        intro x_4 ls hl h
        rw [eJ_5] at h
        refine x_istore (lv' := [(5, .inl x_4), (0, .inr (.inl (some h0))), (1, .inl x1), (2, .inr (.inl r2)), (3, .inl x3), (4, .inl x4)]) C0 hl d_Face_init_39 (by decide) rfl (fun ls hl => ?_)
        refine x_iload C0 hl 0 d_Face_init_41 rfl ?_
        refine xj1 h (fun J_7 eJ_7 h => ?_)
        have kJ_7 : ∀ (x_6 : Int32) (ls : Array Slot), xL ls 8 [(0, .inr (.inl (some h0))), (1, .inl x1), (2, .inr (.inl r2)), (3, .inl x3), (4, .inl x4), (5, .inl x_4)] → J_7 x_6 = some q → W p l e R s m args below meth c H locs (cells + (9 - (n + 1)) * 1) (slots + (9 - (n + 1)) * 5) Q (F0 m 60 ls [.int x_6]) := by
          intro x_6 ls hl h
          rw [eJ_7] at h
          refine x_istore (lv' := [(6, .inl x_6), (0, .inr (.inl (some h0))), (1, .inl x1), (2, .inr (.inl r2)), (3, .inl x3), (4, .inl x4), (5, .inl x_4)]) C0 hl d_Face_init_60 (by decide) rfl (fun ls hl => ?_)
          refine x_iload_n C0 hl 2 d_Face_init_62 rfl rfl ?_
          refine lv_iconst (v := 3) C0.1 C0.2.1 d_Face_init_63 (by decide) ?_
          refine xj1 h (fun J_9 eJ_9 h => ?_)
          have kJ_9 : ∀ (x_8 : Int32) (ls : Array Slot), xL ls 8 [(0, .inr (.inl (some h0))), (1, .inl x1), (2, .inr (.inl r2)), (3, .inl x3), (4, .inl x4), (6, .inl x_6)] → J_9 x_8 = some q → W p l e R s m args below meth c H locs (cells + (9 - (n + 1)) * 1) (slots + (9 - (n + 1)) * 5) Q (F0 m 96 ls [.int x_8]) := by
            intro x_8 ls hl h
            rw [eJ_9] at h
            refine x_istore (lv' := [(7, .inl x_8), (0, .inr (.inl (some h0))), (1, .inl x1), (2, .inr (.inl r2)), (3, .inl x3), (4, .inl x4), (6, .inl x_6)]) C0 hl d_Face_init_96 (by decide) rfl (fun ls hl => ?_)
            refine x_aload_n C0 hl 1 d_Face_init_98 rfl rfl ?_
            refine x_getR C0 hE hH (ci := 3) rfl i_Face 1 (by decide) kw_2_130 d_Face_init_99 h (fun v_10 h => ?_)
            refine x_iload C0 hl 5 d_Face_init_102 rfl ?_
            refine x_new (fs := [.null, .int 0, .int 0, .int 0, .int 0]) C0 hE hH hS hz (ci := 2) rfl i_Piece t_Piece t_Piece_ok kw_2_97 kw_2_99 kw_1_12 (fun j hj => by rcases (show j = 0 ∨ j = 1 ∨ j = 2 ∨ j = 3 ∨ j = 4 by omega) with rfl | rfl | rfl | rfl | rfl <;> rfl) (Nat.le_trans (by omega) hR3) (Nat.le_trans (by omega) hR4) d_Face_init_104 h (fun w_11 H hH hS hz h => ?_)
            refine W.widen (k := cells + (9 - (n + 1)) * 1 + 1) (n := slots + (9 - (n + 1)) * 5 + 5) (by omega) (by omega) ?_
            refine lv_dup C0.1 C0.2.1 d_Face_init_107 (va_rf_cat _) ?_
            refine x_aload_n C0 hl 3 d_Face_init_108 rfl rfl ?_
            refine x_iload C0 hl 5 d_Face_init_109 rfl ?_
            refine x_aald C0 hE hH (t := 1) rfl d_Face_init_111 h (fun v_12 h => ?_)
            refine x_iload C0 hl 6 d_Face_init_112 rfl ?_
            refine x_iload C0 hl 0 d_Face_init_114 rfl ?_
            obtain ⟨b_14, e9, h⟩ := Option.bind_eq_some_iff.mp h
            obtain ⟨e8, fs9, hb9⟩ := xo_inv e9
            obtain ⟨q_13, e9, h⟩ := Option.bind_eq_some_iff.mp h
            refine x_call0 hS (va_runI (As := [va_rf v_12, .int x_6, .int x_8]) (rest := [va_rf (some sz), .int x4, va_rf v_10]) C0 (c_Piece_init l G w_11 _ b_14 v_12 x_6 x_8 q_13 e9) (x_cwI 3 C0 kw_2_100 kw_2_102 kw_1_12 kw_2_101 rfl (by decide +kernel) (x_rm hR1 hR2 (Nat.le_of_ble_eq_true rfl) (Nat.le_of_ble_eq_true rfl))) (x_preS hE hH hS) rfl rfl hl.1 (by rw [e8]; rfl) (lv_room (by first | exact Nat.le_of_ble_eq_true rfl | simp only [List.map_cons, List.map_nil, List.sum_cons, List.sum_nil, va_rf_cat, x_catI, x_catL, x_catA] <;> decide)) d_Face_init_116 (x_le0 (Nat.le_trans (by omega) hR3) (Nat.le_trans (by omega) hR4))) (fun H locs hH hS hz9 => ?_)
            have hz := hz9.trans hz
            refine x_aast C0 hE hH hS (t := 3) (ci := 2) rfl rfl d_Face_init_119 h (fun w_15 H locs hH hS hz9 h => ?_)
            have hz := hz9.trans hz
            refine x_iinc (v := 1) (lv' := [(4, .inl (x4 + 1)), (7, .inl x_8), (0, .inr (.inl (some h0))), (1, .inl x1), (2, .inr (.inl r2)), (3, .inl x3), (6, .inl x_6)]) C0 hl 5 d_Face_init_120 rfl (by decide) (by decide) rfl (fun ls hl => ?_)
            refine x_goto C0 20 d_Face_init_123 (by decide) ?_
            refine W.widen (k := cells + (9 - n) * 1) (n := slots + (9 - n) * 5) (by omega) (by omega) ?_
            exact ih _ _ _ _ _ (by omega) q ls hH hS hz (x_sub hl [2, 3, 4, 5, 0] rfl) h K
          refine x_icmp_ne C0 81 d_Face_init_64 (by decide) h (fun h => ?_) (fun h => ?_)
          · refine x_iload C0 hl 6 d_Face_init_81 rfl ?_
            refine x_if_eq C0 95 d_Face_init_83 (by decide) h (fun h => ?_) (fun h => ?_)
            · refine lv_iconst (v := 0) C0.1 C0.2.1 d_Face_init_95 (by decide) ?_
              exact kJ_9 _ ls (x_sub hl [1, 2, 3, 4, 5, 0] rfl) h
            · refine x_iload_n C0 hl 2 d_Face_init_86 rfl rfl ?_
              refine lv_iconst (v := 2) C0.1 C0.2.1 d_Face_init_87 (by decide) ?_
              refine x_icmp_ne C0 95 d_Face_init_88 (by decide) h (fun h => ?_) (fun h => ?_)
              · refine lv_iconst (v := 0) C0.1 C0.2.1 d_Face_init_95 (by decide) ?_
                exact kJ_9 _ ls (x_sub hl [1, 2, 3, 4, 5, 0] rfl) h
              · refine lv_iconst (v := 1) C0.1 C0.2.1 d_Face_init_91 (by decide) ?_
                refine x_goto C0 96 d_Face_init_92 (by decide) ?_
                exact kJ_9 _ ls (x_sub hl [1, 2, 3, 4, 5, 0] rfl) h
          · refine x_iload C0 hl 5 d_Face_init_67 rfl ?_
            refine lv_iconst (v := 2) C0.1 C0.2.1 d_Face_init_69 (by decide) ?_
            refine x_icmp_lt C0 77 d_Face_init_70 (by decide) h (fun h => ?_) (fun h => ?_)
            · refine lv_iconst (v := 0) C0.1 C0.2.1 d_Face_init_77 (by decide) ?_
              refine x_goto C0 96 d_Face_init_78 (by decide) ?_
              exact kJ_9 _ ls (x_sub hl [1, 2, 3, 4, 5, 0] rfl) h
            · refine lv_iconst (v := 1) C0.1 C0.2.1 d_Face_init_73 (by decide) ?_
              refine x_goto C0 96 d_Face_init_74 (by decide) ?_
              exact kJ_9 _ ls (x_sub hl [1, 2, 3, 4, 5, 0] rfl) h
        refine x_if_eq C0 59 d_Face_init_43 (by decide) h (fun h => ?_) (fun h => ?_)
        · refine lv_iconst (v := 0) C0.1 C0.2.1 d_Face_init_59 (by decide) ?_
          exact kJ_7 _ ls (x_sub hl [1, 2, 3, 4, 5, 0] rfl) h
        · refine x_iload_n C0 hl 2 d_Face_init_46 rfl rfl ?_
          refine x_if_eq C0 55 d_Face_init_47 (by decide) h (fun h => ?_) (fun h => ?_)
          · refine lv_iconst (v := 1) C0.1 C0.2.1 d_Face_init_55 (by decide) ?_
            refine x_goto C0 60 d_Face_init_56 (by decide) ?_
            exact kJ_7 _ ls (x_sub hl [1, 2, 3, 4, 5, 0] rfl) h
          · refine x_iload_n C0 hl 2 d_Face_init_50 rfl rfl ?_
            refine lv_iconst (v := 3) C0.1 C0.2.1 d_Face_init_51 (by decide) ?_
            refine x_icmp_ne C0 59 d_Face_init_52 (by decide) h (fun h => ?_) (fun h => ?_)
            · refine lv_iconst (v := 0) C0.1 C0.2.1 d_Face_init_59 (by decide) ?_
              exact kJ_7 _ ls (x_sub hl [1, 2, 3, 4, 5, 0] rfl) h
            · refine lv_iconst (v := 1) C0.1 C0.2.1 d_Face_init_55 (by decide) ?_
              refine x_goto C0 60 d_Face_init_56 (by decide) ?_
              exact kJ_7 _ ls (x_sub hl [1, 2, 3, 4, 5, 0] rfl) h
      refine x_icmp_ne C0 38 d_Face_init_31 (by decide) h (fun h => ?_) (fun h => ?_)
      · refine lv_iconst (v := 0) C0.1 C0.2.1 d_Face_init_38 (by decide) ?_
        exact kJ_5 _ ls (x_sub hl [0, 1, 2, 3, 4] rfl) h
      · refine lv_iconst (v := 1) C0.1 C0.2.1 d_Face_init_34 (by decide) ?_
        refine x_goto C0 39 d_Face_init_35 (by decide) ?_
        exact kJ_5 _ ls (x_sub hl [0, 1, 2, 3, 4] rfl) h
def f_Face_init (w : Mp) (sz : Nat) (h0 : Nat) (x1 : Int32) (r2 : Option Nat) (x3 : Int32) : Option (Unit × Mp × Nat) := (pF w (some h0) 3 0 (.int x1)).bind fun w_1 => (xnR w_1 sz 3 8 x3).bind fun w_2 => (pF w_2 (some h0) 3 1 (va_rf (some sz))).bind fun w_3 => (f_Face_init_L20 h0 x1 r2 x3 9 (0 : Int32) w_3 (sz + 1)).bind fun q_16 => some ((), q_16.2.2.1, q_16.2.2.2)
set_option maxHeartbeats 4000000 in
set_option maxRecDepth 100000 in
theorem c_Face_init (l : Launch) (G : Gx) (w : Mp) (sz : Nat) (h0 : Nat) (x1 : Int32) (r2 : Option Nat) (x3 : Int32) (res : Unit × Mp × Nat) (hf : f_Face_init w sz h0 x1 r2 x3 = some res) : Met l y_Face_init (xws y_Face_init b_Face_init 8 none) { frames := 2, cells := 10, slots := 53, locals := 47 } (xPc G vwCl xaty w sz [va_rf (some h0), .int x1, va_rf r2, .int x3]) (xQ G vwCl (none) res.2.1 res.2.2) (10) (53) (xA G) := by
  refine Met.ofW (cc := b_Face_init) (maxL := 8) (ret := none) (by decide) rfl ?_
  intro p e s m args below meth c s₁ B hml hv
  obtain ⟨ha, hE, hH, hz⟩ := hv
  have C0 : CallFix p m c b_Face_init 8 s args wA R_Face := ⟨B.exec, B.bytes, hml, findClass_of_methodNamed B.named, fun w hw => atoms_spec (ws := xws y_Face_init b_Face_init 8 none) B.pre w (List.mem_cons_of_mem _ hw)⟩
  have hr := B.returns
  have hlocks := B.notSynchronized
  have hin : meth.name = "<init>" := (name_of_methodNamed B.named B.method).1
  obtain ⟨R, hR⟩ : ∃ R, R = (headSpec (xws y_Face_init b_Face_init 8 none) { frames := 2, cells := 10, slots := 53, locals := 47 }).room := ⟨_, rfl⟩
  have hR1 : 2 ≤ R.frames := by rw [hR]; exact Nat.le_of_ble_eq_true rfl
  have hR2 : 47 ≤ R.locals := by rw [hR]; exact Nat.le_of_ble_eq_true rfl
  have hR3 : 10 ≤ R.cells := by rw [hR]; exact Nat.le_refl _
  have hR4 : 53 ≤ R.slots := by rw [hR]; exact Nat.le_refl _
  rw [← hR]
  obtain ⟨Q, hQ⟩ : ∃ Q, Q = MQ below (xQ G vwCl (none) res.2.1 res.2.2) args s (10) (53) (xA G) := ⟨_, rfl⟩
  rw [← hQ]
  have hS : xS G s s.heap [] := va_S.rf
  obtain ⟨ls, he, hl⟩ := x_entry m [.inr (.inl (some h0)), .inl x1, .inr (.inl r2), .inl x3] 8 (Nat.le_of_ble_eq_true rfl)
  rw [show entryFrame m args 8 = F0 m 0 ls [] by rw [ha]; exact he]
  have hl : xL ls 8 [(0, .inr (.inl (some h0))), (1, .inl x1), (2, .inr (.inl r2)), (3, .inl x3)] := hl
  have h := hf
  unfold f_Face_init at h
  suffices hmain : ∀ (H : Heap) (locs : List Loc), xhd G vwCl w H → xS G s H locs → H.size = sz → (H = s.heap ∧ locs = []) → W p l e R s m args below meth c H locs 0 0 Q (F0 m 0 ls []) from hmain _ _ hH hS hz ⟨rfl, rfl⟩
  clear hH hS hz
  intro H locs hH hS hz hP0
  refine x_aload_n C0 hl 0 d_Face_init_0 rfl rfl ?_
  refine x_obj C0 hl kw_2_96 kw_1_30 kw_1_31 d_Face_init_1 (Nat.le_trans (by decide) hR1) (Nat.le_trans (by first | exact Nat.le_of_ble_eq_true rfl | simp only [List.map_cons, List.map_nil, List.sum_cons, List.sum_nil, va_rf_cat, x_catI, x_catL, x_catA] <;> decide) hR2) ?_
  refine x_aload_n C0 hl 0 d_Face_init_4 rfl rfl ?_
  refine x_iload_n C0 hl 1 d_Face_init_5 rfl rfl ?_
  refine x_putF C0 hE hH hS hin (ci := 3) rfl i_Face t_Face t_Face_ok n_Face 0 (by decide) kw_2_128 rfl rfl rfl rfl d_Face_init_6 h (fun w_1 H locs hH hS hz9 h => ?_)
  have hz := hz9.trans hz
  refine x_aload_n C0 hl 0 d_Face_init_9 rfl rfl ?_
  refine x_iload_n C0 hl 3 d_Face_init_10 rfl rfl ?_
  refine x_newr C0 hE hH hS hz (t := 3) (lim := 8) rfl kw_2_97 (hE.2.2.2.2.2.2.2 _ (List.mem_of_getElem? (i := 2) rfl)) (Nat.le_trans (by omega) hR3) (Nat.le_trans (by omega) hR4) d_Face_init_11 h (fun w_2 H hH hS hz h => ?_)
  refine W.widen (k := 1) (n := 8) (by omega) (by omega) ?_
  refine x_putF C0 hE hH hS hin (ci := 3) rfl i_Face t_Face t_Face_ok n_Face 1 (by decide) kw_2_130 rfl rfl (x_narR _ _) (x_fitR (Or.inr ⟨_, rfl⟩) _) d_Face_init_14 h (fun w_3 H locs hH hS hz9 h => ?_)
  have hz := hz9.trans hz
  refine lv_iconst (v := 0) C0.1 C0.2.1 d_Face_init_17 (by decide) ?_
  refine x_istore (lv' := [(4, .inl (0 : Int32)), (0, .inr (.inl (some h0))), (1, .inl x1), (2, .inr (.inl r2)), (3, .inl x3)]) C0 hl d_Face_init_18 (by decide) rfl (fun ls hl => ?_)
  obtain ⟨q_16, e9, h⟩ := Option.bind_eq_some_iff.mp h
  refine W.widen (k := 1 + (9 - 9) * 1) (n := 8 + (9 - 9) * 5) (by omega) (by omega) ?_
  refine w_Face_init_L20 C0 hE hR1 hR2 (Nat.le_trans (by omega) hR3) (Nat.le_trans (by omega) hR4) 9 _ _ _ _ _ (Nat.le_refl _) q_16 ls hH hS hz (x_sub hl [1, 2, 3, 4, 0] rfl) e9 (fun H locs ls hH hS hz hl => ?_)
  refine W.widen (k := 10) (n := 53) (by omega) (by omega) ?_
  cases h
  rw [hQ]
  refine W.widen (k := 10) (n := 53) (by omega) (by omega) ?_
  exact x_vret C0 hr hlocks hH hS hz d_Face_init_126
theorem d_Leaf_init_0 : decode b_Leaf_init 0 = .ok (.aload_n 0, 1) := by decide +kernel
theorem d_Leaf_init_1 : decode b_Leaf_init 1 = .ok (.invokespecial 3, 3) := by decide +kernel
theorem d_Leaf_init_4 : decode b_Leaf_init 4 = .ok (.aload_n 0, 1) := by decide +kernel
theorem d_Leaf_init_5 : decode b_Leaf_init 5 = .ok (.iconst 0, 1) := by decide +kernel
theorem d_Leaf_init_6 : decode b_Leaf_init 6 = .ok (.putfield 9, 3) := by decide +kernel
theorem d_Leaf_init_9 : decode b_Leaf_init 9 = .ok (.aload_n 0, 1) := by decide +kernel
theorem d_Leaf_init_10 : decode b_Leaf_init 10 = .ok (.iconst 0, 1) := by decide +kernel
theorem d_Leaf_init_11 : decode b_Leaf_init 11 = .ok (.putfield 15, 3) := by decide +kernel
theorem d_Leaf_init_14 : decode b_Leaf_init 14 = .ok (.aload_n 0, 1) := by decide +kernel
theorem d_Leaf_init_15 : decode b_Leaf_init 15 = .ok (.iload_n 1, 1) := by decide +kernel
theorem d_Leaf_init_16 : decode b_Leaf_init 16 = .ok (.putfield 19, 3) := by decide +kernel
theorem d_Leaf_init_19 : decode b_Leaf_init 19 = .ok (.aload_n 0, 1) := by decide +kernel
theorem d_Leaf_init_20 : decode b_Leaf_init 20 = .ok (.iload_n 2, 1) := by decide +kernel
theorem d_Leaf_init_21 : decode b_Leaf_init 21 = .ok (.putfield 22, 3) := by decide +kernel
theorem d_Leaf_init_24 : decode b_Leaf_init 24 = .ok (.aload_n 0, 1) := by decide +kernel
theorem d_Leaf_init_25 : decode b_Leaf_init 25 = .ok (.iload_n 3, 1) := by decide +kernel
theorem d_Leaf_init_26 : decode b_Leaf_init 26 = .ok (.putfield 25, 3) := by decide +kernel
theorem d_Leaf_init_29 : decode b_Leaf_init 29 = .ok (.aload_n 0, 1) := by decide +kernel
theorem d_Leaf_init_30 : decode b_Leaf_init 30 = .ok (.iload 4, 2) := by decide +kernel
theorem d_Leaf_init_32 : decode b_Leaf_init 32 = .ok (.putfield 28, 3) := by decide +kernel
theorem d_Leaf_init_35 : decode b_Leaf_init 35 = .ok (.aload_n 0, 1) := by decide +kernel
theorem d_Leaf_init_36 : decode b_Leaf_init 36 = .ok (.iload 5, 2) := by decide +kernel
theorem d_Leaf_init_38 : decode b_Leaf_init 38 = .ok (.putfield 31, 3) := by decide +kernel
theorem d_Leaf_init_41 : decode b_Leaf_init 41 = .ok (.aload_n 0, 1) := by decide +kernel
theorem d_Leaf_init_42 : decode b_Leaf_init 42 = .ok (.iload 4, 2) := by decide +kernel
theorem d_Leaf_init_44 : decode b_Leaf_init 44 = .ok (.iload 5, 2) := by decide +kernel
theorem d_Leaf_init_46 : decode b_Leaf_init 46 = .ok (.imul, 1) := by decide +kernel
theorem d_Leaf_init_47 : decode b_Leaf_init 47 = .ok (.newarray .int, 2) := by decide +kernel
theorem d_Leaf_init_49 : decode b_Leaf_init 49 = .ok (.putfield 34, 3) := by decide +kernel
theorem d_Leaf_init_52 : decode b_Leaf_init 52 = .ok (.return_, 1) := by decide +kernel
def f_Leaf_init (w : Mp) (sz : Nat) (h0 : Nat) (x1 : Int32) (x2 : Int32) (x3 : Int32) (x4 : Int32) (x5 : Int32) : Option (Unit × Mp × Nat) := (pF w (some h0) 1 6 (.int (0 : Int32))).bind fun w_1 => (pF w_1 (some h0) 1 7 (.int (0 : Int32))).bind fun w_2 => (pF w_2 (some h0) 1 0 (.int x1)).bind fun w_3 => (pF w_3 (some h0) 1 1 (.int x2)).bind fun w_4 => (pF w_4 (some h0) 1 2 (.int x3)).bind fun w_5 => (pF w_5 (some h0) 1 3 (.int x4)).bind fun w_6 => (pF w_6 (some h0) 1 4 (.int x5)).bind fun w_7 => (xnI w_7 sz 0 144 (x4 * x5)).bind fun w_8 => (pF w_8 (some h0) 1 5 (va_rf (some sz))).bind fun w_9 => some ((), w_9, sz + 1)
set_option maxHeartbeats 4000000 in
set_option maxRecDepth 100000 in
theorem c_Leaf_init (l : Launch) (G : Gx) (w : Mp) (sz : Nat) (h0 : Nat) (x1 : Int32) (x2 : Int32) (x3 : Int32) (x4 : Int32) (x5 : Int32) (res : Unit × Mp × Nat) (hf : f_Leaf_init w sz h0 x1 x2 x3 x4 x5 = some res) : Met l y_Leaf_init (xws y_Leaf_init b_Leaf_init 6 none) { frames := 1, cells := 1, slots := 144, locals := 24 } (xPc G vwCl xaty w sz [va_rf (some h0), .int x1, .int x2, .int x3, .int x4, .int x5]) (xQ G vwCl (none) res.2.1 res.2.2) (1) (144) (xA G) := by
  refine Met.ofW (cc := b_Leaf_init) (maxL := 6) (ret := none) (by decide) rfl ?_
  intro p e s m args below meth c s₁ B hml hv
  obtain ⟨ha, hE, hH, hz⟩ := hv
  have C0 : CallFix p m c b_Leaf_init 6 s args wA R_Leaf := ⟨B.exec, B.bytes, hml, findClass_of_methodNamed B.named, fun w hw => atoms_spec (ws := xws y_Leaf_init b_Leaf_init 6 none) B.pre w (List.mem_cons_of_mem _ hw)⟩
  have hr := B.returns
  have hlocks := B.notSynchronized
  have hin : meth.name = "<init>" := (name_of_methodNamed B.named B.method).1
  obtain ⟨R, hR⟩ : ∃ R, R = (headSpec (xws y_Leaf_init b_Leaf_init 6 none) { frames := 1, cells := 1, slots := 144, locals := 24 }).room := ⟨_, rfl⟩
  have hR1 : 1 ≤ R.frames := by rw [hR]; exact Nat.le_of_ble_eq_true rfl
  have hR2 : 24 ≤ R.locals := by rw [hR]; exact Nat.le_of_ble_eq_true rfl
  have hR3 : 1 ≤ R.cells := by rw [hR]; exact Nat.le_refl _
  have hR4 : 144 ≤ R.slots := by rw [hR]; exact Nat.le_refl _
  rw [← hR]
  obtain ⟨Q, hQ⟩ : ∃ Q, Q = MQ below (xQ G vwCl (none) res.2.1 res.2.2) args s (1) (144) (xA G) := ⟨_, rfl⟩
  rw [← hQ]
  have hS : xS G s s.heap [] := va_S.rf
  obtain ⟨ls, he, hl⟩ := x_entry m [.inr (.inl (some h0)), .inl x1, .inl x2, .inl x3, .inl x4, .inl x5] 6 (Nat.le_of_ble_eq_true rfl)
  rw [show entryFrame m args 6 = F0 m 0 ls [] by rw [ha]; exact he]
  have hl : xL ls 6 [(0, .inr (.inl (some h0))), (1, .inl x1), (2, .inl x2), (3, .inl x3), (4, .inl x4), (5, .inl x5)] := hl
  have h := hf
  unfold f_Leaf_init at h
  suffices hmain : ∀ (H : Heap) (locs : List Loc), xhd G vwCl w H → xS G s H locs → H.size = sz → (H = s.heap ∧ locs = []) → W p l e R s m args below meth c H locs 0 0 Q (F0 m 0 ls []) from hmain _ _ hH hS hz ⟨rfl, rfl⟩
  clear hH hS hz
  intro H locs hH hS hz hP0
  refine x_aload_n C0 hl 0 d_Leaf_init_0 rfl rfl ?_
  refine x_obj C0 hl kw_1_208 kw_1_30 kw_1_31 d_Leaf_init_1 (Nat.le_trans (by decide) hR1) (Nat.le_trans (by first | exact Nat.le_of_ble_eq_true rfl | simp only [List.map_cons, List.map_nil, List.sum_cons, List.sum_nil, va_rf_cat, x_catI, x_catL, x_catA] <;> decide) hR2) ?_
  refine x_aload_n C0 hl 0 d_Leaf_init_4 rfl rfl ?_
  refine lv_iconst (v := 0) C0.1 C0.2.1 d_Leaf_init_5 (by decide) ?_
  refine x_put C0 hE hH hS (ci := 1) rfl i_Leaf t_Leaf t_Leaf_ok n_Leaf 6 (by decide) kw_1_224 rfl rfl rfl d_Leaf_init_6 h (fun w_1 H locs hH hS hz9 h => ?_)
  have hz := hz9.trans hz
  refine x_aload_n C0 hl 0 d_Leaf_init_9 rfl rfl ?_
  refine lv_iconst (v := 0) C0.1 C0.2.1 d_Leaf_init_10 (by decide) ?_
  refine x_put C0 hE hH hS (ci := 1) rfl i_Leaf t_Leaf t_Leaf_ok n_Leaf 7 (by decide) kw_1_226 rfl rfl rfl d_Leaf_init_11 h (fun w_2 H locs hH hS hz9 h => ?_)
  have hz := hz9.trans hz
  refine x_aload_n C0 hl 0 d_Leaf_init_14 rfl rfl ?_
  refine x_iload_n C0 hl 1 d_Leaf_init_15 rfl rfl ?_
  refine x_putF C0 hE hH hS hin (ci := 1) rfl i_Leaf t_Leaf t_Leaf_ok n_Leaf 0 (by decide) kw_1_209 rfl rfl rfl rfl d_Leaf_init_16 h (fun w_3 H locs hH hS hz9 h => ?_)
  have hz := hz9.trans hz
  refine x_aload_n C0 hl 0 d_Leaf_init_19 rfl rfl ?_
  refine x_iload_n C0 hl 2 d_Leaf_init_20 rfl rfl ?_
  refine x_putF C0 hE hH hS hin (ci := 1) rfl i_Leaf t_Leaf t_Leaf_ok n_Leaf 1 (by decide) kw_1_212 rfl rfl rfl rfl d_Leaf_init_21 h (fun w_4 H locs hH hS hz9 h => ?_)
  have hz := hz9.trans hz
  refine x_aload_n C0 hl 0 d_Leaf_init_24 rfl rfl ?_
  refine x_iload_n C0 hl 3 d_Leaf_init_25 rfl rfl ?_
  refine x_putF C0 hE hH hS hin (ci := 1) rfl i_Leaf t_Leaf t_Leaf_ok n_Leaf 2 (by decide) kw_1_214 rfl rfl rfl rfl d_Leaf_init_26 h (fun w_5 H locs hH hS hz9 h => ?_)
  have hz := hz9.trans hz
  refine x_aload_n C0 hl 0 d_Leaf_init_29 rfl rfl ?_
  refine x_iload C0 hl 4 d_Leaf_init_30 rfl ?_
  refine x_putF C0 hE hH hS hin (ci := 1) rfl i_Leaf t_Leaf t_Leaf_ok n_Leaf 3 (by decide) kw_1_216 rfl rfl rfl rfl d_Leaf_init_32 h (fun w_6 H locs hH hS hz9 h => ?_)
  have hz := hz9.trans hz
  refine x_aload_n C0 hl 0 d_Leaf_init_35 rfl rfl ?_
  refine x_iload C0 hl 5 d_Leaf_init_36 rfl ?_
  refine x_putF C0 hE hH hS hin (ci := 1) rfl i_Leaf t_Leaf t_Leaf_ok n_Leaf 4 (by decide) kw_1_220 rfl rfl rfl rfl d_Leaf_init_38 h (fun w_7 H locs hH hS hz9 h => ?_)
  have hz := hz9.trans hz
  refine x_aload_n C0 hl 0 d_Leaf_init_41 rfl rfl ?_
  refine x_iload C0 hl 4 d_Leaf_init_42 rfl ?_
  refine x_iload C0 hl 5 d_Leaf_init_44 rfl ?_
  refine lv_imul C0.1 C0.2.1 d_Leaf_init_46 ?_
  refine x_newp C0 hE hH hS hz (t := 0) (lim := 144) rfl (Or.inl rfl) kw_1_74 (Nat.le_trans (by omega) hR3) (Nat.le_trans (by omega) hR4) d_Leaf_init_47 h (fun w_8 H hH hS hz h => ?_)
  refine W.widen (k := 1) (n := 144) (by omega) (by omega) ?_
  refine x_putF C0 hE hH hS hin (ci := 1) rfl i_Leaf t_Leaf t_Leaf_ok n_Leaf 5 (by decide) kw_1_223 rfl rfl (x_narR _ _) (x_fitR (Or.inr ⟨_, rfl⟩) _) d_Leaf_init_49 h (fun w_9 H locs hH hS hz9 h => ?_)
  have hz := hz9.trans hz
  cases h
  rw [hQ]
  refine W.widen (k := 1) (n := 144) (by omega) (by omega) ?_
  exact x_vret C0 hr hlocks hH hS hz d_Leaf_init_52
theorem d_Plan_init_0 : decode b_Plan_init 0 = .ok (.aload_n 0, 1) := by decide +kernel
theorem d_Plan_init_1 : decode b_Plan_init 1 = .ok (.invokespecial 3, 3) := by decide +kernel
theorem d_Plan_init_4 : decode b_Plan_init 4 = .ok (.aload_n 0, 1) := by decide +kernel
theorem d_Plan_init_5 : decode b_Plan_init 5 = .ok (.bipush 8, 2) := by decide +kernel
theorem d_Plan_init_7 : decode b_Plan_init 7 = .ok (.newarray .int, 2) := by decide +kernel
theorem d_Plan_init_9 : decode b_Plan_init 9 = .ok (.putfield 9, 3) := by decide +kernel
theorem d_Plan_init_12 : decode b_Plan_init 12 = .ok (.aload_n 0, 1) := by decide +kernel
theorem d_Plan_init_13 : decode b_Plan_init 13 = .ok (.iconst 0, 1) := by decide +kernel
theorem d_Plan_init_14 : decode b_Plan_init 14 = .ok (.putfield 15, 3) := by decide +kernel
theorem d_Plan_init_17 : decode b_Plan_init 17 = .ok (.aload_n 0, 1) := by decide +kernel
theorem d_Plan_init_18 : decode b_Plan_init 18 = .ok (.iconst 0, 1) := by decide +kernel
theorem d_Plan_init_19 : decode b_Plan_init 19 = .ok (.putfield 19, 3) := by decide +kernel
theorem d_Plan_init_22 : decode b_Plan_init 22 = .ok (.aload_n 0, 1) := by decide +kernel
theorem d_Plan_init_23 : decode b_Plan_init 23 = .ok (.bipush 8, 2) := by decide +kernel
theorem d_Plan_init_25 : decode b_Plan_init 25 = .ok (.newarray .int, 2) := by decide +kernel
theorem d_Plan_init_27 : decode b_Plan_init 27 = .ok (.putfield 23, 3) := by decide +kernel
theorem d_Plan_init_30 : decode b_Plan_init 30 = .ok (.aload_n 0, 1) := by decide +kernel
theorem d_Plan_init_31 : decode b_Plan_init 31 = .ok (.bipush 8, 2) := by decide +kernel
theorem d_Plan_init_33 : decode b_Plan_init 33 = .ok (.newarray .int, 2) := by decide +kernel
theorem d_Plan_init_35 : decode b_Plan_init 35 = .ok (.putfield 26, 3) := by decide +kernel
theorem d_Plan_init_38 : decode b_Plan_init 38 = .ok (.aload_n 0, 1) := by decide +kernel
theorem d_Plan_init_39 : decode b_Plan_init 39 = .ok (.iconst 0, 1) := by decide +kernel
theorem d_Plan_init_40 : decode b_Plan_init 40 = .ok (.newarray .int, 2) := by decide +kernel
theorem d_Plan_init_42 : decode b_Plan_init 42 = .ok (.putfield 29, 3) := by decide +kernel
theorem d_Plan_init_45 : decode b_Plan_init 45 = .ok (.aload_n 0, 1) := by decide +kernel
theorem d_Plan_init_46 : decode b_Plan_init 46 = .ok (.iconst 0, 1) := by decide +kernel
theorem d_Plan_init_47 : decode b_Plan_init 47 = .ok (.newarray .int, 2) := by decide +kernel
theorem d_Plan_init_49 : decode b_Plan_init 49 = .ok (.putfield 32, 3) := by decide +kernel
theorem d_Plan_init_52 : decode b_Plan_init 52 = .ok (.aload_n 0, 1) := by decide +kernel
theorem d_Plan_init_53 : decode b_Plan_init 53 = .ok (.iconst 0, 1) := by decide +kernel
theorem d_Plan_init_54 : decode b_Plan_init 54 = .ok (.newarray .int, 2) := by decide +kernel
theorem d_Plan_init_56 : decode b_Plan_init 56 = .ok (.putfield 35, 3) := by decide +kernel
theorem d_Plan_init_59 : decode b_Plan_init 59 = .ok (.aload_n 0, 1) := by decide +kernel
theorem d_Plan_init_60 : decode b_Plan_init 60 = .ok (.iconst 1, 1) := by decide +kernel
theorem d_Plan_init_61 : decode b_Plan_init 61 = .ok (.putfield 38, 3) := by decide +kernel
theorem d_Plan_init_64 : decode b_Plan_init 64 = .ok (.return_, 1) := by decide +kernel
def f_Plan_init (w : Mp) (sz : Nat) (h0 : Nat) : Option (Unit × Mp × Nat) := (xnI w sz 0 8 (8 : Int32)).bind fun w_1 => (pF w_1 (some h0) 4 0 (va_rf (some sz))).bind fun w_2 => (pF w_2 (some h0) 4 1 (.int (0 : Int32))).bind fun w_3 => (pF w_3 (some h0) 4 2 (.int (0 : Int32))).bind fun w_4 => (xnI w_4 (sz + 1) 0 8 (8 : Int32)).bind fun w_5 => (pF w_5 (some h0) 4 3 (va_rf (some (sz + 1)))).bind fun w_6 => (xnI w_6 (sz + 2) 0 8 (8 : Int32)).bind fun w_7 => (pF w_7 (some h0) 4 4 (va_rf (some (sz + 2)))).bind fun w_8 => (xnI w_8 (sz + 3) 0 0 (0 : Int32)).bind fun w_9 => (pF w_9 (some h0) 4 5 (va_rf (some (sz + 3)))).bind fun w_10 => (xnI w_10 (sz + 4) 0 0 (0 : Int32)).bind fun w_11 => (pF w_11 (some h0) 4 6 (va_rf (some (sz + 4)))).bind fun w_12 => (xnI w_12 (sz + 5) 0 0 (0 : Int32)).bind fun w_13 => (pF w_13 (some h0) 4 7 (va_rf (some (sz + 5)))).bind fun w_14 => (pF w_14 (some h0) 4 8 (.int (1 : Int32))).bind fun w_15 => some ((), w_15, sz + 6)
set_option maxHeartbeats 4000000 in
set_option maxRecDepth 100000 in
theorem c_Plan_init (l : Launch) (G : Gx) (w : Mp) (sz : Nat) (h0 : Nat) (res : Unit × Mp × Nat) (hf : f_Plan_init w sz h0 = some res) : Met l y_Plan_init (xws y_Plan_init b_Plan_init 1 none) { frames := 1, cells := 6, slots := 24, locals := 24 } (xPc G vwCl xaty w sz [va_rf (some h0)]) (xQ G vwCl (none) res.2.1 res.2.2) (6) (24) (xA G) := by
  refine Met.ofW (cc := b_Plan_init) (maxL := 1) (ret := none) (by decide) rfl ?_
  intro p e s m args below meth c s₁ B hml hv
  obtain ⟨ha, hE, hH, hz⟩ := hv
  have C0 : CallFix p m c b_Plan_init 1 s args wA R_Plan := ⟨B.exec, B.bytes, hml, findClass_of_methodNamed B.named, fun w hw => atoms_spec (ws := xws y_Plan_init b_Plan_init 1 none) B.pre w (List.mem_cons_of_mem _ hw)⟩
  have hr := B.returns
  have hlocks := B.notSynchronized
  have hin : meth.name = "<init>" := (name_of_methodNamed B.named B.method).1
  obtain ⟨R, hR⟩ : ∃ R, R = (headSpec (xws y_Plan_init b_Plan_init 1 none) { frames := 1, cells := 6, slots := 24, locals := 24 }).room := ⟨_, rfl⟩
  have hR1 : 1 ≤ R.frames := by rw [hR]; exact Nat.le_of_ble_eq_true rfl
  have hR2 : 24 ≤ R.locals := by rw [hR]; exact Nat.le_of_ble_eq_true rfl
  have hR3 : 6 ≤ R.cells := by rw [hR]; exact Nat.le_refl _
  have hR4 : 24 ≤ R.slots := by rw [hR]; exact Nat.le_refl _
  rw [← hR]
  obtain ⟨Q, hQ⟩ : ∃ Q, Q = MQ below (xQ G vwCl (none) res.2.1 res.2.2) args s (6) (24) (xA G) := ⟨_, rfl⟩
  rw [← hQ]
  have hS : xS G s s.heap [] := va_S.rf
  obtain ⟨ls, he, hl⟩ := x_entry m [.inr (.inl (some h0))] 1 (Nat.le_of_ble_eq_true rfl)
  rw [show entryFrame m args 1 = F0 m 0 ls [] by rw [ha]; exact he]
  have hl : xL ls 1 [(0, .inr (.inl (some h0)))] := hl
  have h := hf
  unfold f_Plan_init at h
  suffices hmain : ∀ (H : Heap) (locs : List Loc), xhd G vwCl w H → xS G s H locs → H.size = sz → (H = s.heap ∧ locs = []) → W p l e R s m args below meth c H locs 0 0 Q (F0 m 0 ls []) from hmain _ _ hH hS hz ⟨rfl, rfl⟩
  clear hH hS hz
  intro H locs hH hS hz hP0
  refine x_aload_n C0 hl 0 d_Plan_init_0 rfl rfl ?_
  refine x_obj C0 hl kw_1_41 kw_1_30 kw_1_31 d_Plan_init_1 (Nat.le_trans (by decide) hR1) (Nat.le_trans (by first | exact Nat.le_of_ble_eq_true rfl | simp only [List.map_cons, List.map_nil, List.sum_cons, List.sum_nil, va_rf_cat, x_catI, x_catL, x_catA] <;> decide) hR2) ?_
  refine x_aload_n C0 hl 0 d_Plan_init_4 rfl rfl ?_
  refine lv_bipush (v := 8) C0.1 C0.2.1 d_Plan_init_5 (by decide) ?_
  refine x_newp C0 hE hH hS hz (t := 0) (lim := 8) rfl (Or.inl rfl) kw_1_74 (Nat.le_trans (by omega) hR3) (Nat.le_trans (by omega) hR4) d_Plan_init_7 h (fun w_1 H hH hS hz h => ?_)
  refine W.widen (k := 1) (n := 8) (by omega) (by omega) ?_
  refine x_putF C0 hE hH hS hin (ci := 4) rfl i_Plan t_Plan t_Plan_ok n_Plan 0 (by decide) kw_1_42 rfl rfl (x_narR _ _) (x_fitR (Or.inr ⟨_, rfl⟩) _) d_Plan_init_9 h (fun w_2 H locs hH hS hz9 h => ?_)
  have hz := hz9.trans hz
  refine x_aload_n C0 hl 0 d_Plan_init_12 rfl rfl ?_
  refine lv_iconst (v := 0) C0.1 C0.2.1 d_Plan_init_13 (by decide) ?_
  refine x_put C0 hE hH hS (ci := 4) rfl i_Plan t_Plan t_Plan_ok n_Plan 1 (by decide) kw_1_43 rfl rfl rfl d_Plan_init_14 h (fun w_3 H locs hH hS hz9 h => ?_)
  have hz := hz9.trans hz
  refine x_aload_n C0 hl 0 d_Plan_init_17 rfl rfl ?_
  refine lv_iconst (v := 0) C0.1 C0.2.1 d_Plan_init_18 (by decide) ?_
  refine x_put C0 hE hH hS (ci := 4) rfl i_Plan t_Plan t_Plan_ok n_Plan 2 (by decide) kw_1_45 rfl rfl rfl d_Plan_init_19 h (fun w_4 H locs hH hS hz9 h => ?_)
  have hz := hz9.trans hz
  refine x_aload_n C0 hl 0 d_Plan_init_22 rfl rfl ?_
  refine lv_bipush (v := 8) C0.1 C0.2.1 d_Plan_init_23 (by decide) ?_
  refine x_newp C0 hE hH hS hz (t := 0) (lim := 8) rfl (Or.inl rfl) kw_1_74 (Nat.le_trans (by omega) hR3) (Nat.le_trans (by omega) hR4) d_Plan_init_25 h (fun w_5 H hH hS hz h => ?_)
  refine W.widen (k := 2) (n := 16) (by omega) (by omega) ?_
  refine x_putF C0 hE hH hS hin (ci := 4) rfl i_Plan t_Plan t_Plan_ok n_Plan 3 (by decide) kw_1_47 rfl rfl (x_narR _ _) (x_fitR (Or.inr ⟨_, rfl⟩) _) d_Plan_init_27 h (fun w_6 H locs hH hS hz9 h => ?_)
  have hz := hz9.trans hz
  refine x_aload_n C0 hl 0 d_Plan_init_30 rfl rfl ?_
  refine lv_bipush (v := 8) C0.1 C0.2.1 d_Plan_init_31 (by decide) ?_
  refine x_newp C0 hE hH hS hz (t := 0) (lim := 8) rfl (Or.inl rfl) kw_1_74 (Nat.le_trans (by omega) hR3) (Nat.le_trans (by omega) hR4) d_Plan_init_33 h (fun w_7 H hH hS hz h => ?_)
  refine W.widen (k := 3) (n := 24) (by omega) (by omega) ?_
  refine x_putF C0 hE hH hS hin (ci := 4) rfl i_Plan t_Plan t_Plan_ok n_Plan 4 (by decide) kw_1_49 rfl rfl (x_narR _ _) (x_fitR (Or.inr ⟨_, rfl⟩) _) d_Plan_init_35 h (fun w_8 H locs hH hS hz9 h => ?_)
  have hz := hz9.trans hz
  refine x_aload_n C0 hl 0 d_Plan_init_38 rfl rfl ?_
  refine lv_iconst (v := 0) C0.1 C0.2.1 d_Plan_init_39 (by decide) ?_
  refine x_newp C0 hE hH hS hz (t := 0) (lim := 0) rfl (Or.inl rfl) kw_1_74 (Nat.le_trans (by omega) hR3) (Nat.le_trans (by omega) hR4) d_Plan_init_40 h (fun w_9 H hH hS hz h => ?_)
  refine W.widen (k := 4) (n := 24) (by omega) (by omega) ?_
  refine x_put C0 hE hH hS (ci := 4) rfl i_Plan t_Plan t_Plan_ok n_Plan 5 (by decide) kw_1_51 rfl (x_narR _ _) (x_fitR (Or.inr ⟨_, rfl⟩) _) d_Plan_init_42 h (fun w_10 H locs hH hS hz9 h => ?_)
  have hz := hz9.trans hz
  refine x_aload_n C0 hl 0 d_Plan_init_45 rfl rfl ?_
  refine lv_iconst (v := 0) C0.1 C0.2.1 d_Plan_init_46 (by decide) ?_
  refine x_newp C0 hE hH hS hz (t := 0) (lim := 0) rfl (Or.inl rfl) kw_1_74 (Nat.le_trans (by omega) hR3) (Nat.le_trans (by omega) hR4) d_Plan_init_47 h (fun w_11 H hH hS hz h => ?_)
  refine W.widen (k := 5) (n := 24) (by omega) (by omega) ?_
  refine x_put C0 hE hH hS (ci := 4) rfl i_Plan t_Plan t_Plan_ok n_Plan 6 (by decide) kw_1_52 rfl (x_narR _ _) (x_fitR (Or.inr ⟨_, rfl⟩) _) d_Plan_init_49 h (fun w_12 H locs hH hS hz9 h => ?_)
  have hz := hz9.trans hz
  refine x_aload_n C0 hl 0 d_Plan_init_52 rfl rfl ?_
  refine lv_iconst (v := 0) C0.1 C0.2.1 d_Plan_init_53 (by decide) ?_
  refine x_newp C0 hE hH hS hz (t := 0) (lim := 0) rfl (Or.inl rfl) kw_1_74 (Nat.le_trans (by omega) hR3) (Nat.le_trans (by omega) hR4) d_Plan_init_54 h (fun w_13 H hH hS hz h => ?_)
  refine W.widen (k := 6) (n := 24) (by omega) (by omega) ?_
  refine x_put C0 hE hH hS (ci := 4) rfl i_Plan t_Plan t_Plan_ok n_Plan 7 (by decide) kw_1_53 rfl (x_narR _ _) (x_fitR (Or.inr ⟨_, rfl⟩) _) d_Plan_init_56 h (fun w_14 H locs hH hS hz9 h => ?_)
  have hz := hz9.trans hz
  refine x_aload_n C0 hl 0 d_Plan_init_59 rfl rfl ?_
  refine lv_iconst (v := 1) C0.1 C0.2.1 d_Plan_init_60 (by decide) ?_
  refine x_put C0 hE hH hS (ci := 4) rfl i_Plan t_Plan t_Plan_ok n_Plan 8 (by decide) kw_1_54 rfl rfl rfl d_Plan_init_61 h (fun w_15 H locs hH hS hz9 h => ?_)
  have hz := hz9.trans hz
  cases h
  rw [hQ]
  refine W.widen (k := 6) (n := 24) (by omega) (by omega) ?_
  exact x_vret C0 hr hlocks hH hS hz d_Plan_init_64
theorem d_Plan_grown_0 : decode b_Plan_grown 0 = .ok (.aload_n 0, 1) := by decide +kernel
theorem d_Plan_grown_1 : decode b_Plan_grown 1 = .ok (.arraylength, 1) := by decide +kernel
theorem d_Plan_grown_2 : decode b_Plan_grown 2 = .ok (.iload_n 1, 1) := by decide +kernel
theorem d_Plan_grown_3 : decode b_Plan_grown 3 = .ok (.if_icmp .lt 7, 3) := by decide +kernel
theorem d_Plan_grown_6 : decode b_Plan_grown 6 = .ok (.aload_n 0, 1) := by decide +kernel
theorem d_Plan_grown_7 : decode b_Plan_grown 7 = .ok (.goto 13, 3) := by decide +kernel
theorem d_Plan_grown_10 : decode b_Plan_grown 10 = .ok (.iload_n 1, 1) := by decide +kernel
theorem d_Plan_grown_11 : decode b_Plan_grown 11 = .ok (.iconst 2, 1) := by decide +kernel
theorem d_Plan_grown_12 : decode b_Plan_grown 12 = .ok (.aload_n 0, 1) := by decide +kernel
theorem d_Plan_grown_13 : decode b_Plan_grown 13 = .ok (.arraylength, 1) := by decide +kernel
theorem d_Plan_grown_14 : decode b_Plan_grown 14 = .ok (.imul, 1) := by decide +kernel
theorem d_Plan_grown_15 : decode b_Plan_grown 15 = .ok (.invokestatic 60, 3) := by decide +kernel
theorem d_Plan_grown_18 : decode b_Plan_grown 18 = .ok (.newarray .int, 2) := by decide +kernel
theorem d_Plan_grown_20 : decode b_Plan_grown 20 = .ok (.areturn, 1) := by decide +kernel
def f_Plan_grown (k1 : Nat) (w : Mp) (sz : Nat) (r0 : Option Nat) (x1 : Int32) : Option (Option Nat × Mp × Nat) := (aL w r0 0).bind fun v_1 => if v_1 < x1 then ((aL w r0 0).bind fun v_2 => (xnI w sz 0 k1 (if x1 < ((2 : Int32) * v_2) then ((2 : Int32) * v_2) else x1)).bind fun w_3 => some ((some sz), w_3, sz + 1)) else (some (r0, w, sz))
set_option maxHeartbeats 4000000 in
set_option maxRecDepth 100000 in
theorem c_Plan_grown (l : Launch) (G : Gx) (k1 : Nat) (w : Mp) (sz : Nat) (r0 : Option Nat) (x1 : Int32) (res : Option Nat × Mp × Nat) (hf : f_Plan_grown k1 w sz r0 x1 = some res) : Met l y_Plan_grown (xws y_Plan_grown b_Plan_grown 2 (some (.array .int))) { frames := 1, cells := 1, slots := 0 + k1, locals := 24 } (xPc G vwCl xaty w sz [va_rf r0, .int x1]) (xQ G vwCl (some (va_rf res.1)) res.2.1 res.2.2) (1) (0 + k1) (xA G) := by
  refine Met.ofW (cc := b_Plan_grown) (maxL := 2) (ret := (some (.array .int))) (by decide) rfl ?_
  intro p e s m args below meth c s₁ B hml hv
  obtain ⟨ha, hE, hH, hz⟩ := hv
  have C0 : CallFix p m c b_Plan_grown 2 s args wA R_Plan := ⟨B.exec, B.bytes, hml, findClass_of_methodNamed B.named, fun w hw => atoms_spec (ws := xws y_Plan_grown b_Plan_grown 2 (some (.array .int))) B.pre w (List.mem_cons_of_mem _ hw)⟩
  have hr := B.returns
  have hlocks := B.notSynchronized
  obtain ⟨R, hR⟩ : ∃ R, R = (headSpec (xws y_Plan_grown b_Plan_grown 2 (some (.array .int))) { frames := 1, cells := 1, slots := 0 + k1, locals := 24 }).room := ⟨_, rfl⟩
  have hR1 : 1 ≤ R.frames := by rw [hR]; exact Nat.le_of_ble_eq_true rfl
  have hR2 : 24 ≤ R.locals := by rw [hR]; exact Nat.le_of_ble_eq_true rfl
  have hR3 : 1 ≤ R.cells := by rw [hR]; exact Nat.le_refl _
  have hR4 : 0 + k1 ≤ R.slots := by rw [hR]; exact Nat.le_refl _
  rw [← hR]
  obtain ⟨Q, hQ⟩ : ∃ Q, Q = MQ below (xQ G vwCl (some (va_rf res.1)) res.2.1 res.2.2) args s (1) (0 + k1) (xA G) := ⟨_, rfl⟩
  rw [← hQ]
  have hS : xS G s s.heap [] := va_S.rf
  obtain ⟨ls, he, hl⟩ := x_entry m [.inr (.inl r0), .inl x1] 2 (Nat.le_of_ble_eq_true rfl)
  rw [show entryFrame m args 2 = F0 m 0 ls [] by rw [ha]; exact he]
  have hl : xL ls 2 [(0, .inr (.inl r0)), (1, .inl x1)] := hl
  have h := hf
  unfold f_Plan_grown at h
  suffices hmain : ∀ (H : Heap) (locs : List Loc), xhd G vwCl w H → xS G s H locs → H.size = sz → (H = s.heap ∧ locs = []) → W p l e R s m args below meth c H locs 0 0 Q (F0 m 0 ls []) from hmain _ _ hH hS hz ⟨rfl, rfl⟩
  clear hH hS hz
  intro H locs hH hS hz hP0
  refine x_aload_n C0 hl 0 d_Plan_grown_0 rfl rfl ?_
  refine x_alen C0 hE hH (t := 0) rfl d_Plan_grown_1 h (fun v_1 h => ?_)
  refine x_iload_n C0 hl 1 d_Plan_grown_2 rfl rfl ?_
  refine x_icmp_lt C0 10 d_Plan_grown_3 (by decide) h (fun h => ?_) (fun h => ?_)
  · refine x_iload_n C0 hl 1 d_Plan_grown_10 rfl rfl ?_
    refine lv_iconst (v := 2) C0.1 C0.2.1 d_Plan_grown_11 (by decide) ?_
    refine x_aload_n C0 hl 0 d_Plan_grown_12 rfl rfl ?_
    refine x_alen C0 hE hH (t := 0) rfl d_Plan_grown_13 h (fun v_2 h => ?_)
    refine lv_imul C0.1 C0.2.1 d_Plan_grown_14 ?_
    refine va_mmax C0.1 C0.2.1 (C0.2.2.1.trans hl.1.symm) C0.2.2.2.1 (C0.2.2.2.2 _ kw_4_35) (C0.2.2.2.2 _ kw_2_231) (C0.2.2.2.2 _ kw_1_13) (C0.2.2.2.2 _ kw_2_232) (Nat.le_trans (by decide) hR1) (Nat.le_trans (by first | exact Nat.le_of_ble_eq_true rfl | simp only [List.map_cons, List.map_nil, List.sum_cons, List.sum_nil, va_rf_cat, x_catI, x_catL, x_catA] <;> decide) hR2) (Nat.le_trans (by omega) hR3) (Nat.le_trans (by omega) hR4) d_Plan_grown_15 ?_
    refine x_newp C0 hE hH hS hz (t := 0) (lim := k1) rfl (Or.inl rfl) kw_1_74 (Nat.le_trans (by omega) hR3) (Nat.le_trans (by omega) hR4) d_Plan_grown_18 h (fun w_3 H hH hS hz h => ?_)
    refine W.widen (k := 1) (n := 0 + k1) (by omega) (by omega) ?_
    cases h
    rw [hQ]
    refine W.widen (k := 1) (n := 0 + k1) (by omega) (by omega) ?_
    exact x_aret C0 hr (Or.inr ⟨_, rfl⟩) hlocks hH hS hz d_Plan_grown_20
  · refine x_aload_n C0 hl 0 d_Plan_grown_6 rfl rfl ?_
    refine x_goto C0 20 d_Plan_grown_7 (by decide) ?_
    cases h
    rw [hQ]
    refine W.widen (k := 1) (n := 0 + k1) (by omega) (by omega) ?_
    exact x_aret C0 hr (Or.inr ⟨_, rfl⟩) hlocks hH hS hz d_Plan_grown_20
theorem d_Plan_makeRoom_0 : decode b_Plan_makeRoom 0 = .ok (.aload_n 0, 1) := by decide +kernel
theorem d_Plan_makeRoom_1 : decode b_Plan_makeRoom 1 = .ok (.aload_n 0, 1) := by decide +kernel
theorem d_Plan_makeRoom_2 : decode b_Plan_makeRoom 2 = .ok (.getfield 29, 3) := by decide +kernel
theorem d_Plan_makeRoom_5 : decode b_Plan_makeRoom 5 = .ok (.iload_n 1, 1) := by decide +kernel
theorem d_Plan_makeRoom_6 : decode b_Plan_makeRoom 6 = .ok (.bipush 8, 2) := by decide +kernel
theorem d_Plan_makeRoom_8 : decode b_Plan_makeRoom 8 = .ok (.imul, 1) := by decide +kernel
theorem d_Plan_makeRoom_9 : decode b_Plan_makeRoom 9 = .ok (.invokestatic 56, 3) := by decide +kernel
theorem d_Plan_makeRoom_12 : decode b_Plan_makeRoom 12 = .ok (.putfield 29, 3) := by decide +kernel
theorem d_Plan_makeRoom_15 : decode b_Plan_makeRoom 15 = .ok (.aload_n 0, 1) := by decide +kernel
theorem d_Plan_makeRoom_16 : decode b_Plan_makeRoom 16 = .ok (.aload_n 0, 1) := by decide +kernel
theorem d_Plan_makeRoom_17 : decode b_Plan_makeRoom 17 = .ok (.getfield 32, 3) := by decide +kernel
theorem d_Plan_makeRoom_20 : decode b_Plan_makeRoom 20 = .ok (.iload_n 1, 1) := by decide +kernel
theorem d_Plan_makeRoom_21 : decode b_Plan_makeRoom 21 = .ok (.bipush 8, 2) := by decide +kernel
theorem d_Plan_makeRoom_23 : decode b_Plan_makeRoom 23 = .ok (.imul, 1) := by decide +kernel
theorem d_Plan_makeRoom_24 : decode b_Plan_makeRoom 24 = .ok (.invokestatic 56, 3) := by decide +kernel
theorem d_Plan_makeRoom_27 : decode b_Plan_makeRoom 27 = .ok (.putfield 32, 3) := by decide +kernel
theorem d_Plan_makeRoom_30 : decode b_Plan_makeRoom 30 = .ok (.aload_n 0, 1) := by decide +kernel
theorem d_Plan_makeRoom_31 : decode b_Plan_makeRoom 31 = .ok (.aload_n 0, 1) := by decide +kernel
theorem d_Plan_makeRoom_32 : decode b_Plan_makeRoom 32 = .ok (.getfield 35, 3) := by decide +kernel
theorem d_Plan_makeRoom_35 : decode b_Plan_makeRoom 35 = .ok (.iload_n 1, 1) := by decide +kernel
theorem d_Plan_makeRoom_36 : decode b_Plan_makeRoom 36 = .ok (.iconst 1, 1) := by decide +kernel
theorem d_Plan_makeRoom_37 : decode b_Plan_makeRoom 37 = .ok (.iadd, 1) := by decide +kernel
theorem d_Plan_makeRoom_38 : decode b_Plan_makeRoom 38 = .ok (.aload_n 0, 1) := by decide +kernel
theorem d_Plan_makeRoom_39 : decode b_Plan_makeRoom 39 = .ok (.getfield 38, 3) := by decide +kernel
theorem d_Plan_makeRoom_42 : decode b_Plan_makeRoom 42 = .ok (.imul, 1) := by decide +kernel
theorem d_Plan_makeRoom_43 : decode b_Plan_makeRoom 43 = .ok (.invokestatic 56, 3) := by decide +kernel
theorem d_Plan_makeRoom_46 : decode b_Plan_makeRoom 46 = .ok (.putfield 35, 3) := by decide +kernel
theorem d_Plan_makeRoom_49 : decode b_Plan_makeRoom 49 = .ok (.return_, 1) := by decide +kernel
def f_Plan_makeRoom (k1 : Nat) (k2 : Nat) (k3 : Nat) (w : Mp) (sz : Nat) (h0 : Nat) (x1 : Int32) : Option (Unit × Mp × Nat) := (gR w (some h0) 4 5).bind fun v_1 => (f_Plan_grown k1 w sz v_1 (x1 * (8 : Int32))).bind fun q_2 => (pF q_2.2.1 (some h0) 4 5 (va_rf q_2.1)).bind fun w_3 => (gR w_3 (some h0) 4 6).bind fun v_4 => (f_Plan_grown k2 w_3 q_2.2.2 v_4 (x1 * (8 : Int32))).bind fun q_5 => (pF q_5.2.1 (some h0) 4 6 (va_rf q_5.1)).bind fun w_6 => (gR w_6 (some h0) 4 7).bind fun v_7 => (gI w_6 (some h0) 4 8).bind fun v_8 => (f_Plan_grown k3 w_6 q_5.2.2 v_7 ((x1 + (1 : Int32)) * v_8)).bind fun q_9 => (pF q_9.2.1 (some h0) 4 7 (va_rf q_9.1)).bind fun w_10 => some ((), w_10, q_9.2.2)
set_option maxHeartbeats 4000000 in
set_option maxRecDepth 100000 in
theorem c_Plan_makeRoom (l : Launch) (G : Gx) (k1 : Nat) (k2 : Nat) (k3 : Nat) (w : Mp) (sz : Nat) (h0 : Nat) (x1 : Int32) (res : Unit × Mp × Nat) (hf : f_Plan_makeRoom k1 k2 k3 w sz h0 x1 = some res) : Met l y_Plan_makeRoom (xws y_Plan_makeRoom b_Plan_makeRoom 2 none) { frames := 2, cells := 3, slots := 0 + k1 + k2 + k3, locals := 45 } (xPc G vwCl xaty w sz [va_rf (some h0), .int x1]) (xQ G vwCl (none) res.2.1 res.2.2) (3) (0 + k1 + k2 + k3) (xA G) := by
  refine Met.ofW (cc := b_Plan_makeRoom) (maxL := 2) (ret := none) (by decide) rfl ?_
  intro p e s m args below meth c s₁ B hml hv
  obtain ⟨ha, hE, hH, hz⟩ := hv
  have C0 : CallFix p m c b_Plan_makeRoom 2 s args wA R_Plan := ⟨B.exec, B.bytes, hml, findClass_of_methodNamed B.named, fun w hw => atoms_spec (ws := xws y_Plan_makeRoom b_Plan_makeRoom 2 none) B.pre w (List.mem_cons_of_mem _ hw)⟩
  have hr := B.returns
  have hlocks := B.notSynchronized
  obtain ⟨R, hR⟩ : ∃ R, R = (headSpec (xws y_Plan_makeRoom b_Plan_makeRoom 2 none) { frames := 2, cells := 3, slots := 0 + k1 + k2 + k3, locals := 45 }).room := ⟨_, rfl⟩
  have hR1 : 2 ≤ R.frames := by rw [hR]; exact Nat.le_of_ble_eq_true rfl
  have hR2 : 45 ≤ R.locals := by rw [hR]; exact Nat.le_of_ble_eq_true rfl
  have hR3 : 3 ≤ R.cells := by rw [hR]; exact Nat.le_refl _
  have hR4 : 0 + k1 + k2 + k3 ≤ R.slots := by rw [hR]; exact Nat.le_refl _
  rw [← hR]
  obtain ⟨Q, hQ⟩ : ∃ Q, Q = MQ below (xQ G vwCl (none) res.2.1 res.2.2) args s (3) (0 + k1 + k2 + k3) (xA G) := ⟨_, rfl⟩
  rw [← hQ]
  have hS : xS G s s.heap [] := va_S.rf
  obtain ⟨ls, he, hl⟩ := x_entry m [.inr (.inl (some h0)), .inl x1] 2 (Nat.le_of_ble_eq_true rfl)
  rw [show entryFrame m args 2 = F0 m 0 ls [] by rw [ha]; exact he]
  have hl : xL ls 2 [(0, .inr (.inl (some h0))), (1, .inl x1)] := hl
  have h := hf
  unfold f_Plan_makeRoom at h
  suffices hmain : ∀ (H : Heap) (locs : List Loc), xhd G vwCl w H → xS G s H locs → H.size = sz → (H = s.heap ∧ locs = []) → W p l e R s m args below meth c H locs 0 0 Q (F0 m 0 ls []) from hmain _ _ hH hS hz ⟨rfl, rfl⟩
  clear hH hS hz
  intro H locs hH hS hz hP0
  refine x_aload_n C0 hl 0 d_Plan_makeRoom_0 rfl rfl ?_
  refine x_aload_n C0 hl 0 d_Plan_makeRoom_1 rfl rfl ?_
  refine x_getR C0 hE hH (ci := 4) rfl i_Plan 5 (by decide) kw_1_51 d_Plan_makeRoom_2 h (fun v_1 h => ?_)
  refine x_iload_n C0 hl 1 d_Plan_makeRoom_5 rfl rfl ?_
  refine lv_bipush (v := 8) C0.1 C0.2.1 d_Plan_makeRoom_6 (by decide) ?_
  refine lv_imul C0.1 C0.2.1 d_Plan_makeRoom_8 ?_
  obtain ⟨q_2, e9, h⟩ := Option.bind_eq_some_iff.mp h
  have e9 := (show f_Plan_grown k1 w (Array.size H) v_1 (x1 * (8 : Int32)) = some q_2 by rw [hz]; exact e9)
  refine x_call hS (va_runS (As := [va_rf v_1, .int (x1 * (8 : Int32))]) (rest := [va_rf (some h0)]) C0 (c_Plan_grown l G k1 w _ v_1 (x1 * (8 : Int32)) q_2 e9) (x_cwS 2 C0 kw_4_32 kw_4_34 kw_1_2 kw_4_33 (by decide +kernel) (x_rm hR1 hR2 (Nat.le_of_ble_eq_true rfl) (Nat.le_of_ble_eq_true rfl))) (x_preS hE hH hS) rfl rfl hl.1 rfl (lv_room (by first | exact Nat.le_of_ble_eq_true rfl | simp only [List.map_cons, List.map_nil, List.sum_cons, List.sum_nil, va_rf_cat, x_catI, x_catL, x_catA] <;> decide)) d_Plan_makeRoom_9 ⟨Nat.le_trans (by omega) hR3, Nat.le_trans (by omega) hR4⟩) (fun H locs hH hS hz => ?_)
  refine W.widen (k := 1) (n := 0 + k1) (by omega) (by omega) ?_
  refine x_put C0 hE hH hS (ci := 4) rfl i_Plan t_Plan t_Plan_ok n_Plan 5 (by decide) kw_1_51 rfl (x_narR _ _) (x_fitR (Or.inr ⟨_, rfl⟩) _) d_Plan_makeRoom_12 h (fun w_3 H locs hH hS hz9 h => ?_)
  have hz := hz9.trans hz
  refine x_aload_n C0 hl 0 d_Plan_makeRoom_15 rfl rfl ?_
  refine x_aload_n C0 hl 0 d_Plan_makeRoom_16 rfl rfl ?_
  refine x_getR C0 hE hH (ci := 4) rfl i_Plan 6 (by decide) kw_1_52 d_Plan_makeRoom_17 h (fun v_4 h => ?_)
  refine x_iload_n C0 hl 1 d_Plan_makeRoom_20 rfl rfl ?_
  refine lv_bipush (v := 8) C0.1 C0.2.1 d_Plan_makeRoom_21 (by decide) ?_
  refine lv_imul C0.1 C0.2.1 d_Plan_makeRoom_23 ?_
  obtain ⟨q_5, e9, h⟩ := Option.bind_eq_some_iff.mp h
  have e9 := (show f_Plan_grown k2 w_3 (Array.size H) v_4 (x1 * (8 : Int32)) = some q_5 by rw [hz]; exact e9)
  refine x_call hS (va_runS (As := [va_rf v_4, .int (x1 * (8 : Int32))]) (rest := [va_rf (some h0)]) C0 (c_Plan_grown l G k2 w_3 _ v_4 (x1 * (8 : Int32)) q_5 e9) (x_cwS 2 C0 kw_4_32 kw_4_34 kw_1_2 kw_4_33 (by decide +kernel) (x_rm hR1 hR2 (Nat.le_of_ble_eq_true rfl) (Nat.le_of_ble_eq_true rfl))) (x_preS hE hH hS) rfl rfl hl.1 rfl (lv_room (by first | exact Nat.le_of_ble_eq_true rfl | simp only [List.map_cons, List.map_nil, List.sum_cons, List.sum_nil, va_rf_cat, x_catI, x_catL, x_catA] <;> decide)) d_Plan_makeRoom_24 ⟨Nat.le_trans (by omega) hR3, Nat.le_trans (by omega) hR4⟩) (fun H locs hH hS hz => ?_)
  refine W.widen (k := 2) (n := 0 + k1 + k2) (by omega) (by omega) ?_
  refine x_put C0 hE hH hS (ci := 4) rfl i_Plan t_Plan t_Plan_ok n_Plan 6 (by decide) kw_1_52 rfl (x_narR _ _) (x_fitR (Or.inr ⟨_, rfl⟩) _) d_Plan_makeRoom_27 h (fun w_6 H locs hH hS hz9 h => ?_)
  have hz := hz9.trans hz
  refine x_aload_n C0 hl 0 d_Plan_makeRoom_30 rfl rfl ?_
  refine x_aload_n C0 hl 0 d_Plan_makeRoom_31 rfl rfl ?_
  refine x_getR C0 hE hH (ci := 4) rfl i_Plan 7 (by decide) kw_1_53 d_Plan_makeRoom_32 h (fun v_7 h => ?_)
  refine x_iload_n C0 hl 1 d_Plan_makeRoom_35 rfl rfl ?_
  refine lv_iconst (v := 1) C0.1 C0.2.1 d_Plan_makeRoom_36 (by decide) ?_
  refine lv_iadd C0.1 C0.2.1 d_Plan_makeRoom_37 ?_
  refine x_aload_n C0 hl 0 d_Plan_makeRoom_38 rfl rfl ?_
  refine x_getI C0 hE hH (ci := 4) rfl i_Plan 8 (by decide) kw_1_54 d_Plan_makeRoom_39 h (fun v_8 h => ?_)
  refine lv_imul C0.1 C0.2.1 d_Plan_makeRoom_42 ?_
  obtain ⟨q_9, e9, h⟩ := Option.bind_eq_some_iff.mp h
  have e9 := (show f_Plan_grown k3 w_6 (Array.size H) v_7 ((x1 + (1 : Int32)) * v_8) = some q_9 by rw [hz]; exact e9)
  refine x_call hS (va_runS (As := [va_rf v_7, .int ((x1 + (1 : Int32)) * v_8)]) (rest := [va_rf (some h0)]) C0 (c_Plan_grown l G k3 w_6 _ v_7 ((x1 + (1 : Int32)) * v_8) q_9 e9) (x_cwS 2 C0 kw_4_32 kw_4_34 kw_1_2 kw_4_33 (by decide +kernel) (x_rm hR1 hR2 (Nat.le_of_ble_eq_true rfl) (Nat.le_of_ble_eq_true rfl))) (x_preS hE hH hS) rfl rfl hl.1 rfl (lv_room (by first | exact Nat.le_of_ble_eq_true rfl | simp only [List.map_cons, List.map_nil, List.sum_cons, List.sum_nil, va_rf_cat, x_catI, x_catL, x_catA] <;> decide)) d_Plan_makeRoom_43 ⟨Nat.le_trans (by omega) hR3, Nat.le_trans (by omega) hR4⟩) (fun H locs hH hS hz => ?_)
  refine W.widen (k := 3) (n := 0 + k1 + k2 + k3) (by omega) (by omega) ?_
  refine x_put C0 hE hH hS (ci := 4) rfl i_Plan t_Plan t_Plan_ok n_Plan 7 (by decide) kw_1_53 rfl (x_narR _ _) (x_fitR (Or.inr ⟨_, rfl⟩) _) d_Plan_makeRoom_46 h (fun w_10 H locs hH hS hz9 h => ?_)
  have hz := hz9.trans hz
  cases h
  rw [hQ]
  refine W.widen (k := 3) (n := 0 + k1 + k2 + k3) (by omega) (by omega) ?_
  exact x_vret C0 hr hlocks hH hS hz d_Plan_makeRoom_49
theorem d_Plan_planFrom_0 : decode b_Plan_planFrom 0 = .ok (.aload_n 0, 1) := by decide +kernel
theorem d_Plan_planFrom_1 : decode b_Plan_planFrom 1 = .ok (.iconst 1, 1) := by decide +kernel
theorem d_Plan_planFrom_2 : decode b_Plan_planFrom 2 = .ok (.aload_n 0, 1) := by decide +kernel
theorem d_Plan_planFrom_3 : decode b_Plan_planFrom 3 = .ok (.getfield 15, 3) := by decide +kernel
theorem d_Plan_planFrom_6 : decode b_Plan_planFrom 6 = .ok (.ishl, 1) := by decide +kernel
theorem d_Plan_planFrom_7 : decode b_Plan_planFrom 7 = .ok (.putfield 38, 3) := by decide +kernel
theorem d_Plan_planFrom_10 : decode b_Plan_planFrom 10 = .ok (.aload_n 0, 1) := by decide +kernel
theorem d_Plan_planFrom_11 : decode b_Plan_planFrom 11 = .ok (.iload_n 2, 1) := by decide +kernel
theorem d_Plan_planFrom_12 : decode b_Plan_planFrom 12 = .ok (.invokevirtual 41, 3) := by decide +kernel
theorem d_Plan_planFrom_15 : decode b_Plan_planFrom 15 = .ok (.aload_n 0, 1) := by decide +kernel
theorem d_Plan_planFrom_16 : decode b_Plan_planFrom 16 = .ok (.aload_n 1, 1) := by decide +kernel
theorem d_Plan_planFrom_17 : decode b_Plan_planFrom 17 = .ok (.iload_n 2, 1) := by decide +kernel
theorem d_Plan_planFrom_18 : decode b_Plan_planFrom 18 = .ok (.invokevirtual 45, 3) := by decide +kernel
theorem d_Plan_planFrom_21 : decode b_Plan_planFrom 21 = .ok (.aload_n 0, 1) := by decide +kernel
theorem d_Plan_planFrom_22 : decode b_Plan_planFrom 22 = .ok (.iload_n 2, 1) := by decide +kernel
theorem d_Plan_planFrom_23 : decode b_Plan_planFrom 23 = .ok (.invokevirtual 49, 3) := by decide +kernel
theorem d_Plan_planFrom_26 : decode b_Plan_planFrom 26 = .ok (.aload_n 0, 1) := by decide +kernel
theorem d_Plan_planFrom_27 : decode b_Plan_planFrom 27 = .ok (.getfield 35, 3) := by decide +kernel
theorem d_Plan_planFrom_30 : decode b_Plan_planFrom 30 = .ok (.iconst 0, 1) := by decide +kernel
theorem d_Plan_planFrom_31 : decode b_Plan_planFrom 31 = .ok (.iaload, 1) := by decide +kernel
theorem d_Plan_planFrom_32 : decode b_Plan_planFrom 32 = .ok (.istore_n 3, 1) := by decide +kernel
theorem d_Plan_planFrom_33 : decode b_Plan_planFrom 33 = .ok (.iload_n 3, 1) := by decide +kernel
theorem d_Plan_planFrom_34 : decode b_Plan_planFrom 34 = .ok (.ldc 52, 2) := by decide +kernel
theorem d_Plan_planFrom_36 : decode b_Plan_planFrom 36 = .ok (.if_icmp .lt 5, 3) := by decide +kernel
theorem d_Plan_planFrom_39 : decode b_Plan_planFrom 39 = .ok (.iconst (-1), 1) := by decide +kernel
theorem d_Plan_planFrom_40 : decode b_Plan_planFrom 40 = .ok (.ireturn, 1) := by decide +kernel
theorem d_Plan_planFrom_41 : decode b_Plan_planFrom 41 = .ok (.aload_n 0, 1) := by decide +kernel
theorem d_Plan_planFrom_42 : decode b_Plan_planFrom 42 = .ok (.aload_n 1, 1) := by decide +kernel
theorem d_Plan_planFrom_43 : decode b_Plan_planFrom 43 = .ok (.iload_n 2, 1) := by decide +kernel
theorem d_Plan_planFrom_44 : decode b_Plan_planFrom 44 = .ok (.invokevirtual 53, 3) := by decide +kernel
theorem d_Plan_planFrom_47 : decode b_Plan_planFrom 47 = .ok (.aload_n 0, 1) := by decide +kernel
theorem d_Plan_planFrom_48 : decode b_Plan_planFrom 48 = .ok (.iconst 1, 1) := by decide +kernel
theorem d_Plan_planFrom_49 : decode b_Plan_planFrom 49 = .ok (.putfield 19, 3) := by decide +kernel
theorem d_Plan_planFrom_52 : decode b_Plan_planFrom 52 = .ok (.iload_n 3, 1) := by decide +kernel
theorem d_Plan_planFrom_53 : decode b_Plan_planFrom 53 = .ok (.ireturn, 1) := by decide +kernel
def f_Plan_planFrom (k1 : Nat) (k2 : Nat) (k3 : Nat) (w : Mp) (sz : Nat) (h0 : Nat) (r1 : Option Nat) (x2 : Int32) : Option (Int32 × Mp × Nat) := (gI w (some h0) 4 1).bind fun v_1 => (pF w (some h0) 4 8 (.int ((1 : Int32) <<< (v_1 &&& 31)))).bind fun w_2 => (xo w_2 (some h0) 4).bind fun b_4 => (f_Plan_makeRoom k1 k2 k3 w_2 sz b_4 x2).bind fun q_3 => (xo q_3.2.1 (some h0) 4).bind fun b_6 => (f_Plan_findRows q_3.2.1 b_6 r1 x2).bind fun q_5 => (xo q_5.2 (some h0) 4).bind fun b_8 => (f_Plan_findLeastLoss q_5.2 b_8 x2).bind fun q_7 => (gR q_7.2 (some h0) 4 7).bind fun v_9 => (aI q_7.2 v_9 0 (0 : Int32)).bind fun v_10 => if v_10 < (1000000 : Int32) then ((xo q_7.2 (some h0) 4).bind fun b_12 => (f_Plan_keepPlan q_7.2 b_12 r1 x2).bind fun q_11 => (pF q_11.2 (some h0) 4 2 (.int (1 : Int32))).bind fun w_13 => some (v_10, w_13, q_3.2.2)) else (some ((-1 : Int32), q_7.2, q_3.2.2))
set_option maxHeartbeats 4000000 in
set_option maxRecDepth 100000 in
theorem c_Plan_planFrom (l : Launch) (G : Gx) (k1 : Nat) (k2 : Nat) (k3 : Nat) (w : Mp) (sz : Nat) (h0 : Nat) (r1 : Option Nat) (x2 : Int32) (res : Int32 × Mp × Nat) (hf : f_Plan_planFrom k1 k2 k3 w sz h0 r1 x2 = some res) : Met l y_Plan_planFrom (xws y_Plan_planFrom b_Plan_planFrom 4 (some .int)) { frames := 3, cells := 3, slots := 0 + k1 + k2 + k3, locals := 74 } (xPc G vwCl xaty w sz [va_rf (some h0), va_rf r1, .int x2]) (xQ G vwCl (some (.int res.1)) res.2.1 res.2.2) (3) (0 + k1 + k2 + k3) (xA G) := by
  refine Met.ofW (cc := b_Plan_planFrom) (maxL := 4) (ret := (some .int)) (by decide) rfl ?_
  intro p e s m args below meth c s₁ B hml hv
  obtain ⟨ha, hE, hH, hz⟩ := hv
  have C0 : CallFix p m c b_Plan_planFrom 4 s args wA R_Plan := ⟨B.exec, B.bytes, hml, findClass_of_methodNamed B.named, fun w hw => atoms_spec (ws := xws y_Plan_planFrom b_Plan_planFrom 4 (some .int)) B.pre w (List.mem_cons_of_mem _ hw)⟩
  have hr := B.returns
  have hlocks := B.notSynchronized
  obtain ⟨R, hR⟩ : ∃ R, R = (headSpec (xws y_Plan_planFrom b_Plan_planFrom 4 (some .int)) { frames := 3, cells := 3, slots := 0 + k1 + k2 + k3, locals := 74 }).room := ⟨_, rfl⟩
  have hR1 : 3 ≤ R.frames := by rw [hR]; exact Nat.le_of_ble_eq_true rfl
  have hR2 : 74 ≤ R.locals := by rw [hR]; exact Nat.le_of_ble_eq_true rfl
  have hR3 : 3 ≤ R.cells := by rw [hR]; exact Nat.le_refl _
  have hR4 : 0 + k1 + k2 + k3 ≤ R.slots := by rw [hR]; exact Nat.le_refl _
  rw [← hR]
  obtain ⟨Q, hQ⟩ : ∃ Q, Q = MQ below (xQ G vwCl (some (.int res.1)) res.2.1 res.2.2) args s (3) (0 + k1 + k2 + k3) (xA G) := ⟨_, rfl⟩
  rw [← hQ]
  have hS : xS G s s.heap [] := va_S.rf
  obtain ⟨ls, he, hl⟩ := x_entry m [.inr (.inl (some h0)), .inr (.inl r1), .inl x2] 4 (Nat.le_of_ble_eq_true rfl)
  rw [show entryFrame m args 4 = F0 m 0 ls [] by rw [ha]; exact he]
  have hl : xL ls 4 [(0, .inr (.inl (some h0))), (1, .inr (.inl r1)), (2, .inl x2)] := hl
  have h := hf
  unfold f_Plan_planFrom at h
  suffices hmain : ∀ (H : Heap) (locs : List Loc), xhd G vwCl w H → xS G s H locs → H.size = sz → (H = s.heap ∧ locs = []) → W p l e R s m args below meth c H locs 0 0 Q (F0 m 0 ls []) from hmain _ _ hH hS hz ⟨rfl, rfl⟩
  clear hH hS hz
  intro H locs hH hS hz hP0
  refine x_aload_n C0 hl 0 d_Plan_planFrom_0 rfl rfl ?_
  refine lv_iconst (v := 1) C0.1 C0.2.1 d_Plan_planFrom_1 (by decide) ?_
  refine x_aload_n C0 hl 0 d_Plan_planFrom_2 rfl rfl ?_
  refine x_getI C0 hE hH (ci := 4) rfl i_Plan 1 (by decide) kw_1_43 d_Plan_planFrom_3 h (fun v_1 h => ?_)
  refine lv_ishl C0.1 C0.2.1 d_Plan_planFrom_6 ?_
  refine x_put C0 hE hH hS (ci := 4) rfl i_Plan t_Plan t_Plan_ok n_Plan 8 (by decide) kw_1_54 rfl rfl rfl d_Plan_planFrom_7 h (fun w_2 H locs hH hS hz9 h => ?_)
  have hz := hz9.trans hz
  refine x_aload_n C0 hl 0 d_Plan_planFrom_10 rfl rfl ?_
  refine x_iload_n C0 hl 2 d_Plan_planFrom_11 rfl rfl ?_
  obtain ⟨b_4, e9, h⟩ := Option.bind_eq_some_iff.mp h
  obtain ⟨e8, fs9, hb9⟩ := xo_inv e9
  obtain ⟨q_3, e9, h⟩ := Option.bind_eq_some_iff.mp h
  have e9 := (show f_Plan_makeRoom k1 k2 k3 w_2 (Array.size H) b_4 x2 = some q_3 by rw [hz]; exact e9)
  refine x_call hS (va_runV (As := [.int x2]) (rest := []) C0 (c_Plan_makeRoom l G k1 k2 k3 w_2 _ b_4 x2 q_3 e9) (x_cwV 1 C0 kw_4_28 kw_4_31 kw_1_2 kw_4_30 kw_0_8 (by decide +kernel) (x_rm hR1 hR2 (Nat.le_of_ble_eq_true rfl) (Nat.le_of_ble_eq_true rfl))) (x_preV hE hH hS (ci := 4) rfl hb9) rfl rfl hl.1 (by rw [e8]; rfl) (lv_room (by first | exact Nat.le_of_ble_eq_true rfl | simp only [List.map_cons, List.map_nil, List.sum_cons, List.sum_nil, va_rf_cat, x_catI, x_catL, x_catA] <;> decide)) d_Plan_planFrom_12 ⟨Nat.le_trans (by omega) hR3, Nat.le_trans (by omega) hR4⟩) (fun H locs hH hS hz => ?_)
  refine W.widen (k := 3) (n := 0 + k1 + k2 + k3) (by omega) (by omega) ?_
  refine x_aload_n C0 hl 0 d_Plan_planFrom_15 rfl rfl ?_
  refine x_aload_n C0 hl 1 d_Plan_planFrom_16 rfl rfl ?_
  refine x_iload_n C0 hl 2 d_Plan_planFrom_17 rfl rfl ?_
  obtain ⟨b_6, e9, h⟩ := Option.bind_eq_some_iff.mp h
  obtain ⟨e8, fs9, hb9⟩ := xo_inv e9
  obtain ⟨q_5, e9, h⟩ := Option.bind_eq_some_iff.mp h
  refine x_call0 hS (va_runV (As := [va_rf r1, .int x2]) (rest := []) C0 (c_Plan_findRows l G q_3.2.1 _ b_6 r1 x2 q_5 e9) (x_cwV 2 C0 kw_4_36 kw_4_39 kw_1_2 kw_4_38 kw_0_9 (by decide +kernel) (x_rm hR1 hR2 (Nat.le_of_ble_eq_true rfl) (Nat.le_of_ble_eq_true rfl))) (x_preV hE hH hS (ci := 4) rfl hb9) rfl rfl hl.1 (by rw [e8]; rfl) (lv_room (by first | exact Nat.le_of_ble_eq_true rfl | simp only [List.map_cons, List.map_nil, List.sum_cons, List.sum_nil, va_rf_cat, x_catI, x_catL, x_catA] <;> decide)) d_Plan_planFrom_18 (x_le0 (Nat.le_trans (by omega) hR3) (Nat.le_trans (by omega) hR4))) (fun H locs hH hS hz9 => ?_)
  have hz := hz9.trans hz
  refine x_aload_n C0 hl 0 d_Plan_planFrom_21 rfl rfl ?_
  refine x_iload_n C0 hl 2 d_Plan_planFrom_22 rfl rfl ?_
  obtain ⟨b_8, e9, h⟩ := Option.bind_eq_some_iff.mp h
  obtain ⟨e8, fs9, hb9⟩ := xo_inv e9
  obtain ⟨q_7, e9, h⟩ := Option.bind_eq_some_iff.mp h
  refine x_call0 hS (va_runV (As := [.int x2]) (rest := []) C0 (c_Plan_findLeastLoss l G q_5.2 _ b_8 x2 q_7 e9) (x_cwV 1 C0 kw_4_45 kw_4_48 kw_1_2 kw_4_47 kw_0_11 (by decide +kernel) (x_rm hR1 hR2 (Nat.le_of_ble_eq_true rfl) (Nat.le_of_ble_eq_true rfl))) (x_preV hE hH hS (ci := 4) rfl hb9) rfl rfl hl.1 (by rw [e8]; rfl) (lv_room (by first | exact Nat.le_of_ble_eq_true rfl | simp only [List.map_cons, List.map_nil, List.sum_cons, List.sum_nil, va_rf_cat, x_catI, x_catL, x_catA] <;> decide)) d_Plan_planFrom_23 (x_le0 (Nat.le_trans (by omega) hR3) (Nat.le_trans (by omega) hR4))) (fun H locs hH hS hz9 => ?_)
  have hz := hz9.trans hz
  refine x_aload_n C0 hl 0 d_Plan_planFrom_26 rfl rfl ?_
  refine x_getR C0 hE hH (ci := 4) rfl i_Plan 7 (by decide) kw_1_53 d_Plan_planFrom_27 h (fun v_9 h => ?_)
  refine lv_iconst (v := 0) C0.1 C0.2.1 d_Plan_planFrom_30 (by decide) ?_
  refine x_iald C0 hE hH (t := 0) rfl d_Plan_planFrom_31 h (fun v_10 h => ?_)
  refine x_istore_n (lv' := [(3, .inl v_10), (0, .inr (.inl (some h0))), (1, .inr (.inl r1)), (2, .inl x2)]) C0 hl d_Plan_planFrom_32 rfl (by decide) rfl (fun ls hl => ?_)
  refine x_iload_n C0 hl 0 d_Plan_planFrom_33 rfl rfl ?_
  refine lv_ldc (v := 1000000) C0.1 C0.2.1 C0.2.2.2.1 (C0.2.2.2.2 _ kw_4_49) d_Plan_planFrom_34 ?_
  refine x_icmp_lt C0 41 d_Plan_planFrom_36 (by decide) h (fun h => ?_) (fun h => ?_)
  · refine x_aload_n C0 hl 1 d_Plan_planFrom_41 rfl rfl ?_
    refine x_aload_n C0 hl 2 d_Plan_planFrom_42 rfl rfl ?_
    refine x_iload_n C0 hl 3 d_Plan_planFrom_43 rfl rfl ?_
    obtain ⟨b_12, e9, h⟩ := Option.bind_eq_some_iff.mp h
    obtain ⟨e8, fs9, hb9⟩ := xo_inv e9
    obtain ⟨q_11, e9, h⟩ := Option.bind_eq_some_iff.mp h
    refine x_call0 hS (va_runV (As := [va_rf r1, .int x2]) (rest := []) C0 (c_Plan_keepPlan l G q_7.2 _ b_12 r1 x2 q_11 e9) (x_cwV 2 C0 kw_4_55 kw_4_58 kw_1_2 kw_4_57 kw_0_13 (by decide +kernel) (x_rm hR1 hR2 (Nat.le_of_ble_eq_true rfl) (Nat.le_of_ble_eq_true rfl))) (x_preV hE hH hS (ci := 4) rfl hb9) rfl rfl hl.1 (by rw [e8]; rfl) (lv_room (by first | exact Nat.le_of_ble_eq_true rfl | simp only [List.map_cons, List.map_nil, List.sum_cons, List.sum_nil, va_rf_cat, x_catI, x_catL, x_catA] <;> decide)) d_Plan_planFrom_44 (x_le0 (Nat.le_trans (by omega) hR3) (Nat.le_trans (by omega) hR4))) (fun H locs hH hS hz9 => ?_)
    have hz := hz9.trans hz
    refine x_aload_n C0 hl 1 d_Plan_planFrom_47 rfl rfl ?_
    refine lv_iconst (v := 1) C0.1 C0.2.1 d_Plan_planFrom_48 (by decide) ?_
    refine x_put C0 hE hH hS (ci := 4) rfl i_Plan t_Plan t_Plan_ok n_Plan 2 (by decide) kw_1_45 rfl rfl rfl d_Plan_planFrom_49 h (fun w_13 H locs hH hS hz9 h => ?_)
    have hz := hz9.trans hz
    refine x_iload_n C0 hl 0 d_Plan_planFrom_52 rfl rfl ?_
    cases h
    rw [hQ]
    refine W.widen (k := 3) (n := 0 + k1 + k2 + k3) (by omega) (by omega) ?_
    exact x_iret C0 hr hlocks hH hS hz d_Plan_planFrom_53
  · refine lv_iconst (v := -1) C0.1 C0.2.1 d_Plan_planFrom_39 (by decide) ?_
    cases h
    rw [hQ]
    refine W.widen (k := 3) (n := 0 + k1 + k2 + k3) (by omega) (by omega) ?_
    exact x_iret C0 hr hlocks hH hS hz d_Plan_planFrom_40
