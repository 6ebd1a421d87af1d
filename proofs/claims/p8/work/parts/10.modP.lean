theorem kw_0_18 : (Jvm.Cond.selects "LeafMatchesModel" ({ cls := "LeafMatchesModel", name := "isMirrored", desc := "(II)Z" } : Jvm.MethodName) ({ cls := "LeafMatchesModel", name := "isMirrored", desc := "(II)Z" } : Jvm.MethodName)) ∈ wA := ku_0 18 rfl rfl
theorem kw_0_19 : (Jvm.Cond.selects "LeafMatchesModel" ({ cls := "LeafMatchesModel", name := "isTurned", desc := "(II)Z" } : Jvm.MethodName) ({ cls := "LeafMatchesModel", name := "isTurned", desc := "(II)Z" } : Jvm.MethodName)) ∈ wA := ku_0 19 rfl rfl
theorem kw_0_20 : (Jvm.Cond.selects "LeafMatchesModel" ({ cls := "LeafMatchesModel", name := "across", desc := "(II)I" } : Jvm.MethodName) ({ cls := "LeafMatchesModel", name := "across", desc := "(II)I" } : Jvm.MethodName)) ∈ wA := ku_0 20 rfl rfl
theorem kw_0_21 : (Jvm.Cond.selects "LeafMatchesModel" ({ cls := "LeafMatchesModel", name := "wide", desc := "(II)I" } : Jvm.MethodName) ({ cls := "LeafMatchesModel", name := "wide", desc := "(II)I" } : Jvm.MethodName)) ∈ wA := ku_0 21 rfl rfl
theorem kw_0_22 : (Jvm.Cond.selects "LeafMatchesModel" ({ cls := "LeafMatchesModel", name := "topOf", desc := "(II)I" } : Jvm.MethodName) ({ cls := "LeafMatchesModel", name := "topOf", desc := "(II)I" } : Jvm.MethodName)) ∈ wA := ku_0 22 rfl rfl
theorem kw_0_23 : (Jvm.Cond.selects "LeafMatchesModel" ({ cls := "LeafMatchesModel", name := "high", desc := "(II)I" } : Jvm.MethodName) ({ cls := "LeafMatchesModel", name := "high", desc := "(II)I" } : Jvm.MethodName)) ∈ wA := ku_0 23 rfl rfl
theorem kw_0_24 : (Jvm.Cond.selects "LeafMatchesModel" ({ cls := "LeafMatchesModel", name := "shiftOf", desc := "(II)I" } : Jvm.MethodName) ({ cls := "LeafMatchesModel", name := "shiftOf", desc := "(II)I" } : Jvm.MethodName)) ∈ wA := ku_0 24 rfl rfl
theorem kw_0_25 : (Jvm.Cond.selects "LeafMatchesModel" ({ cls := "LeafMatchesModel", name := "sumAt", desc := "(III)I" } : Jvm.MethodName) ({ cls := "LeafMatchesModel", name := "sumAt", desc := "(III)I" } : Jvm.MethodName)) ∈ wA := ku_0 25 rfl rfl
theorem kw_0_26 : (Jvm.Cond.selects "LeafMatchesModel" ({ cls := "LeafMatchesModel", name := "leftOf", desc := "(II)I" } : Jvm.MethodName) ({ cls := "LeafMatchesModel", name := "leftOf", desc := "(II)I" } : Jvm.MethodName)) ∈ wA := ku_0 26 rfl rfl
theorem kw_0_27 : (Jvm.Cond.selects "LeafMatchesModel" ({ cls := "LeafMatchesModel", name := "grey", desc := "(IIII)I" } : Jvm.MethodName) ({ cls := "LeafMatchesModel", name := "grey", desc := "(IIII)I" } : Jvm.MethodName)) ∈ wA := ku_0 27 rfl rfl
theorem kw_0_34 : (Jvm.Cond.selects "LeafMatchesModel" ({ cls := "LeafMatchesModel", name := "manyFrom", desc := "(II)I" } : Jvm.MethodName) ({ cls := "LeafMatchesModel", name := "manyFrom", desc := "(II)I" } : Jvm.MethodName)) ∈ wA := ku_0 34 rfl rfl
theorem kw_0_35 : (Jvm.Cond.selects "LeafMatchesModel" ({ cls := "LeafMatchesModel", name := "lossFrom", desc := "(III)I" } : Jvm.MethodName) ({ cls := "LeafMatchesModel", name := "lossFrom", desc := "(III)I" } : Jvm.MethodName)) ∈ wA := ku_0 35 rfl rfl
theorem kw_1_3 : (Jvm.Cond.initialized "LeafMatchesModel") ∈ wA := ku_1 3 rfl rfl
theorem kw_4_79 : (Jvm.Cond.fieldLink "LeafMatchesModel" (59 : Nat) "LeafMatchesModel" "code" "I") ∈ wA := ku_4 79 rfl rfl
theorem kw_4_82 : (Jvm.Cond.fieldLink "LeafMatchesModel" (13 : Nat) "LeafMatchesModel" "numbers" "[I") ∈ wA := ku_4 82 rfl rfl
theorem kw_4_83 : (Jvm.Cond.fieldLink "LeafMatchesModel" (16 : Nat) "LeafMatchesModel" "wides" "[I") ∈ wA := ku_4 83 rfl rfl
theorem kw_4_84 : (Jvm.Cond.fieldLink "LeafMatchesModel" (19 : Nat) "LeafMatchesModel" "highs" "[I") ∈ wA := ku_4 84 rfl rfl
theorem kw_4_87 : (Jvm.Cond.fieldLink "LeafMatchesModel" (29 : Nat) "LeafMatchesModel" "greys" "[I") ∈ wA := ku_4 87 rfl rfl
theorem kw_4_89 : (Jvm.Cond.fieldLink "LeafMatchesModel" (32 : Nat) "LeafMatchesModel" "kinds" "[I") ∈ wA := ku_4 89 rfl rfl
theorem kw_4_90 : (Jvm.Cond.fieldLink "LeafMatchesModel" (35 : Nat) "LeafMatchesModel" "sizes" "[I") ∈ wA := ku_4 90 rfl rfl
theorem kw_4_91 : (Jvm.Cond.fieldLink "LeafMatchesModel" (38 : Nat) "LeafMatchesModel" "pieces" "[I") ∈ wA := ku_4 91 rfl rfl
theorem kw_4_93 : (Jvm.Cond.fieldLink "LeafMatchesModel" (41 : Nat) "LeafMatchesModel" "wanted" "[I") ∈ wA := ku_4 93 rfl rfl
theorem kw_4_97 : (Jvm.Cond.fieldLink "LeafMatchesModel" (74 : Nat) "LeafMatchesModel" "rowSize" "I") ∈ wA := ku_4 97 rfl rfl
theorem kw_4_98 : (Jvm.Cond.fieldLink "LeafMatchesModel" (50 : Nat) "LeafMatchesModel" "row" "[I") ∈ wA := ku_4 98 rfl rfl
theorem kw_4_99 : (Jvm.Cond.fieldLink "LeafMatchesModel" (53 : Nat) "LeafMatchesModel" "least" "[I") ∈ wA := ku_4 99 rfl rfl
theorem kw_4_190 : (Jvm.Cond.methodLink "LeafMatchesModel" (88 : Nat) ({ cls := "LeafMatchesModel", name := "isMirrored", desc := "(II)Z" } : Jvm.MethodName)) ∈ wA := ku_4 190 rfl rfl
theorem kw_4_192 : (Jvm.Cond.instanceMethod ({ cls := "LeafMatchesModel", name := "isMirrored", desc := "(II)Z" } : Jvm.MethodName)) ∈ wA := ku_4 192 rfl rfl
theorem kw_4_193 : (Jvm.Cond.code ({ cls := "LeafMatchesModel", name := "isMirrored", desc := "(II)Z" } : Jvm.MethodName) prog_7_method_11_code (3 : Nat) (Option.some Jvm.ClassFile.FieldType.boolean)) ∈ wA := ku_4 193 rfl rfl
theorem kw_4_194 : (Jvm.Cond.methodLink "LeafMatchesModel" (92 : Nat) ({ cls := "LeafMatchesModel", name := "isTurned", desc := "(II)Z" } : Jvm.MethodName)) ∈ wA := ku_4 194 rfl rfl
theorem kw_4_196 : (Jvm.Cond.instanceMethod ({ cls := "LeafMatchesModel", name := "isTurned", desc := "(II)Z" } : Jvm.MethodName)) ∈ wA := ku_4 196 rfl rfl
theorem kw_4_197 : (Jvm.Cond.code ({ cls := "LeafMatchesModel", name := "isTurned", desc := "(II)Z" } : Jvm.MethodName) prog_7_method_12_code (3 : Nat) (Option.some Jvm.ClassFile.FieldType.boolean)) ∈ wA := ku_4 197 rfl rfl
theorem kw_4_198 : (Jvm.Cond.methodLink "LeafMatchesModel" (122 : Nat) ({ cls := "LeafMatchesModel", name := "across", desc := "(II)I" } : Jvm.MethodName)) ∈ wA := ku_4 198 rfl rfl
theorem kw_4_200 : (Jvm.Cond.instanceMethod ({ cls := "LeafMatchesModel", name := "across", desc := "(II)I" } : Jvm.MethodName)) ∈ wA := ku_4 200 rfl rfl
theorem kw_4_201 : (Jvm.Cond.code ({ cls := "LeafMatchesModel", name := "across", desc := "(II)I" } : Jvm.MethodName) prog_7_method_20_code (5 : Nat) (Option.some Jvm.ClassFile.FieldType.int)) ∈ wA := ku_4 201 rfl rfl
theorem kw_4_202 : (Jvm.Cond.methodLink "LeafMatchesModel" (102 : Nat) ({ cls := "LeafMatchesModel", name := "wide", desc := "(II)I" } : Jvm.MethodName)) ∈ wA := ku_4 202 rfl rfl
theorem kw_4_204 : (Jvm.Cond.instanceMethod ({ cls := "LeafMatchesModel", name := "wide", desc := "(II)I" } : Jvm.MethodName)) ∈ wA := ku_4 204 rfl rfl
theorem kw_4_205 : (Jvm.Cond.code ({ cls := "LeafMatchesModel", name := "wide", desc := "(II)I" } : Jvm.MethodName) prog_7_method_14_code (3 : Nat) (Option.some Jvm.ClassFile.FieldType.int)) ∈ wA := ku_4 205 rfl rfl
theorem kw_4_206 : (Jvm.Cond.methodLink "LeafMatchesModel" (116 : Nat) ({ cls := "LeafMatchesModel", name := "topOf", desc := "(II)I" } : Jvm.MethodName)) ∈ wA := ku_4 206 rfl rfl
theorem kw_4_208 : (Jvm.Cond.instanceMethod ({ cls := "LeafMatchesModel", name := "topOf", desc := "(II)I" } : Jvm.MethodName)) ∈ wA := ku_4 208 rfl rfl
theorem kw_4_209 : (Jvm.Cond.code ({ cls := "LeafMatchesModel", name := "topOf", desc := "(II)I" } : Jvm.MethodName) prog_7_method_21_code (5 : Nat) (Option.some Jvm.ClassFile.FieldType.int)) ∈ wA := ku_4 209 rfl rfl
theorem kw_4_210 : (Jvm.Cond.methodLink "LeafMatchesModel" (99 : Nat) ({ cls := "LeafMatchesModel", name := "high", desc := "(II)I" } : Jvm.MethodName)) ∈ wA := ku_4 210 rfl rfl
theorem kw_4_212 : (Jvm.Cond.instanceMethod ({ cls := "LeafMatchesModel", name := "high", desc := "(II)I" } : Jvm.MethodName)) ∈ wA := ku_4 212 rfl rfl
theorem kw_4_213 : (Jvm.Cond.code ({ cls := "LeafMatchesModel", name := "high", desc := "(II)I" } : Jvm.MethodName) prog_7_method_15_code (3 : Nat) (Option.some Jvm.ClassFile.FieldType.int)) ∈ wA := ku_4 213 rfl rfl
theorem kw_4_214 : (Jvm.Cond.methodLink "LeafMatchesModel" (113 : Nat) ({ cls := "LeafMatchesModel", name := "shiftOf", desc := "(II)I" } : Jvm.MethodName)) ∈ wA := ku_4 214 rfl rfl
theorem kw_4_216 : (Jvm.Cond.instanceMethod ({ cls := "LeafMatchesModel", name := "shiftOf", desc := "(II)I" } : Jvm.MethodName)) ∈ wA := ku_4 216 rfl rfl
theorem kw_4_217 : (Jvm.Cond.code ({ cls := "LeafMatchesModel", name := "shiftOf", desc := "(II)I" } : Jvm.MethodName) prog_7_method_19_code (9 : Nat) (Option.some Jvm.ClassFile.FieldType.int)) ∈ wA := ku_4 217 rfl rfl
theorem kw_4_218 : (Jvm.Cond.methodLink "LeafMatchesModel" (109 : Nat) ({ cls := "LeafMatchesModel", name := "sumAt", desc := "(III)I" } : Jvm.MethodName)) ∈ wA := ku_4 218 rfl rfl
theorem kw_4_220 : (Jvm.Cond.instanceMethod ({ cls := "LeafMatchesModel", name := "sumAt", desc := "(III)I" } : Jvm.MethodName)) ∈ wA := ku_4 220 rfl rfl
theorem kw_4_221 : (Jvm.Cond.code ({ cls := "LeafMatchesModel", name := "sumAt", desc := "(III)I" } : Jvm.MethodName) prog_7_method_18_code (9 : Nat) (Option.some Jvm.ClassFile.FieldType.int)) ∈ wA := ku_4 221 rfl rfl
theorem kw_4_222 : (Jvm.Cond.methodLink "LeafMatchesModel" (95 : Nat) ({ cls := "LeafMatchesModel", name := "leftOf", desc := "(II)I" } : Jvm.MethodName)) ∈ wA := ku_4 222 rfl rfl
theorem kw_4_224 : (Jvm.Cond.instanceMethod ({ cls := "LeafMatchesModel", name := "leftOf", desc := "(II)I" } : Jvm.MethodName)) ∈ wA := ku_4 224 rfl rfl
theorem kw_4_225 : (Jvm.Cond.code ({ cls := "LeafMatchesModel", name := "leftOf", desc := "(II)I" } : Jvm.MethodName) prog_7_method_17_code (3 : Nat) (Option.some Jvm.ClassFile.FieldType.int)) ∈ wA := ku_4 225 rfl rfl
theorem kw_4_226 : (Jvm.Cond.methodLink "LeafMatchesModel" (105 : Nat) ({ cls := "LeafMatchesModel", name := "grey", desc := "(IIII)I" } : Jvm.MethodName)) ∈ wA := ku_4 226 rfl rfl
theorem kw_4_228 : (Jvm.Cond.instanceMethod ({ cls := "LeafMatchesModel", name := "grey", desc := "(IIII)I" } : Jvm.MethodName)) ∈ wA := ku_4 228 rfl rfl
theorem kw_4_229 : (Jvm.Cond.code ({ cls := "LeafMatchesModel", name := "grey", desc := "(IIII)I" } : Jvm.MethodName) prog_7_method_13_code (8 : Nat) (Option.some Jvm.ClassFile.FieldType.int)) ∈ wA := ku_4 229 rfl rfl
theorem kw_5_51 : (Jvm.Cond.constant "LeafMatchesModel" (148 : Nat) (1000000 : Int32)) ∈ wA := ku_5 51 rfl rfl
theorem kw_5_56 : (Jvm.Cond.methodLink "LeafMatchesModel" (145 : Nat) ({ cls := "LeafMatchesModel", name := "manyFrom", desc := "(II)I" } : Jvm.MethodName)) ∈ wA := ku_5 56 rfl rfl
theorem kw_5_58 : (Jvm.Cond.instanceMethod ({ cls := "LeafMatchesModel", name := "manyFrom", desc := "(II)I" } : Jvm.MethodName)) ∈ wA := ku_5 58 rfl rfl
theorem kw_5_59 : (Jvm.Cond.code ({ cls := "LeafMatchesModel", name := "manyFrom", desc := "(II)I" } : Jvm.MethodName) prog_7_method_37_code (6 : Nat) (Option.some Jvm.ClassFile.FieldType.int)) ∈ wA := ku_5 59 rfl rfl
theorem kw_5_60 : (Jvm.Cond.methodLink "LeafMatchesModel" (149 : Nat) ({ cls := "LeafMatchesModel", name := "lossFrom", desc := "(III)I" } : Jvm.MethodName)) ∈ wA := ku_5 60 rfl rfl
theorem kw_5_62 : (Jvm.Cond.instanceMethod ({ cls := "LeafMatchesModel", name := "lossFrom", desc := "(III)I" } : Jvm.MethodName)) ∈ wA := ku_5 62 rfl rfl
theorem kw_5_63 : (Jvm.Cond.code ({ cls := "LeafMatchesModel", name := "lossFrom", desc := "(III)I" } : Jvm.MethodName) prog_7_method_38_code (6 : Nat) (Option.some Jvm.ClassFile.FieldType.int)) ∈ wA := ku_5 63 rfl rfl
theorem d_Mod_thrown_0 : decode b_Mod_thrown 0 = .ok (.aload_n 0, 1) := by decide +kernel
theorem d_Mod_thrown_1 : decode b_Mod_thrown 1 = .ok (.getfield 59, 3) := by decide +kernel
theorem d_Mod_thrown_4 : decode b_Mod_thrown 4 = .ok (.ireturn, 1) := by decide +kernel
def f_Mod_thrown (w : Mp) (h0 : Nat) : Option (Int32) := (gI w (some h0) 5 0).bind fun v_1 => some v_1
set_option maxHeartbeats 4000000 in
set_option maxRecDepth 100000 in
theorem c_Mod_thrown (l : Launch) (G : Gx) (w : Mp) (sz : Nat) (h0 : Nat) (res : Int32) (hf : f_Mod_thrown w h0 = some res) : Met l y_Mod_thrown (xws y_Mod_thrown b_Mod_thrown 1 (some .int)) { frames := 0, cells := 0, slots := 0, locals := 0 } (xPc G vwCl xaty w sz [va_rf (some h0)]) (qP (some (.int res))) (0) (0) (fun _ => False) := by
  refine Met.ofW (cc := b_Mod_thrown) (maxL := 1) (ret := (some .int)) (by decide) rfl ?_
  intro p e s m args below meth c s₁ B hml hv
  obtain ⟨ha, hE, hH, hz⟩ := hv
  have C0 : CallFix p m c b_Mod_thrown 1 s args wA R_Mod := ⟨B.exec, B.bytes, hml, findClass_of_methodNamed B.named, fun w hw => atoms_spec (ws := xws y_Mod_thrown b_Mod_thrown 1 (some .int)) B.pre w (List.mem_cons_of_mem _ hw)⟩
  have hr := B.returns
  have hlocks := B.notSynchronized
  obtain ⟨R, hR⟩ : ∃ R, R = (headSpec (xws y_Mod_thrown b_Mod_thrown 1 (some .int)) { frames := 0, cells := 0, slots := 0, locals := 0 }).room := ⟨_, rfl⟩
  have hR1 : 0 ≤ R.frames := by rw [hR]; exact Nat.le_of_ble_eq_true rfl
  have hR2 : 0 ≤ R.locals := by rw [hR]; exact Nat.le_of_ble_eq_true rfl
  have hR3 : 0 ≤ R.cells := by rw [hR]; exact Nat.le_refl _
  have hR4 : 0 ≤ R.slots := by rw [hR]; exact Nat.le_refl _
  rw [← hR]
  obtain ⟨Q, hQ⟩ : ∃ Q, Q = MQ below (qP (some (.int res))) args s (0) (0) (fun _ => False) := ⟨_, rfl⟩
  rw [← hQ]
  have hS : xS G s s.heap [] := va_S.rf
  obtain ⟨ls, he, hl⟩ := x_entry m [.inr (.inl (some h0))] 1 (Nat.le_of_ble_eq_true rfl)
  rw [show entryFrame m args 1 = F0 m 0 ls [] by rw [ha]; exact he]
  have hl : xL ls 1 [(0, .inr (.inl (some h0)))] := hl
  have h := hf
  unfold f_Mod_thrown at h
  suffices hmain : ∀ (H : Heap) (locs : List Loc), xhd G vwCl w H → xS G s H locs → H.size = sz → (H = s.heap ∧ locs = []) → W p l e R s m args below meth c H locs 0 0 Q (F0 m 0 ls []) from hmain _ _ hH hS hz ⟨rfl, rfl⟩
  clear hH hS hz
  intro H locs hH hS hz hP0
  refine x_aload_n C0 hl 0 d_Mod_thrown_0 rfl rfl ?_
  refine x_getI C0 hE hH (ci := 5) rfl i_Mod 0 (by decide) kw_4_79 d_Mod_thrown_1 h (fun v_1 h => ?_)
  cases h
  rw [hQ]
  exact x_iretP C0 hr hlocks hP0 d_Mod_thrown_4
theorem d_Mod_isIn_0 : decode b_Mod_isIn 0 = .ok (.iload_n 0, 1) := by decide +kernel
theorem d_Mod_isIn_1 : decode b_Mod_isIn 1 = .ok (.iload_n 1, 1) := by decide +kernel
theorem d_Mod_isIn_2 : decode b_Mod_isIn 2 = .ok (.if_icmp .lt 12, 3) := by decide +kernel
theorem d_Mod_isIn_5 : decode b_Mod_isIn 5 = .ok (.iload_n 0, 1) := by decide +kernel
theorem d_Mod_isIn_6 : decode b_Mod_isIn 6 = .ok (.iload_n 2, 1) := by decide +kernel
theorem d_Mod_isIn_7 : decode b_Mod_isIn 7 = .ok (.if_icmp .gt 7, 3) := by decide +kernel
theorem d_Mod_isIn_10 : decode b_Mod_isIn 10 = .ok (.iconst 1, 1) := by decide +kernel
theorem d_Mod_isIn_11 : decode b_Mod_isIn 11 = .ok (.goto 4, 3) := by decide +kernel
theorem d_Mod_isIn_14 : decode b_Mod_isIn 14 = .ok (.iconst 0, 1) := by decide +kernel
theorem d_Mod_isIn_15 : decode b_Mod_isIn 15 = .ok (.ireturn, 1) := by decide +kernel
def f_Mod_isIn (w : Mp) (x0 : Int32) (x1 : Int32) (x2 : Int32) : Option (Int32) := if x0 < x1 then (some (0 : Int32)) else (if x2 < x0 then (some (0 : Int32)) else (some (1 : Int32)))
set_option maxHeartbeats 4000000 in
set_option maxRecDepth 100000 in
theorem c_Mod_isIn (l : Launch) (G : Gx) (w : Mp) (sz : Nat) (x0 : Int32) (x1 : Int32) (x2 : Int32) (res : Int32) (hf : f_Mod_isIn w x0 x1 x2 = some res) : Met l y_Mod_isIn (xws y_Mod_isIn b_Mod_isIn 3 (some .boolean)) { frames := 0, cells := 0, slots := 0, locals := 0 } (xPc G vwCl xaty w sz [.int x0, .int x1, .int x2]) (qP (some (.int res))) (0) (0) (fun _ => False) := by
  refine Met.ofW (cc := b_Mod_isIn) (maxL := 3) (ret := (some .boolean)) (by decide) rfl ?_
  intro p e s m args below meth c s₁ B hml hv
  obtain ⟨ha, hE, hH, hz⟩ := hv
  have C0 : CallFix p m c b_Mod_isIn 3 s args wA R_Mod := ⟨B.exec, B.bytes, hml, findClass_of_methodNamed B.named, fun w hw => atoms_spec (ws := xws y_Mod_isIn b_Mod_isIn 3 (some .boolean)) B.pre w (List.mem_cons_of_mem _ hw)⟩
  have hr := B.returns
  have hlocks := B.notSynchronized
  obtain ⟨R, hR⟩ : ∃ R, R = (headSpec (xws y_Mod_isIn b_Mod_isIn 3 (some .boolean)) { frames := 0, cells := 0, slots := 0, locals := 0 }).room := ⟨_, rfl⟩
  have hR1 : 0 ≤ R.frames := by rw [hR]; exact Nat.le_of_ble_eq_true rfl
  have hR2 : 0 ≤ R.locals := by rw [hR]; exact Nat.le_of_ble_eq_true rfl
  have hR3 : 0 ≤ R.cells := by rw [hR]; exact Nat.le_refl _
  have hR4 : 0 ≤ R.slots := by rw [hR]; exact Nat.le_refl _
  rw [← hR]
  obtain ⟨Q, hQ⟩ : ∃ Q, Q = MQ below (qP (some (.int res))) args s (0) (0) (fun _ => False) := ⟨_, rfl⟩
  rw [← hQ]
  have hS : xS G s s.heap [] := va_S.rf
  obtain ⟨ls, he, hl⟩ := x_entry m [.inl x0, .inl x1, .inl x2] 3 (Nat.le_of_ble_eq_true rfl)
  rw [show entryFrame m args 3 = F0 m 0 ls [] by rw [ha]; exact he]
  have hl : xL ls 3 [(0, .inl x0), (1, .inl x1), (2, .inl x2)] := hl
  have h := hf
  unfold f_Mod_isIn at h
  suffices hmain : ∀ (H : Heap) (locs : List Loc), xhd G vwCl w H → xS G s H locs → H.size = sz → (H = s.heap ∧ locs = []) → W p l e R s m args below meth c H locs 0 0 Q (F0 m 0 ls []) from hmain _ _ hH hS hz ⟨rfl, rfl⟩
  clear hH hS hz
  intro H locs hH hS hz hP0
  refine x_iload_n C0 hl 0 d_Mod_isIn_0 rfl rfl ?_
  refine x_iload_n C0 hl 1 d_Mod_isIn_1 rfl rfl ?_
  refine x_icmp_lt C0 14 d_Mod_isIn_2 (by decide) h (fun h => ?_) (fun h => ?_)
  · refine lv_iconst (v := 0) C0.1 C0.2.1 d_Mod_isIn_14 (by decide) ?_
    cases h
    rw [hQ]
    exact x_zretP C0 hr hlocks hP0 rfl d_Mod_isIn_15
  · refine x_iload_n C0 hl 0 d_Mod_isIn_5 rfl rfl ?_
    refine x_iload_n C0 hl 2 d_Mod_isIn_6 rfl rfl ?_
    refine x_icmp_gt C0 14 d_Mod_isIn_7 (by decide) h (fun h => ?_) (fun h => ?_)
    · refine lv_iconst (v := 0) C0.1 C0.2.1 d_Mod_isIn_14 (by decide) ?_
      cases h
      rw [hQ]
      exact x_zretP C0 hr hlocks hP0 rfl d_Mod_isIn_15
    · refine lv_iconst (v := 1) C0.1 C0.2.1 d_Mod_isIn_10 (by decide) ?_
      refine x_goto C0 15 d_Mod_isIn_11 (by decide) ?_
      cases h
      rw [hQ]
      exact x_zretP C0 hr hlocks hP0 rfl d_Mod_isIn_15
theorem d_Mod_isMirrored_0 : decode b_Mod_isMirrored 0 = .ok (.iload_n 2, 1) := by decide +kernel
theorem d_Mod_isMirrored_1 : decode b_Mod_isMirrored 1 = .ok (.iconst 2, 1) := by decide +kernel
theorem d_Mod_isMirrored_2 : decode b_Mod_isMirrored 2 = .ok (.irem, 1) := by decide +kernel
theorem d_Mod_isMirrored_3 : decode b_Mod_isMirrored 3 = .ok (.iconst 1, 1) := by decide +kernel
theorem d_Mod_isMirrored_4 : decode b_Mod_isMirrored 4 = .ok (.if_icmp .ne 26, 3) := by decide +kernel
theorem d_Mod_isMirrored_7 : decode b_Mod_isMirrored 7 = .ok (.aload_n 0, 1) := by decide +kernel
theorem d_Mod_isMirrored_8 : decode b_Mod_isMirrored 8 = .ok (.getfield 32, 3) := by decide +kernel
theorem d_Mod_isMirrored_11 : decode b_Mod_isMirrored 11 = .ok (.iload_n 1, 1) := by decide +kernel
theorem d_Mod_isMirrored_12 : decode b_Mod_isMirrored 12 = .ok (.iaload, 1) := by decide +kernel
theorem d_Mod_isMirrored_13 : decode b_Mod_isMirrored 13 = .ok (.ifCond .eq 13, 3) := by decide +kernel
theorem d_Mod_isMirrored_16 : decode b_Mod_isMirrored 16 = .ok (.aload_n 0, 1) := by decide +kernel
theorem d_Mod_isMirrored_17 : decode b_Mod_isMirrored 17 = .ok (.getfield 32, 3) := by decide +kernel
theorem d_Mod_isMirrored_20 : decode b_Mod_isMirrored 20 = .ok (.iload_n 1, 1) := by decide +kernel
theorem d_Mod_isMirrored_21 : decode b_Mod_isMirrored 21 = .ok (.iaload, 1) := by decide +kernel
theorem d_Mod_isMirrored_22 : decode b_Mod_isMirrored 22 = .ok (.iconst 3, 1) := by decide +kernel
theorem d_Mod_isMirrored_23 : decode b_Mod_isMirrored 23 = .ok (.if_icmp .ne 7, 3) := by decide +kernel
theorem d_Mod_isMirrored_26 : decode b_Mod_isMirrored 26 = .ok (.iconst 1, 1) := by decide +kernel
theorem d_Mod_isMirrored_27 : decode b_Mod_isMirrored 27 = .ok (.goto 4, 3) := by decide +kernel
theorem d_Mod_isMirrored_30 : decode b_Mod_isMirrored 30 = .ok (.iconst 0, 1) := by decide +kernel
theorem d_Mod_isMirrored_31 : decode b_Mod_isMirrored 31 = .ok (.ireturn, 1) := by decide +kernel
def f_Mod_isMirrored (w : Mp) (h0 : Nat) (x1 : Int32) (x2 : Int32) : Option (Int32) := if (x2 - x2 / (2 : Int32) * (2 : Int32)) = (1 : Int32) then ((gR w (some h0) 5 10).bind fun v_1 => (aI w v_1 0 x1).bind fun v_2 => if v_2 = 0 then (some (1 : Int32)) else ((gR w (some h0) 5 10).bind fun v_3 => (aI w v_3 0 x1).bind fun v_4 => if v_4 = (3 : Int32) then (some (1 : Int32)) else (some (0 : Int32)))) else (some (0 : Int32))
set_option maxHeartbeats 4000000 in
set_option maxRecDepth 100000 in
theorem c_Mod_isMirrored (l : Launch) (G : Gx) (w : Mp) (sz : Nat) (h0 : Nat) (x1 : Int32) (x2 : Int32) (res : Int32) (hf : f_Mod_isMirrored w h0 x1 x2 = some res) : Met l y_Mod_isMirrored (xws y_Mod_isMirrored b_Mod_isMirrored 3 (some .boolean)) { frames := 0, cells := 0, slots := 0, locals := 0 } (xPc G vwCl xaty w sz [va_rf (some h0), .int x1, .int x2]) (qP (some (.int res))) (0) (0) (fun _ => False) := by
  refine Met.ofW (cc := b_Mod_isMirrored) (maxL := 3) (ret := (some .boolean)) (by decide) rfl ?_
  intro p e s m args below meth c s₁ B hml hv
  obtain ⟨ha, hE, hH, hz⟩ := hv
  have C0 : CallFix p m c b_Mod_isMirrored 3 s args wA R_Mod := ⟨B.exec, B.bytes, hml, findClass_of_methodNamed B.named, fun w hw => atoms_spec (ws := xws y_Mod_isMirrored b_Mod_isMirrored 3 (some .boolean)) B.pre w (List.mem_cons_of_mem _ hw)⟩
  have hr := B.returns
  have hlocks := B.notSynchronized
  obtain ⟨R, hR⟩ : ∃ R, R = (headSpec (xws y_Mod_isMirrored b_Mod_isMirrored 3 (some .boolean)) { frames := 0, cells := 0, slots := 0, locals := 0 }).room := ⟨_, rfl⟩
  have hR1 : 0 ≤ R.frames := by rw [hR]; exact Nat.le_of_ble_eq_true rfl
  have hR2 : 0 ≤ R.locals := by rw [hR]; exact Nat.le_of_ble_eq_true rfl
  have hR3 : 0 ≤ R.cells := by rw [hR]; exact Nat.le_refl _
  have hR4 : 0 ≤ R.slots := by rw [hR]; exact Nat.le_refl _
  rw [← hR]
  obtain ⟨Q, hQ⟩ : ∃ Q, Q = MQ below (qP (some (.int res))) args s (0) (0) (fun _ => False) := ⟨_, rfl⟩
  rw [← hQ]
  have hS : xS G s s.heap [] := va_S.rf
  obtain ⟨ls, he, hl⟩ := x_entry m [.inr (.inl (some h0)), .inl x1, .inl x2] 3 (Nat.le_of_ble_eq_true rfl)
  rw [show entryFrame m args 3 = F0 m 0 ls [] by rw [ha]; exact he]
  have hl : xL ls 3 [(0, .inr (.inl (some h0))), (1, .inl x1), (2, .inl x2)] := hl
  have h := hf
  unfold f_Mod_isMirrored at h
  suffices hmain : ∀ (H : Heap) (locs : List Loc), xhd G vwCl w H → xS G s H locs → H.size = sz → (H = s.heap ∧ locs = []) → W p l e R s m args below meth c H locs 0 0 Q (F0 m 0 ls []) from hmain _ _ hH hS hz ⟨rfl, rfl⟩
  clear hH hS hz
  intro H locs hH hS hz hP0
  refine x_iload_n C0 hl 2 d_Mod_isMirrored_0 rfl rfl ?_
  refine lv_iconst (v := 2) C0.1 C0.2.1 d_Mod_isMirrored_1 (by decide) ?_
  refine lv_irem C0.1 C0.2.1 d_Mod_isMirrored_2 (by decide) ?_
  refine lv_iconst (v := 1) C0.1 C0.2.1 d_Mod_isMirrored_3 (by decide) ?_
  refine x_icmp_ne C0 30 d_Mod_isMirrored_4 (by decide) h (fun h => ?_) (fun h => ?_)
  · refine lv_iconst (v := 0) C0.1 C0.2.1 d_Mod_isMirrored_30 (by decide) ?_
    cases h
    rw [hQ]
    exact x_zretP C0 hr hlocks hP0 rfl d_Mod_isMirrored_31
  · refine x_aload_n C0 hl 0 d_Mod_isMirrored_7 rfl rfl ?_
    refine x_getR C0 hE hH (ci := 5) rfl i_Mod 10 (by decide) kw_4_89 d_Mod_isMirrored_8 h (fun v_1 h => ?_)
    refine x_iload_n C0 hl 1 d_Mod_isMirrored_11 rfl rfl ?_
    refine x_iald C0 hE hH (t := 0) rfl d_Mod_isMirrored_12 h (fun v_2 h => ?_)
    refine x_if_eq C0 26 d_Mod_isMirrored_13 (by decide) h (fun h => ?_) (fun h => ?_)
    · refine lv_iconst (v := 1) C0.1 C0.2.1 d_Mod_isMirrored_26 (by decide) ?_
      refine x_goto C0 31 d_Mod_isMirrored_27 (by decide) ?_
      cases h
      rw [hQ]
      exact x_zretP C0 hr hlocks hP0 rfl d_Mod_isMirrored_31
    · refine x_aload_n C0 hl 0 d_Mod_isMirrored_16 rfl rfl ?_
      refine x_getR C0 hE hH (ci := 5) rfl i_Mod 10 (by decide) kw_4_89 d_Mod_isMirrored_17 h (fun v_3 h => ?_)
      refine x_iload_n C0 hl 1 d_Mod_isMirrored_20 rfl rfl ?_
      refine x_iald C0 hE hH (t := 0) rfl d_Mod_isMirrored_21 h (fun v_4 h => ?_)
      refine lv_iconst (v := 3) C0.1 C0.2.1 d_Mod_isMirrored_22 (by decide) ?_
      refine x_icmp_ne C0 30 d_Mod_isMirrored_23 (by decide) h (fun h => ?_) (fun h => ?_)
      · refine lv_iconst (v := 0) C0.1 C0.2.1 d_Mod_isMirrored_30 (by decide) ?_
        cases h
        rw [hQ]
        exact x_zretP C0 hr hlocks hP0 rfl d_Mod_isMirrored_31
      · refine lv_iconst (v := 1) C0.1 C0.2.1 d_Mod_isMirrored_26 (by decide) ?_
        refine x_goto C0 31 d_Mod_isMirrored_27 (by decide) ?_
        cases h
        rw [hQ]
        exact x_zretP C0 hr hlocks hP0 rfl d_Mod_isMirrored_31
theorem d_Mod_isTurned_0 : decode b_Mod_isTurned 0 = .ok (.aload_n 0, 1) := by decide +kernel
theorem d_Mod_isTurned_1 : decode b_Mod_isTurned 1 = .ok (.getfield 32, 3) := by decide +kernel
theorem d_Mod_isTurned_4 : decode b_Mod_isTurned 4 = .ok (.iload_n 1, 1) := by decide +kernel
theorem d_Mod_isTurned_5 : decode b_Mod_isTurned 5 = .ok (.iaload, 1) := by decide +kernel
theorem d_Mod_isTurned_6 : decode b_Mod_isTurned 6 = .ok (.iconst 2, 1) := by decide +kernel
theorem d_Mod_isTurned_7 : decode b_Mod_isTurned 7 = .ok (.if_icmp .ne 18, 3) := by decide +kernel
theorem d_Mod_isTurned_10 : decode b_Mod_isTurned 10 = .ok (.iload_n 2, 1) := by decide +kernel
theorem d_Mod_isTurned_11 : decode b_Mod_isTurned 11 = .ok (.iconst 2, 1) := by decide +kernel
theorem d_Mod_isTurned_12 : decode b_Mod_isTurned 12 = .ok (.irem, 1) := by decide +kernel
theorem d_Mod_isTurned_13 : decode b_Mod_isTurned 13 = .ok (.iconst 1, 1) := by decide +kernel
theorem d_Mod_isTurned_14 : decode b_Mod_isTurned 14 = .ok (.if_icmp .ne 7, 3) := by decide +kernel
theorem d_Mod_isTurned_17 : decode b_Mod_isTurned 17 = .ok (.iconst 1, 1) := by decide +kernel
theorem d_Mod_isTurned_18 : decode b_Mod_isTurned 18 = .ok (.goto 27, 3) := by decide +kernel
theorem d_Mod_isTurned_21 : decode b_Mod_isTurned 21 = .ok (.iconst 0, 1) := by decide +kernel
theorem d_Mod_isTurned_22 : decode b_Mod_isTurned 22 = .ok (.goto 23, 3) := by decide +kernel
theorem d_Mod_isTurned_25 : decode b_Mod_isTurned 25 = .ok (.aload_n 0, 1) := by decide +kernel
theorem d_Mod_isTurned_26 : decode b_Mod_isTurned 26 = .ok (.getfield 32, 3) := by decide +kernel
theorem d_Mod_isTurned_29 : decode b_Mod_isTurned 29 = .ok (.iload_n 1, 1) := by decide +kernel
theorem d_Mod_isTurned_30 : decode b_Mod_isTurned 30 = .ok (.iaload, 1) := by decide +kernel
theorem d_Mod_isTurned_31 : decode b_Mod_isTurned 31 = .ok (.iconst 3, 1) := by decide +kernel
theorem d_Mod_isTurned_32 : decode b_Mod_isTurned 32 = .ok (.if_icmp .ne 12, 3) := by decide +kernel
theorem d_Mod_isTurned_35 : decode b_Mod_isTurned 35 = .ok (.iload_n 2, 1) := by decide +kernel
theorem d_Mod_isTurned_36 : decode b_Mod_isTurned 36 = .ok (.iconst 1, 1) := by decide +kernel
theorem d_Mod_isTurned_37 : decode b_Mod_isTurned 37 = .ok (.if_icmp .le 7, 3) := by decide +kernel
theorem d_Mod_isTurned_40 : decode b_Mod_isTurned 40 = .ok (.iconst 1, 1) := by decide +kernel
theorem d_Mod_isTurned_41 : decode b_Mod_isTurned 41 = .ok (.goto 4, 3) := by decide +kernel
theorem d_Mod_isTurned_44 : decode b_Mod_isTurned 44 = .ok (.iconst 0, 1) := by decide +kernel
theorem d_Mod_isTurned_45 : decode b_Mod_isTurned 45 = .ok (.ireturn, 1) := by decide +kernel
def f_Mod_isTurned (w : Mp) (h0 : Nat) (x1 : Int32) (x2 : Int32) : Option (Int32) := (gR w (some h0) 5 10).bind fun v_1 => (aI w v_1 0 x1).bind fun v_2 => if v_2 = (2 : Int32) then (if (x2 - x2 / (2 : Int32) * (2 : Int32)) = (1 : Int32) then (some (1 : Int32)) else (some (0 : Int32))) else ((gR w (some h0) 5 10).bind fun v_3 => (aI w v_3 0 x1).bind fun v_4 => if v_4 = (3 : Int32) then (if x2 ≤ (1 : Int32) then (some (0 : Int32)) else (some (1 : Int32))) else (some (0 : Int32)))
set_option maxHeartbeats 4000000 in
set_option maxRecDepth 100000 in
theorem c_Mod_isTurned (l : Launch) (G : Gx) (w : Mp) (sz : Nat) (h0 : Nat) (x1 : Int32) (x2 : Int32) (res : Int32) (hf : f_Mod_isTurned w h0 x1 x2 = some res) : Met l y_Mod_isTurned (xws y_Mod_isTurned b_Mod_isTurned 3 (some .boolean)) { frames := 0, cells := 0, slots := 0, locals := 0 } (xPc G vwCl xaty w sz [va_rf (some h0), .int x1, .int x2]) (qP (some (.int res))) (0) (0) (fun _ => False) := by
  refine Met.ofW (cc := b_Mod_isTurned) (maxL := 3) (ret := (some .boolean)) (by decide) rfl ?_
  intro p e s m args below meth c s₁ B hml hv
  obtain ⟨ha, hE, hH, hz⟩ := hv
  have C0 : CallFix p m c b_Mod_isTurned 3 s args wA R_Mod := ⟨B.exec, B.bytes, hml, findClass_of_methodNamed B.named, fun w hw => atoms_spec (ws := xws y_Mod_isTurned b_Mod_isTurned 3 (some .boolean)) B.pre w (List.mem_cons_of_mem _ hw)⟩
  have hr := B.returns
  have hlocks := B.notSynchronized
  obtain ⟨R, hR⟩ : ∃ R, R = (headSpec (xws y_Mod_isTurned b_Mod_isTurned 3 (some .boolean)) { frames := 0, cells := 0, slots := 0, locals := 0 }).room := ⟨_, rfl⟩
  have hR1 : 0 ≤ R.frames := by rw [hR]; exact Nat.le_of_ble_eq_true rfl
  have hR2 : 0 ≤ R.locals := by rw [hR]; exact Nat.le_of_ble_eq_true rfl
  have hR3 : 0 ≤ R.cells := by rw [hR]; exact Nat.le_refl _
  have hR4 : 0 ≤ R.slots := by rw [hR]; exact Nat.le_refl _
  rw [← hR]
  obtain ⟨Q, hQ⟩ : ∃ Q, Q = MQ below (qP (some (.int res))) args s (0) (0) (fun _ => False) := ⟨_, rfl⟩
  rw [← hQ]
  have hS : xS G s s.heap [] := va_S.rf
  obtain ⟨ls, he, hl⟩ := x_entry m [.inr (.inl (some h0)), .inl x1, .inl x2] 3 (Nat.le_of_ble_eq_true rfl)
  rw [show entryFrame m args 3 = F0 m 0 ls [] by rw [ha]; exact he]
  have hl : xL ls 3 [(0, .inr (.inl (some h0))), (1, .inl x1), (2, .inl x2)] := hl
  have h := hf
  unfold f_Mod_isTurned at h
  suffices hmain : ∀ (H : Heap) (locs : List Loc), xhd G vwCl w H → xS G s H locs → H.size = sz → (H = s.heap ∧ locs = []) → W p l e R s m args below meth c H locs 0 0 Q (F0 m 0 ls []) from hmain _ _ hH hS hz ⟨rfl, rfl⟩
  clear hH hS hz
  intro H locs hH hS hz hP0
  refine x_aload_n C0 hl 0 d_Mod_isTurned_0 rfl rfl ?_
  refine x_getR C0 hE hH (ci := 5) rfl i_Mod 10 (by decide) kw_4_89 d_Mod_isTurned_1 h (fun v_1 h => ?_)
  refine x_iload_n C0 hl 1 d_Mod_isTurned_4 rfl rfl ?_
  refine x_iald C0 hE hH (t := 0) rfl d_Mod_isTurned_5 h (fun v_2 h => ?_)
  refine lv_iconst (v := 2) C0.1 C0.2.1 d_Mod_isTurned_6 (by decide) ?_
  refine x_icmp_ne C0 25 d_Mod_isTurned_7 (by decide) h (fun h => ?_) (fun h => ?_)
  · refine x_aload_n C0 hl 0 d_Mod_isTurned_25 rfl rfl ?_
    refine x_getR C0 hE hH (ci := 5) rfl i_Mod 10 (by decide) kw_4_89 d_Mod_isTurned_26 h (fun v_3 h => ?_)
    refine x_iload_n C0 hl 1 d_Mod_isTurned_29 rfl rfl ?_
    refine x_iald C0 hE hH (t := 0) rfl d_Mod_isTurned_30 h (fun v_4 h => ?_)
    refine lv_iconst (v := 3) C0.1 C0.2.1 d_Mod_isTurned_31 (by decide) ?_
    refine x_icmp_ne C0 44 d_Mod_isTurned_32 (by decide) h (fun h => ?_) (fun h => ?_)
    · refine lv_iconst (v := 0) C0.1 C0.2.1 d_Mod_isTurned_44 (by decide) ?_
      cases h
      rw [hQ]
      exact x_zretP C0 hr hlocks hP0 rfl d_Mod_isTurned_45
    · refine x_iload_n C0 hl 2 d_Mod_isTurned_35 rfl rfl ?_
      refine lv_iconst (v := 1) C0.1 C0.2.1 d_Mod_isTurned_36 (by decide) ?_
      refine x_icmp_le C0 44 d_Mod_isTurned_37 (by decide) h (fun h => ?_) (fun h => ?_)
      · refine lv_iconst (v := 0) C0.1 C0.2.1 d_Mod_isTurned_44 (by decide) ?_
        cases h
        rw [hQ]
        exact x_zretP C0 hr hlocks hP0 rfl d_Mod_isTurned_45
      · refine lv_iconst (v := 1) C0.1 C0.2.1 d_Mod_isTurned_40 (by decide) ?_
        refine x_goto C0 45 d_Mod_isTurned_41 (by decide) ?_
        cases h
        rw [hQ]
        exact x_zretP C0 hr hlocks hP0 rfl d_Mod_isTurned_45
  · refine x_iload_n C0 hl 2 d_Mod_isTurned_10 rfl rfl ?_
    refine lv_iconst (v := 2) C0.1 C0.2.1 d_Mod_isTurned_11 (by decide) ?_
    refine lv_irem C0.1 C0.2.1 d_Mod_isTurned_12 (by decide) ?_
    refine lv_iconst (v := 1) C0.1 C0.2.1 d_Mod_isTurned_13 (by decide) ?_
    refine x_icmp_ne C0 21 d_Mod_isTurned_14 (by decide) h (fun h => ?_) (fun h => ?_)
    · refine lv_iconst (v := 0) C0.1 C0.2.1 d_Mod_isTurned_21 (by decide) ?_
      refine x_goto C0 45 d_Mod_isTurned_22 (by decide) ?_
      cases h
      rw [hQ]
      exact x_zretP C0 hr hlocks hP0 rfl d_Mod_isTurned_45
    · refine lv_iconst (v := 1) C0.1 C0.2.1 d_Mod_isTurned_17 (by decide) ?_
      refine x_goto C0 45 d_Mod_isTurned_18 (by decide) ?_
      cases h
      rw [hQ]
      exact x_zretP C0 hr hlocks hP0 rfl d_Mod_isTurned_45
theorem d_Mod_grey_0 : decode b_Mod_grey 0 = .ok (.aload_n 0, 1) := by decide +kernel
theorem d_Mod_grey_1 : decode b_Mod_grey 1 = .ok (.getfield 38, 3) := by decide +kernel
theorem d_Mod_grey_4 : decode b_Mod_grey 4 = .ok (.bipush 8, 2) := by decide +kernel
theorem d_Mod_grey_6 : decode b_Mod_grey 6 = .ok (.iload_n 1, 1) := by decide +kernel
theorem d_Mod_grey_7 : decode b_Mod_grey 7 = .ok (.imul, 1) := by decide +kernel
theorem d_Mod_grey_8 : decode b_Mod_grey 8 = .ok (.iload_n 2, 1) := by decide +kernel
theorem d_Mod_grey_9 : decode b_Mod_grey 9 = .ok (.iadd, 1) := by decide +kernel
theorem d_Mod_grey_10 : decode b_Mod_grey 10 = .ok (.iaload, 1) := by decide +kernel
theorem d_Mod_grey_11 : decode b_Mod_grey 11 = .ok (.istore 5, 2) := by decide +kernel
theorem d_Mod_grey_13 : decode b_Mod_grey 13 = .ok (.aload_n 0, 1) := by decide +kernel
theorem d_Mod_grey_14 : decode b_Mod_grey 14 = .ok (.iload_n 1, 1) := by decide +kernel
theorem d_Mod_grey_15 : decode b_Mod_grey 15 = .ok (.iload_n 2, 1) := by decide +kernel
theorem d_Mod_grey_16 : decode b_Mod_grey 16 = .ok (.invokevirtual 88, 3) := by decide +kernel
theorem d_Mod_grey_19 : decode b_Mod_grey 19 = .ok (.ifCond .eq 17, 3) := by decide +kernel
theorem d_Mod_grey_22 : decode b_Mod_grey 22 = .ok (.aload_n 0, 1) := by decide +kernel
theorem d_Mod_grey_23 : decode b_Mod_grey 23 = .ok (.getfield 16, 3) := by decide +kernel
theorem d_Mod_grey_26 : decode b_Mod_grey 26 = .ok (.iload 5, 2) := by decide +kernel
theorem d_Mod_grey_28 : decode b_Mod_grey 28 = .ok (.iaload, 1) := by decide +kernel
theorem d_Mod_grey_29 : decode b_Mod_grey 29 = .ok (.iconst 1, 1) := by decide +kernel
theorem d_Mod_grey_30 : decode b_Mod_grey 30 = .ok (.isub, 1) := by decide +kernel
theorem d_Mod_grey_31 : decode b_Mod_grey 31 = .ok (.iload_n 3, 1) := by decide +kernel
theorem d_Mod_grey_32 : decode b_Mod_grey 32 = .ok (.isub, 1) := by decide +kernel
theorem d_Mod_grey_33 : decode b_Mod_grey 33 = .ok (.goto 4, 3) := by decide +kernel
theorem d_Mod_grey_36 : decode b_Mod_grey 36 = .ok (.iload_n 3, 1) := by decide +kernel
theorem d_Mod_grey_37 : decode b_Mod_grey 37 = .ok (.istore 6, 2) := by decide +kernel
theorem d_Mod_grey_39 : decode b_Mod_grey 39 = .ok (.aload_n 0, 1) := by decide +kernel
theorem d_Mod_grey_40 : decode b_Mod_grey 40 = .ok (.iload_n 1, 1) := by decide +kernel
theorem d_Mod_grey_41 : decode b_Mod_grey 41 = .ok (.iload_n 2, 1) := by decide +kernel
theorem d_Mod_grey_42 : decode b_Mod_grey 42 = .ok (.invokevirtual 92, 3) := by decide +kernel
theorem d_Mod_grey_45 : decode b_Mod_grey 45 = .ok (.ifCond .eq 18, 3) := by decide +kernel
theorem d_Mod_grey_48 : decode b_Mod_grey 48 = .ok (.aload_n 0, 1) := by decide +kernel
theorem d_Mod_grey_49 : decode b_Mod_grey 49 = .ok (.getfield 19, 3) := by decide +kernel
theorem d_Mod_grey_52 : decode b_Mod_grey 52 = .ok (.iload 5, 2) := by decide +kernel
theorem d_Mod_grey_54 : decode b_Mod_grey 54 = .ok (.iaload, 1) := by decide +kernel
theorem d_Mod_grey_55 : decode b_Mod_grey 55 = .ok (.iconst 1, 1) := by decide +kernel
theorem d_Mod_grey_56 : decode b_Mod_grey 56 = .ok (.isub, 1) := by decide +kernel
theorem d_Mod_grey_57 : decode b_Mod_grey 57 = .ok (.iload 4, 2) := by decide +kernel
theorem d_Mod_grey_59 : decode b_Mod_grey 59 = .ok (.isub, 1) := by decide +kernel
theorem d_Mod_grey_60 : decode b_Mod_grey 60 = .ok (.goto 5, 3) := by decide +kernel
theorem d_Mod_grey_63 : decode b_Mod_grey 63 = .ok (.iload 4, 2) := by decide +kernel
theorem d_Mod_grey_65 : decode b_Mod_grey 65 = .ok (.istore 7, 2) := by decide +kernel
theorem d_Mod_grey_67 : decode b_Mod_grey 67 = .ok (.aload_n 0, 1) := by decide +kernel
theorem d_Mod_grey_68 : decode b_Mod_grey 68 = .ok (.getfield 29, 3) := by decide +kernel
theorem d_Mod_grey_71 : decode b_Mod_grey 71 = .ok (.sipush 144, 3) := by decide +kernel
theorem d_Mod_grey_74 : decode b_Mod_grey 74 = .ok (.iload 5, 2) := by decide +kernel
theorem d_Mod_grey_76 : decode b_Mod_grey 76 = .ok (.imul, 1) := by decide +kernel
theorem d_Mod_grey_77 : decode b_Mod_grey 77 = .ok (.bipush 12, 2) := by decide +kernel
theorem d_Mod_grey_79 : decode b_Mod_grey 79 = .ok (.iload 7, 2) := by decide +kernel
theorem d_Mod_grey_81 : decode b_Mod_grey 81 = .ok (.imul, 1) := by decide +kernel
theorem d_Mod_grey_82 : decode b_Mod_grey 82 = .ok (.iadd, 1) := by decide +kernel
theorem d_Mod_grey_83 : decode b_Mod_grey 83 = .ok (.iload 6, 2) := by decide +kernel
theorem d_Mod_grey_85 : decode b_Mod_grey 85 = .ok (.iadd, 1) := by decide +kernel
theorem d_Mod_grey_86 : decode b_Mod_grey 86 = .ok (.iaload, 1) := by decide +kernel
theorem d_Mod_grey_87 : decode b_Mod_grey 87 = .ok (.ireturn, 1) := by decide +kernel
def f_Mod_grey (w : Mp) (h0 : Nat) (x1 : Int32) (x2 : Int32) (x3 : Int32) (x4 : Int32) : Option (Int32) := (gR w (some h0) 5 12).bind fun v_1 => (aI w v_1 0 (((8 : Int32) * x1) + x2)).bind fun v_2 => (xo w (some h0) 5).bind fun b_4 => (f_Mod_isMirrored w b_4 x1 x2).bind fun q_3 => xJ1 (fun (x_5 : Int32) => (xo w (some h0) 5).bind fun b_8 => (f_Mod_isTurned w b_8 x1 x2).bind fun q_7 => xJ1 (fun (x_9 : Int32) => (gR w (some h0) 5 8).bind fun v_11 => (aI w v_11 0 ((((144 : Int32) * v_2) + ((12 : Int32) * x_9)) + x_5)).bind fun v_12 => some v_12) fun J_10 => if q_7 = 0 then (J_10 x4) else ((gR w (some h0) 5 5).bind fun v_13 => (aI w v_13 0 v_2).bind fun v_14 => J_10 ((v_14 - (1 : Int32)) - x4))) fun J_6 => if q_3 = 0 then (J_6 x3) else ((gR w (some h0) 5 4).bind fun v_15 => (aI w v_15 0 v_2).bind fun v_16 => J_6 ((v_16 - (1 : Int32)) - x3))
set_option maxHeartbeats 4000000 in
set_option maxRecDepth 100000 in
theorem c_Mod_grey (l : Launch) (G : Gx) (w : Mp) (sz : Nat) (h0 : Nat) (x1 : Int32) (x2 : Int32) (x3 : Int32) (x4 : Int32) (res : Int32) (hf : f_Mod_grey w h0 x1 x2 x3 x4 = some res) : Met l y_Mod_grey (xws y_Mod_grey b_Mod_grey 8 (some .int)) { frames := 1, cells := 0, slots := 0, locals := 22 } (xPc G vwCl xaty w sz [va_rf (some h0), .int x1, .int x2, .int x3, .int x4]) (qP (some (.int res))) (0) (0) (fun _ => False) := by
  refine Met.ofW (cc := b_Mod_grey) (maxL := 8) (ret := (some .int)) (by decide) rfl ?_
  intro p e s m args below meth c s₁ B hml hv
  obtain ⟨ha, hE, hH, hz⟩ := hv
  have C0 : CallFix p m c b_Mod_grey 8 s args wA R_Mod := ⟨B.exec, B.bytes, hml, findClass_of_methodNamed B.named, fun w hw => atoms_spec (ws := xws y_Mod_grey b_Mod_grey 8 (some .int)) B.pre w (List.mem_cons_of_mem _ hw)⟩
  have hr := B.returns
  have hlocks := B.notSynchronized
  obtain ⟨R, hR⟩ : ∃ R, R = (headSpec (xws y_Mod_grey b_Mod_grey 8 (some .int)) { frames := 1, cells := 0, slots := 0, locals := 22 }).room := ⟨_, rfl⟩
  have hR1 : 1 ≤ R.frames := by rw [hR]; exact Nat.le_of_ble_eq_true rfl
  have hR2 : 22 ≤ R.locals := by rw [hR]; exact Nat.le_of_ble_eq_true rfl
  have hR3 : 0 ≤ R.cells := by rw [hR]; exact Nat.le_refl _
  have hR4 : 0 ≤ R.slots := by rw [hR]; exact Nat.le_refl _
  rw [← hR]
  obtain ⟨Q, hQ⟩ : ∃ Q, Q = MQ below (qP (some (.int res))) args s (0) (0) (fun _ => False) := ⟨_, rfl⟩
  rw [← hQ]
  have hS : xS G s s.heap [] := va_S.rf
  obtain ⟨ls, he, hl⟩ := x_entry m [.inr (.inl (some h0)), .inl x1, .inl x2, .inl x3, .inl x4] 8 (Nat.le_of_ble_eq_true rfl)
  rw [show entryFrame m args 8 = F0 m 0 ls [] by rw [ha]; exact he]
  have hl : xL ls 8 [(0, .inr (.inl (some h0))), (1, .inl x1), (2, .inl x2), (3, .inl x3), (4, .inl x4)] := hl
  have h := hf
  unfold f_Mod_grey at h
  suffices hmain : ∀ (H : Heap) (locs : List Loc), xhd G vwCl w H → xS G s H locs → H.size = sz → (H = s.heap ∧ locs = []) → W p l e R s m args below meth c H locs 0 0 Q (F0 m 0 ls []) from hmain _ _ hH hS hz ⟨rfl, rfl⟩
  clear hH hS hz
  intro H locs hH hS hz hP0
  refine x_aload_n C0 hl 0 d_Mod_grey_0 rfl rfl ?_
  refine x_getR C0 hE hH (ci := 5) rfl i_Mod 12 (by decide) kw_4_91 d_Mod_grey_1 h (fun v_1 h => ?_)
  refine lv_bipush (v := 8) C0.1 C0.2.1 d_Mod_grey_4 (by decide) ?_
  refine x_iload_n C0 hl 1 d_Mod_grey_6 rfl rfl ?_
  refine lv_imul C0.1 C0.2.1 d_Mod_grey_7 ?_
  refine x_iload_n C0 hl 2 d_Mod_grey_8 rfl rfl ?_
  refine lv_iadd C0.1 C0.2.1 d_Mod_grey_9 ?_
  refine x_iald C0 hE hH (t := 0) rfl d_Mod_grey_10 h (fun v_2 h => ?_)
  refine x_istore (lv' := [(5, .inl v_2), (0, .inr (.inl (some h0))), (1, .inl x1), (2, .inl x2), (3, .inl x3), (4, .inl x4)]) C0 hl d_Mod_grey_11 (by decide) rfl (fun ls hl => ?_)
  refine x_aload_n C0 hl 1 d_Mod_grey_13 rfl rfl ?_
  refine x_iload_n C0 hl 2 d_Mod_grey_14 rfl rfl ?_
  refine x_iload_n C0 hl 3 d_Mod_grey_15 rfl rfl ?_
  obtain ⟨b_4, e9, h⟩ := Option.bind_eq_some_iff.mp h
  obtain ⟨e8, fs9, hb9⟩ := xo_inv e9
  obtain ⟨q_3, e9, h⟩ := Option.bind_eq_some_iff.mp h
  refine x_callP (va_runV (As := [.int x1, .int x2]) (rest := []) C0 (c_Mod_isMirrored l G w _ b_4 x1 x2 q_3 e9) (x_cwV 2 C0 kw_4_190 kw_4_193 kw_1_3 kw_4_192 kw_0_18 (by decide +kernel) (x_rm hR1 hR2 (Nat.le_of_ble_eq_true rfl) (Nat.le_of_ble_eq_true rfl))) (x_preV hE hH hS (ci := 5) rfl hb9) rfl rfl hl.1 (by rw [e8]; rfl) (lv_room (by first | exact Nat.le_of_ble_eq_true rfl | simp only [List.map_cons, List.map_nil, List.sum_cons, List.sum_nil, va_rf_cat, x_catI, x_catL, x_catA] <;> decide)) d_Mod_grey_16 (x_le0 hR3 hR4)) ?_
  refine xj1 h (fun J_6 eJ_6 h => ?_)
  have kJ_6 : ∀ (x_5 : Int32) (ls : Array Slot), xL ls 8 [(0, .inr (.inl (some h0))), (1, .inl x1), (2, .inl x2), (4, .inl x4), (5, .inl v_2)] → J_6 x_5 = some res → W p l e R s m args below meth c H locs 0 0 Q (F0 m 37 ls [.int x_5]) := by
    intro x_5 ls hl h
    rw [eJ_6] at h
    refine x_istore (lv' := [(6, .inl x_5), (0, .inr (.inl (some h0))), (1, .inl x1), (2, .inl x2), (4, .inl x4), (5, .inl v_2)]) C0 hl d_Mod_grey_37 (by decide) rfl (fun ls hl => ?_)
    refine x_aload_n C0 hl 1 d_Mod_grey_39 rfl rfl ?_
    refine x_iload_n C0 hl 2 d_Mod_grey_40 rfl rfl ?_
    refine x_iload_n C0 hl 3 d_Mod_grey_41 rfl rfl ?_
    obtain ⟨b_8, e9, h⟩ := Option.bind_eq_some_iff.mp h
    obtain ⟨e8, fs9, hb9⟩ := xo_inv e9
    obtain ⟨q_7, e9, h⟩ := Option.bind_eq_some_iff.mp h
    refine x_callP (va_runV (As := [.int x1, .int x2]) (rest := []) C0 (c_Mod_isTurned l G w _ b_8 x1 x2 q_7 e9) (x_cwV 2 C0 kw_4_194 kw_4_197 kw_1_3 kw_4_196 kw_0_19 (by decide +kernel) (x_rm hR1 hR2 (Nat.le_of_ble_eq_true rfl) (Nat.le_of_ble_eq_true rfl))) (x_preV hE hH hS (ci := 5) rfl hb9) rfl rfl hl.1 (by rw [e8]; rfl) (lv_room (by first | exact Nat.le_of_ble_eq_true rfl | simp only [List.map_cons, List.map_nil, List.sum_cons, List.sum_nil, va_rf_cat, x_catI, x_catL, x_catA] <;> decide)) d_Mod_grey_42 (x_le0 hR3 hR4)) ?_
    refine xj1 h (fun J_10 eJ_10 h => ?_)
    have kJ_10 : ∀ (x_9 : Int32) (ls : Array Slot), xL ls 8 [(0, .inr (.inl (some h0))), (5, .inl v_2), (6, .inl x_5)] → J_10 x_9 = some res → W p l e R s m args below meth c H locs 0 0 Q (F0 m 65 ls [.int x_9]) := by
      intro x_9 ls hl h
      rw [eJ_10] at h
      refine x_istore (lv' := [(7, .inl x_9), (0, .inr (.inl (some h0))), (5, .inl v_2), (6, .inl x_5)]) C0 hl d_Mod_grey_65 (by decide) rfl (fun ls hl => ?_)
      refine x_aload_n C0 hl 1 d_Mod_grey_67 rfl rfl ?_
      refine x_getR C0 hE hH (ci := 5) rfl i_Mod 8 (by decide) kw_4_87 d_Mod_grey_68 h (fun v_11 h => ?_)
      refine lv_sipush (v := 144) C0.1 C0.2.1 d_Mod_grey_71 (by decide) ?_
      refine x_iload C0 hl 2 d_Mod_grey_74 rfl ?_
      refine lv_imul C0.1 C0.2.1 d_Mod_grey_76 ?_
      refine lv_bipush (v := 12) C0.1 C0.2.1 d_Mod_grey_77 (by decide) ?_
      refine x_iload C0 hl 0 d_Mod_grey_79 rfl ?_
      refine lv_imul C0.1 C0.2.1 d_Mod_grey_81 ?_
      refine lv_iadd C0.1 C0.2.1 d_Mod_grey_82 ?_
      refine x_iload C0 hl 3 d_Mod_grey_83 rfl ?_
      refine lv_iadd C0.1 C0.2.1 d_Mod_grey_85 ?_
      refine x_iald C0 hE hH (t := 0) rfl d_Mod_grey_86 h (fun v_12 h => ?_)
      cases h
      rw [hQ]
      exact x_iretP C0 hr hlocks hP0 d_Mod_grey_87
    refine x_if_eq C0 63 d_Mod_grey_45 (by decide) h (fun h => ?_) (fun h => ?_)
    · refine x_iload C0 hl 4 d_Mod_grey_63 rfl ?_
      exact kJ_10 _ ls (x_sub hl [1, 5, 0] rfl) h
    · refine x_aload_n C0 hl 1 d_Mod_grey_48 rfl rfl ?_
      refine x_getR C0 hE hH (ci := 5) rfl i_Mod 5 (by decide) kw_4_84 d_Mod_grey_49 h (fun v_13 h => ?_)
      refine x_iload C0 hl 5 d_Mod_grey_52 rfl ?_
      refine x_iald C0 hE hH (t := 0) rfl d_Mod_grey_54 h (fun v_14 h => ?_)
      refine lv_iconst (v := 1) C0.1 C0.2.1 d_Mod_grey_55 (by decide) ?_
      refine lv_isub C0.1 C0.2.1 d_Mod_grey_56 ?_
      refine x_iload C0 hl 4 d_Mod_grey_57 rfl ?_
      refine lv_isub C0.1 C0.2.1 d_Mod_grey_59 ?_
      refine x_goto C0 65 d_Mod_grey_60 (by decide) ?_
      exact kJ_10 _ ls (x_sub hl [1, 5, 0] rfl) h
  refine x_if_eq C0 36 d_Mod_grey_19 (by decide) h (fun h => ?_) (fun h => ?_)
  · refine x_iload_n C0 hl 4 d_Mod_grey_36 rfl rfl ?_
    exact kJ_6 _ ls (x_sub hl [1, 2, 3, 5, 0] rfl) h
  · refine x_aload_n C0 hl 1 d_Mod_grey_22 rfl rfl ?_
    refine x_getR C0 hE hH (ci := 5) rfl i_Mod 4 (by decide) kw_4_83 d_Mod_grey_23 h (fun v_15 h => ?_)
    refine x_iload C0 hl 0 d_Mod_grey_26 rfl ?_
    refine x_iald C0 hE hH (t := 0) rfl d_Mod_grey_28 h (fun v_16 h => ?_)
    refine lv_iconst (v := 1) C0.1 C0.2.1 d_Mod_grey_29 (by decide) ?_
    refine lv_isub C0.1 C0.2.1 d_Mod_grey_30 ?_
    refine x_iload_n C0 hl 4 d_Mod_grey_31 rfl rfl ?_
    refine lv_isub C0.1 C0.2.1 d_Mod_grey_32 ?_
    refine x_goto C0 37 d_Mod_grey_33 (by decide) ?_
    exact kJ_6 _ ls (x_sub hl [1, 2, 3, 5, 0] rfl) h
theorem d_Mod_wide_0 : decode b_Mod_wide 0 = .ok (.aload_n 0, 1) := by decide +kernel
theorem d_Mod_wide_1 : decode b_Mod_wide 1 = .ok (.getfield 16, 3) := by decide +kernel
theorem d_Mod_wide_4 : decode b_Mod_wide 4 = .ok (.aload_n 0, 1) := by decide +kernel
theorem d_Mod_wide_5 : decode b_Mod_wide 5 = .ok (.getfield 38, 3) := by decide +kernel
theorem d_Mod_wide_8 : decode b_Mod_wide 8 = .ok (.bipush 8, 2) := by decide +kernel
theorem d_Mod_wide_10 : decode b_Mod_wide 10 = .ok (.iload_n 1, 1) := by decide +kernel
theorem d_Mod_wide_11 : decode b_Mod_wide 11 = .ok (.imul, 1) := by decide +kernel
theorem d_Mod_wide_12 : decode b_Mod_wide 12 = .ok (.iload_n 2, 1) := by decide +kernel
theorem d_Mod_wide_13 : decode b_Mod_wide 13 = .ok (.iadd, 1) := by decide +kernel
theorem d_Mod_wide_14 : decode b_Mod_wide 14 = .ok (.iaload, 1) := by decide +kernel
theorem d_Mod_wide_15 : decode b_Mod_wide 15 = .ok (.iaload, 1) := by decide +kernel
theorem d_Mod_wide_16 : decode b_Mod_wide 16 = .ok (.ireturn, 1) := by decide +kernel
def f_Mod_wide (w : Mp) (h0 : Nat) (x1 : Int32) (x2 : Int32) : Option (Int32) := (gR w (some h0) 5 4).bind fun v_1 => (gR w (some h0) 5 12).bind fun v_2 => (aI w v_2 0 (((8 : Int32) * x1) + x2)).bind fun v_3 => (aI w v_1 0 v_3).bind fun v_4 => some v_4
set_option maxHeartbeats 4000000 in
set_option maxRecDepth 100000 in
theorem c_Mod_wide (l : Launch) (G : Gx) (w : Mp) (sz : Nat) (h0 : Nat) (x1 : Int32) (x2 : Int32) (res : Int32) (hf : f_Mod_wide w h0 x1 x2 = some res) : Met l y_Mod_wide (xws y_Mod_wide b_Mod_wide 3 (some .int)) { frames := 0, cells := 0, slots := 0, locals := 0 } (xPc G vwCl xaty w sz [va_rf (some h0), .int x1, .int x2]) (qP (some (.int res))) (0) (0) (fun _ => False) := by
  refine Met.ofW (cc := b_Mod_wide) (maxL := 3) (ret := (some .int)) (by decide) rfl ?_
  intro p e s m args below meth c s₁ B hml hv
  obtain ⟨ha, hE, hH, hz⟩ := hv
  have C0 : CallFix p m c b_Mod_wide 3 s args wA R_Mod := ⟨B.exec, B.bytes, hml, findClass_of_methodNamed B.named, fun w hw => atoms_spec (ws := xws y_Mod_wide b_Mod_wide 3 (some .int)) B.pre w (List.mem_cons_of_mem _ hw)⟩
  have hr := B.returns
  have hlocks := B.notSynchronized
  obtain ⟨R, hR⟩ : ∃ R, R = (headSpec (xws y_Mod_wide b_Mod_wide 3 (some .int)) { frames := 0, cells := 0, slots := 0, locals := 0 }).room := ⟨_, rfl⟩
  have hR1 : 0 ≤ R.frames := by rw [hR]; exact Nat.le_of_ble_eq_true rfl
  have hR2 : 0 ≤ R.locals := by rw [hR]; exact Nat.le_of_ble_eq_true rfl
  have hR3 : 0 ≤ R.cells := by rw [hR]; exact Nat.le_refl _
  have hR4 : 0 ≤ R.slots := by rw [hR]; exact Nat.le_refl _
  rw [← hR]
  obtain ⟨Q, hQ⟩ : ∃ Q, Q = MQ below (qP (some (.int res))) args s (0) (0) (fun _ => False) := ⟨_, rfl⟩
  rw [← hQ]
  have hS : xS G s s.heap [] := va_S.rf
  obtain ⟨ls, he, hl⟩ := x_entry m [.inr (.inl (some h0)), .inl x1, .inl x2] 3 (Nat.le_of_ble_eq_true rfl)
  rw [show entryFrame m args 3 = F0 m 0 ls [] by rw [ha]; exact he]
  have hl : xL ls 3 [(0, .inr (.inl (some h0))), (1, .inl x1), (2, .inl x2)] := hl
  have h := hf
  unfold f_Mod_wide at h
  suffices hmain : ∀ (H : Heap) (locs : List Loc), xhd G vwCl w H → xS G s H locs → H.size = sz → (H = s.heap ∧ locs = []) → W p l e R s m args below meth c H locs 0 0 Q (F0 m 0 ls []) from hmain _ _ hH hS hz ⟨rfl, rfl⟩
  clear hH hS hz
  intro H locs hH hS hz hP0
  refine x_aload_n C0 hl 0 d_Mod_wide_0 rfl rfl ?_
  refine x_getR C0 hE hH (ci := 5) rfl i_Mod 4 (by decide) kw_4_83 d_Mod_wide_1 h (fun v_1 h => ?_)
  refine x_aload_n C0 hl 0 d_Mod_wide_4 rfl rfl ?_
  refine x_getR C0 hE hH (ci := 5) rfl i_Mod 12 (by decide) kw_4_91 d_Mod_wide_5 h (fun v_2 h => ?_)
  refine lv_bipush (v := 8) C0.1 C0.2.1 d_Mod_wide_8 (by decide) ?_
  refine x_iload_n C0 hl 1 d_Mod_wide_10 rfl rfl ?_
  refine lv_imul C0.1 C0.2.1 d_Mod_wide_11 ?_
  refine x_iload_n C0 hl 2 d_Mod_wide_12 rfl rfl ?_
  refine lv_iadd C0.1 C0.2.1 d_Mod_wide_13 ?_
  refine x_iald C0 hE hH (t := 0) rfl d_Mod_wide_14 h (fun v_3 h => ?_)
  refine x_iald C0 hE hH (t := 0) rfl d_Mod_wide_15 h (fun v_4 h => ?_)
  cases h
  rw [hQ]
  exact x_iretP C0 hr hlocks hP0 d_Mod_wide_16
theorem d_Mod_high_0 : decode b_Mod_high 0 = .ok (.aload_n 0, 1) := by decide +kernel
theorem d_Mod_high_1 : decode b_Mod_high 1 = .ok (.getfield 19, 3) := by decide +kernel
theorem d_Mod_high_4 : decode b_Mod_high 4 = .ok (.aload_n 0, 1) := by decide +kernel
theorem d_Mod_high_5 : decode b_Mod_high 5 = .ok (.getfield 38, 3) := by decide +kernel
theorem d_Mod_high_8 : decode b_Mod_high 8 = .ok (.bipush 8, 2) := by decide +kernel
theorem d_Mod_high_10 : decode b_Mod_high 10 = .ok (.iload_n 1, 1) := by decide +kernel
theorem d_Mod_high_11 : decode b_Mod_high 11 = .ok (.imul, 1) := by decide +kernel
theorem d_Mod_high_12 : decode b_Mod_high 12 = .ok (.iload_n 2, 1) := by decide +kernel
theorem d_Mod_high_13 : decode b_Mod_high 13 = .ok (.iadd, 1) := by decide +kernel
theorem d_Mod_high_14 : decode b_Mod_high 14 = .ok (.iaload, 1) := by decide +kernel
theorem d_Mod_high_15 : decode b_Mod_high 15 = .ok (.iaload, 1) := by decide +kernel
theorem d_Mod_high_16 : decode b_Mod_high 16 = .ok (.ireturn, 1) := by decide +kernel
def f_Mod_high (w : Mp) (h0 : Nat) (x1 : Int32) (x2 : Int32) : Option (Int32) := (gR w (some h0) 5 5).bind fun v_1 => (gR w (some h0) 5 12).bind fun v_2 => (aI w v_2 0 (((8 : Int32) * x1) + x2)).bind fun v_3 => (aI w v_1 0 v_3).bind fun v_4 => some v_4
set_option maxHeartbeats 4000000 in
set_option maxRecDepth 100000 in
theorem c_Mod_high (l : Launch) (G : Gx) (w : Mp) (sz : Nat) (h0 : Nat) (x1 : Int32) (x2 : Int32) (res : Int32) (hf : f_Mod_high w h0 x1 x2 = some res) : Met l y_Mod_high (xws y_Mod_high b_Mod_high 3 (some .int)) { frames := 0, cells := 0, slots := 0, locals := 0 } (xPc G vwCl xaty w sz [va_rf (some h0), .int x1, .int x2]) (qP (some (.int res))) (0) (0) (fun _ => False) := by
  refine Met.ofW (cc := b_Mod_high) (maxL := 3) (ret := (some .int)) (by decide) rfl ?_
  intro p e s m args below meth c s₁ B hml hv
  obtain ⟨ha, hE, hH, hz⟩ := hv
  have C0 : CallFix p m c b_Mod_high 3 s args wA R_Mod := ⟨B.exec, B.bytes, hml, findClass_of_methodNamed B.named, fun w hw => atoms_spec (ws := xws y_Mod_high b_Mod_high 3 (some .int)) B.pre w (List.mem_cons_of_mem _ hw)⟩
  have hr := B.returns
  have hlocks := B.notSynchronized
  obtain ⟨R, hR⟩ : ∃ R, R = (headSpec (xws y_Mod_high b_Mod_high 3 (some .int)) { frames := 0, cells := 0, slots := 0, locals := 0 }).room := ⟨_, rfl⟩
  have hR1 : 0 ≤ R.frames := by rw [hR]; exact Nat.le_of_ble_eq_true rfl
  have hR2 : 0 ≤ R.locals := by rw [hR]; exact Nat.le_of_ble_eq_true rfl
  have hR3 : 0 ≤ R.cells := by rw [hR]; exact Nat.le_refl _
  have hR4 : 0 ≤ R.slots := by rw [hR]; exact Nat.le_refl _
  rw [← hR]
  obtain ⟨Q, hQ⟩ : ∃ Q, Q = MQ below (qP (some (.int res))) args s (0) (0) (fun _ => False) := ⟨_, rfl⟩
  rw [← hQ]
  have hS : xS G s s.heap [] := va_S.rf
  obtain ⟨ls, he, hl⟩ := x_entry m [.inr (.inl (some h0)), .inl x1, .inl x2] 3 (Nat.le_of_ble_eq_true rfl)
  rw [show entryFrame m args 3 = F0 m 0 ls [] by rw [ha]; exact he]
  have hl : xL ls 3 [(0, .inr (.inl (some h0))), (1, .inl x1), (2, .inl x2)] := hl
  have h := hf
  unfold f_Mod_high at h
  suffices hmain : ∀ (H : Heap) (locs : List Loc), xhd G vwCl w H → xS G s H locs → H.size = sz → (H = s.heap ∧ locs = []) → W p l e R s m args below meth c H locs 0 0 Q (F0 m 0 ls []) from hmain _ _ hH hS hz ⟨rfl, rfl⟩
  clear hH hS hz
  intro H locs hH hS hz hP0
  refine x_aload_n C0 hl 0 d_Mod_high_0 rfl rfl ?_
  refine x_getR C0 hE hH (ci := 5) rfl i_Mod 5 (by decide) kw_4_84 d_Mod_high_1 h (fun v_1 h => ?_)
  refine x_aload_n C0 hl 0 d_Mod_high_4 rfl rfl ?_
  refine x_getR C0 hE hH (ci := 5) rfl i_Mod 12 (by decide) kw_4_91 d_Mod_high_5 h (fun v_2 h => ?_)
  refine lv_bipush (v := 8) C0.1 C0.2.1 d_Mod_high_8 (by decide) ?_
  refine x_iload_n C0 hl 1 d_Mod_high_10 rfl rfl ?_
  refine lv_imul C0.1 C0.2.1 d_Mod_high_11 ?_
  refine x_iload_n C0 hl 2 d_Mod_high_12 rfl rfl ?_
  refine lv_iadd C0.1 C0.2.1 d_Mod_high_13 ?_
  refine x_iald C0 hE hH (t := 0) rfl d_Mod_high_14 h (fun v_3 h => ?_)
  refine x_iald C0 hE hH (t := 0) rfl d_Mod_high_15 h (fun v_4 h => ?_)
  cases h
  rw [hQ]
  exact x_iretP C0 hr hlocks hP0 d_Mod_high_16
theorem d_Mod_seams_0 : decode b_Mod_seams 0 = .ok (.aload_n 0, 1) := by decide +kernel
theorem d_Mod_seams_1 : decode b_Mod_seams 1 = .ok (.getfield 32, 3) := by decide +kernel
theorem d_Mod_seams_4 : decode b_Mod_seams 4 = .ok (.iload_n 1, 1) := by decide +kernel
theorem d_Mod_seams_5 : decode b_Mod_seams 5 = .ok (.iaload, 1) := by decide +kernel
theorem d_Mod_seams_6 : decode b_Mod_seams 6 = .ok (.iconst 3, 1) := by decide +kernel
theorem d_Mod_seams_7 : decode b_Mod_seams 7 = .ok (.if_icmp .ne 7, 3) := by decide +kernel
theorem d_Mod_seams_10 : decode b_Mod_seams 10 = .ok (.iconst 2, 1) := by decide +kernel
theorem d_Mod_seams_11 : decode b_Mod_seams 11 = .ok (.goto 11, 3) := by decide +kernel
theorem d_Mod_seams_14 : decode b_Mod_seams 14 = .ok (.aload_n 0, 1) := by decide +kernel
theorem d_Mod_seams_15 : decode b_Mod_seams 15 = .ok (.getfield 35, 3) := by decide +kernel
theorem d_Mod_seams_18 : decode b_Mod_seams 18 = .ok (.iload_n 1, 1) := by decide +kernel
theorem d_Mod_seams_19 : decode b_Mod_seams 19 = .ok (.iaload, 1) := by decide +kernel
theorem d_Mod_seams_20 : decode b_Mod_seams 20 = .ok (.iconst 1, 1) := by decide +kernel
theorem d_Mod_seams_21 : decode b_Mod_seams 21 = .ok (.isub, 1) := by decide +kernel
theorem d_Mod_seams_22 : decode b_Mod_seams 22 = .ok (.ireturn, 1) := by decide +kernel
def f_Mod_seams (w : Mp) (h0 : Nat) (x1 : Int32) : Option (Int32) := (gR w (some h0) 5 10).bind fun v_1 => (aI w v_1 0 x1).bind fun v_2 => if v_2 = (3 : Int32) then (some (2 : Int32)) else ((gR w (some h0) 5 11).bind fun v_3 => (aI w v_3 0 x1).bind fun v_4 => some (v_4 - (1 : Int32)))
set_option maxHeartbeats 4000000 in
set_option maxRecDepth 100000 in
theorem c_Mod_seams (l : Launch) (G : Gx) (w : Mp) (sz : Nat) (h0 : Nat) (x1 : Int32) (res : Int32) (hf : f_Mod_seams w h0 x1 = some res) : Met l y_Mod_seams (xws y_Mod_seams b_Mod_seams 2 (some .int)) { frames := 0, cells := 0, slots := 0, locals := 0 } (xPc G vwCl xaty w sz [va_rf (some h0), .int x1]) (qP (some (.int res))) (0) (0) (fun _ => False) := by
  refine Met.ofW (cc := b_Mod_seams) (maxL := 2) (ret := (some .int)) (by decide) rfl ?_
  intro p e s m args below meth c s₁ B hml hv
  obtain ⟨ha, hE, hH, hz⟩ := hv
  have C0 : CallFix p m c b_Mod_seams 2 s args wA R_Mod := ⟨B.exec, B.bytes, hml, findClass_of_methodNamed B.named, fun w hw => atoms_spec (ws := xws y_Mod_seams b_Mod_seams 2 (some .int)) B.pre w (List.mem_cons_of_mem _ hw)⟩
  have hr := B.returns
  have hlocks := B.notSynchronized
  obtain ⟨R, hR⟩ : ∃ R, R = (headSpec (xws y_Mod_seams b_Mod_seams 2 (some .int)) { frames := 0, cells := 0, slots := 0, locals := 0 }).room := ⟨_, rfl⟩
  have hR1 : 0 ≤ R.frames := by rw [hR]; exact Nat.le_of_ble_eq_true rfl
  have hR2 : 0 ≤ R.locals := by rw [hR]; exact Nat.le_of_ble_eq_true rfl
  have hR3 : 0 ≤ R.cells := by rw [hR]; exact Nat.le_refl _
  have hR4 : 0 ≤ R.slots := by rw [hR]; exact Nat.le_refl _
  rw [← hR]
  obtain ⟨Q, hQ⟩ : ∃ Q, Q = MQ below (qP (some (.int res))) args s (0) (0) (fun _ => False) := ⟨_, rfl⟩
  rw [← hQ]
  have hS : xS G s s.heap [] := va_S.rf
  obtain ⟨ls, he, hl⟩ := x_entry m [.inr (.inl (some h0)), .inl x1] 2 (Nat.le_of_ble_eq_true rfl)
  rw [show entryFrame m args 2 = F0 m 0 ls [] by rw [ha]; exact he]
  have hl : xL ls 2 [(0, .inr (.inl (some h0))), (1, .inl x1)] := hl
  have h := hf
  unfold f_Mod_seams at h
  suffices hmain : ∀ (H : Heap) (locs : List Loc), xhd G vwCl w H → xS G s H locs → H.size = sz → (H = s.heap ∧ locs = []) → W p l e R s m args below meth c H locs 0 0 Q (F0 m 0 ls []) from hmain _ _ hH hS hz ⟨rfl, rfl⟩
  clear hH hS hz
  intro H locs hH hS hz hP0
  refine x_aload_n C0 hl 0 d_Mod_seams_0 rfl rfl ?_
  refine x_getR C0 hE hH (ci := 5) rfl i_Mod 10 (by decide) kw_4_89 d_Mod_seams_1 h (fun v_1 h => ?_)
  refine x_iload_n C0 hl 1 d_Mod_seams_4 rfl rfl ?_
  refine x_iald C0 hE hH (t := 0) rfl d_Mod_seams_5 h (fun v_2 h => ?_)
  refine lv_iconst (v := 3) C0.1 C0.2.1 d_Mod_seams_6 (by decide) ?_
  refine x_icmp_ne C0 14 d_Mod_seams_7 (by decide) h (fun h => ?_) (fun h => ?_)
  · refine x_aload_n C0 hl 0 d_Mod_seams_14 rfl rfl ?_
    refine x_getR C0 hE hH (ci := 5) rfl i_Mod 11 (by decide) kw_4_90 d_Mod_seams_15 h (fun v_3 h => ?_)
    refine x_iload_n C0 hl 1 d_Mod_seams_18 rfl rfl ?_
    refine x_iald C0 hE hH (t := 0) rfl d_Mod_seams_19 h (fun v_4 h => ?_)
    refine lv_iconst (v := 1) C0.1 C0.2.1 d_Mod_seams_20 (by decide) ?_
    refine lv_isub C0.1 C0.2.1 d_Mod_seams_21 ?_
    cases h
    rw [hQ]
    exact x_iretP C0 hr hlocks hP0 d_Mod_seams_22
  · refine lv_iconst (v := 2) C0.1 C0.2.1 d_Mod_seams_10 (by decide) ?_
    refine x_goto C0 22 d_Mod_seams_11 (by decide) ?_
    cases h
    rw [hQ]
    exact x_iretP C0 hr hlocks hP0 d_Mod_seams_22
theorem d_Mod_leftOf_0 : decode b_Mod_leftOf 0 = .ok (.aload_n 0, 1) := by decide +kernel
theorem d_Mod_leftOf_1 : decode b_Mod_leftOf 1 = .ok (.getfield 32, 3) := by decide +kernel
theorem d_Mod_leftOf_4 : decode b_Mod_leftOf 4 = .ok (.iload_n 1, 1) := by decide +kernel
theorem d_Mod_leftOf_5 : decode b_Mod_leftOf 5 = .ok (.iaload, 1) := by decide +kernel
theorem d_Mod_leftOf_6 : decode b_Mod_leftOf 6 = .ok (.iconst 3, 1) := by decide +kernel
theorem d_Mod_leftOf_7 : decode b_Mod_leftOf 7 = .ok (.if_icmp .ne 9, 3) := by decide +kernel
theorem d_Mod_leftOf_10 : decode b_Mod_leftOf 10 = .ok (.iconst 2, 1) := by decide +kernel
theorem d_Mod_leftOf_11 : decode b_Mod_leftOf 11 = .ok (.iload_n 2, 1) := by decide +kernel
theorem d_Mod_leftOf_12 : decode b_Mod_leftOf 12 = .ok (.imul, 1) := by decide +kernel
theorem d_Mod_leftOf_13 : decode b_Mod_leftOf 13 = .ok (.goto 4, 3) := by decide +kernel
theorem d_Mod_leftOf_16 : decode b_Mod_leftOf 16 = .ok (.iload_n 2, 1) := by decide +kernel
theorem d_Mod_leftOf_17 : decode b_Mod_leftOf 17 = .ok (.ireturn, 1) := by decide +kernel
def f_Mod_leftOf (w : Mp) (h0 : Nat) (x1 : Int32) (x2 : Int32) : Option (Int32) := (gR w (some h0) 5 10).bind fun v_1 => (aI w v_1 0 x1).bind fun v_2 => if v_2 = (3 : Int32) then (some ((2 : Int32) * x2)) else (some x2)
set_option maxHeartbeats 4000000 in
set_option maxRecDepth 100000 in
theorem c_Mod_leftOf (l : Launch) (G : Gx) (w : Mp) (sz : Nat) (h0 : Nat) (x1 : Int32) (x2 : Int32) (res : Int32) (hf : f_Mod_leftOf w h0 x1 x2 = some res) : Met l y_Mod_leftOf (xws y_Mod_leftOf b_Mod_leftOf 3 (some .int)) { frames := 0, cells := 0, slots := 0, locals := 0 } (xPc G vwCl xaty w sz [va_rf (some h0), .int x1, .int x2]) (qP (some (.int res))) (0) (0) (fun _ => False) := by
  refine Met.ofW (cc := b_Mod_leftOf) (maxL := 3) (ret := (some .int)) (by decide) rfl ?_
  intro p e s m args below meth c s₁ B hml hv
  obtain ⟨ha, hE, hH, hz⟩ := hv
  have C0 : CallFix p m c b_Mod_leftOf 3 s args wA R_Mod := ⟨B.exec, B.bytes, hml, findClass_of_methodNamed B.named, fun w hw => atoms_spec (ws := xws y_Mod_leftOf b_Mod_leftOf 3 (some .int)) B.pre w (List.mem_cons_of_mem _ hw)⟩
  have hr := B.returns
  have hlocks := B.notSynchronized
  obtain ⟨R, hR⟩ : ∃ R, R = (headSpec (xws y_Mod_leftOf b_Mod_leftOf 3 (some .int)) { frames := 0, cells := 0, slots := 0, locals := 0 }).room := ⟨_, rfl⟩
  have hR1 : 0 ≤ R.frames := by rw [hR]; exact Nat.le_of_ble_eq_true rfl
  have hR2 : 0 ≤ R.locals := by rw [hR]; exact Nat.le_of_ble_eq_true rfl
  have hR3 : 0 ≤ R.cells := by rw [hR]; exact Nat.le_refl _
  have hR4 : 0 ≤ R.slots := by rw [hR]; exact Nat.le_refl _
  rw [← hR]
  obtain ⟨Q, hQ⟩ : ∃ Q, Q = MQ below (qP (some (.int res))) args s (0) (0) (fun _ => False) := ⟨_, rfl⟩
  rw [← hQ]
  have hS : xS G s s.heap [] := va_S.rf
  obtain ⟨ls, he, hl⟩ := x_entry m [.inr (.inl (some h0)), .inl x1, .inl x2] 3 (Nat.le_of_ble_eq_true rfl)
  rw [show entryFrame m args 3 = F0 m 0 ls [] by rw [ha]; exact he]
  have hl : xL ls 3 [(0, .inr (.inl (some h0))), (1, .inl x1), (2, .inl x2)] := hl
  have h := hf
  unfold f_Mod_leftOf at h
  suffices hmain : ∀ (H : Heap) (locs : List Loc), xhd G vwCl w H → xS G s H locs → H.size = sz → (H = s.heap ∧ locs = []) → W p l e R s m args below meth c H locs 0 0 Q (F0 m 0 ls []) from hmain _ _ hH hS hz ⟨rfl, rfl⟩
  clear hH hS hz
  intro H locs hH hS hz hP0
  refine x_aload_n C0 hl 0 d_Mod_leftOf_0 rfl rfl ?_
  refine x_getR C0 hE hH (ci := 5) rfl i_Mod 10 (by decide) kw_4_89 d_Mod_leftOf_1 h (fun v_1 h => ?_)
  refine x_iload_n C0 hl 1 d_Mod_leftOf_4 rfl rfl ?_
  refine x_iald C0 hE hH (t := 0) rfl d_Mod_leftOf_5 h (fun v_2 h => ?_)
  refine lv_iconst (v := 3) C0.1 C0.2.1 d_Mod_leftOf_6 (by decide) ?_
  refine x_icmp_ne C0 16 d_Mod_leftOf_7 (by decide) h (fun h => ?_) (fun h => ?_)
  · refine x_iload_n C0 hl 2 d_Mod_leftOf_16 rfl rfl ?_
    cases h
    rw [hQ]
    exact x_iretP C0 hr hlocks hP0 d_Mod_leftOf_17
  · refine lv_iconst (v := 2) C0.1 C0.2.1 d_Mod_leftOf_10 (by decide) ?_
    refine x_iload_n C0 hl 2 d_Mod_leftOf_11 rfl rfl ?_
    refine lv_imul C0.1 C0.2.1 d_Mod_leftOf_12 ?_
    refine x_goto C0 17 d_Mod_leftOf_13 (by decide) ?_
    cases h
    rw [hQ]
    exact x_iretP C0 hr hlocks hP0 d_Mod_leftOf_17
theorem d_Mod_sumAt_0 : decode b_Mod_sumAt 0 = .ok (.aload_n 0, 1) := by decide +kernel
theorem d_Mod_sumAt_1 : decode b_Mod_sumAt 1 = .ok (.iload_n 1, 1) := by decide +kernel
theorem d_Mod_sumAt_2 : decode b_Mod_sumAt 2 = .ok (.iload_n 2, 1) := by decide +kernel
theorem d_Mod_sumAt_3 : decode b_Mod_sumAt 3 = .ok (.invokevirtual 95, 3) := by decide +kernel
theorem d_Mod_sumAt_6 : decode b_Mod_sumAt 6 = .ok (.istore 4, 2) := by decide +kernel
theorem d_Mod_sumAt_8 : decode b_Mod_sumAt 8 = .ok (.iconst 0, 1) := by decide +kernel
theorem d_Mod_sumAt_9 : decode b_Mod_sumAt 9 = .ok (.istore 5, 2) := by decide +kernel
theorem d_Mod_sumAt_11 : decode b_Mod_sumAt 11 = .ok (.iconst 0, 1) := by decide +kernel
theorem d_Mod_sumAt_12 : decode b_Mod_sumAt 12 = .ok (.istore 6, 2) := by decide +kernel
theorem d_Mod_sumAt_14 : decode b_Mod_sumAt 14 = .ok (.iload 6, 2) := by decide +kernel
theorem d_Mod_sumAt_16 : decode b_Mod_sumAt 16 = .ok (.aload_n 0, 1) := by decide +kernel
theorem d_Mod_sumAt_17 : decode b_Mod_sumAt 17 = .ok (.iload_n 1, 1) := by decide +kernel
theorem d_Mod_sumAt_18 : decode b_Mod_sumAt 18 = .ok (.iload 4, 2) := by decide +kernel
theorem d_Mod_sumAt_20 : decode b_Mod_sumAt 20 = .ok (.invokevirtual 99, 3) := by decide +kernel
theorem d_Mod_sumAt_23 : decode b_Mod_sumAt 23 = .ok (.if_icmp .ge 94, 3) := by decide +kernel
theorem d_Mod_sumAt_26 : decode b_Mod_sumAt 26 = .ok (.iload 6, 2) := by decide +kernel
theorem d_Mod_sumAt_28 : decode b_Mod_sumAt 28 = .ok (.iload_n 3, 1) := by decide +kernel
theorem d_Mod_sumAt_29 : decode b_Mod_sumAt 29 = .ok (.isub, 1) := by decide +kernel
theorem d_Mod_sumAt_30 : decode b_Mod_sumAt 30 = .ok (.istore 7, 2) := by decide +kernel
theorem d_Mod_sumAt_32 : decode b_Mod_sumAt 32 = .ok (.iload 7, 2) := by decide +kernel
theorem d_Mod_sumAt_34 : decode b_Mod_sumAt 34 = .ok (.ifCond .lt 17, 3) := by decide +kernel
theorem d_Mod_sumAt_37 : decode b_Mod_sumAt 37 = .ok (.iload 7, 2) := by decide +kernel
theorem d_Mod_sumAt_39 : decode b_Mod_sumAt 39 = .ok (.aload_n 0, 1) := by decide +kernel
theorem d_Mod_sumAt_40 : decode b_Mod_sumAt 40 = .ok (.iload_n 1, 1) := by decide +kernel
theorem d_Mod_sumAt_41 : decode b_Mod_sumAt 41 = .ok (.iload 4, 2) := by decide +kernel
theorem d_Mod_sumAt_43 : decode b_Mod_sumAt 43 = .ok (.iconst 1, 1) := by decide +kernel
theorem d_Mod_sumAt_44 : decode b_Mod_sumAt 44 = .ok (.iadd, 1) := by decide +kernel
theorem d_Mod_sumAt_45 : decode b_Mod_sumAt 45 = .ok (.invokevirtual 99, 3) := by decide +kernel
theorem d_Mod_sumAt_48 : decode b_Mod_sumAt 48 = .ok (.if_icmp .lt 12, 3) := by decide +kernel
theorem d_Mod_sumAt_51 : decode b_Mod_sumAt 51 = .ok (.iinc 5 255, 6) := by decide +kernel
theorem d_Mod_sumAt_57 : decode b_Mod_sumAt 57 = .ok (.goto 54, 3) := by decide +kernel
theorem d_Mod_sumAt_60 : decode b_Mod_sumAt 60 = .ok (.aload_n 0, 1) := by decide +kernel
theorem d_Mod_sumAt_61 : decode b_Mod_sumAt 61 = .ok (.iload_n 1, 1) := by decide +kernel
theorem d_Mod_sumAt_62 : decode b_Mod_sumAt 62 = .ok (.iload 4, 2) := by decide +kernel
theorem d_Mod_sumAt_64 : decode b_Mod_sumAt 64 = .ok (.aload_n 0, 1) := by decide +kernel
theorem d_Mod_sumAt_65 : decode b_Mod_sumAt 65 = .ok (.iload_n 1, 1) := by decide +kernel
theorem d_Mod_sumAt_66 : decode b_Mod_sumAt 66 = .ok (.iload 4, 2) := by decide +kernel
theorem d_Mod_sumAt_68 : decode b_Mod_sumAt 68 = .ok (.invokevirtual 102, 3) := by decide +kernel
theorem d_Mod_sumAt_71 : decode b_Mod_sumAt 71 = .ok (.iconst 1, 1) := by decide +kernel
theorem d_Mod_sumAt_72 : decode b_Mod_sumAt 72 = .ok (.isub, 1) := by decide +kernel
theorem d_Mod_sumAt_73 : decode b_Mod_sumAt 73 = .ok (.iload 6, 2) := by decide +kernel
theorem d_Mod_sumAt_75 : decode b_Mod_sumAt 75 = .ok (.invokevirtual 105, 3) := by decide +kernel
theorem d_Mod_sumAt_78 : decode b_Mod_sumAt 78 = .ok (.aload_n 0, 1) := by decide +kernel
theorem d_Mod_sumAt_79 : decode b_Mod_sumAt 79 = .ok (.iload_n 1, 1) := by decide +kernel
theorem d_Mod_sumAt_80 : decode b_Mod_sumAt 80 = .ok (.iload 4, 2) := by decide +kernel
theorem d_Mod_sumAt_82 : decode b_Mod_sumAt 82 = .ok (.iconst 1, 1) := by decide +kernel
theorem d_Mod_sumAt_83 : decode b_Mod_sumAt 83 = .ok (.iadd, 1) := by decide +kernel
theorem d_Mod_sumAt_84 : decode b_Mod_sumAt 84 = .ok (.iconst 0, 1) := by decide +kernel
theorem d_Mod_sumAt_85 : decode b_Mod_sumAt 85 = .ok (.iload 7, 2) := by decide +kernel
theorem d_Mod_sumAt_87 : decode b_Mod_sumAt 87 = .ok (.invokevirtual 105, 3) := by decide +kernel
theorem d_Mod_sumAt_90 : decode b_Mod_sumAt 90 = .ok (.isub, 1) := by decide +kernel
theorem d_Mod_sumAt_91 : decode b_Mod_sumAt 91 = .ok (.istore 8, 2) := by decide +kernel
theorem d_Mod_sumAt_93 : decode b_Mod_sumAt 93 = .ok (.iload 5, 2) := by decide +kernel
theorem d_Mod_sumAt_95 : decode b_Mod_sumAt 95 = .ok (.iload 8, 2) := by decide +kernel
theorem d_Mod_sumAt_97 : decode b_Mod_sumAt 97 = .ok (.ifCond .ge 9, 3) := by decide +kernel
theorem d_Mod_sumAt_100 : decode b_Mod_sumAt 100 = .ok (.iload 8, 2) := by decide +kernel
theorem d_Mod_sumAt_102 : decode b_Mod_sumAt 102 = .ok (.ineg, 1) := by decide +kernel
theorem d_Mod_sumAt_103 : decode b_Mod_sumAt 103 = .ok (.goto 5, 3) := by decide +kernel
theorem d_Mod_sumAt_106 : decode b_Mod_sumAt 106 = .ok (.iload 8, 2) := by decide +kernel
theorem d_Mod_sumAt_108 : decode b_Mod_sumAt 108 = .ok (.iadd, 1) := by decide +kernel
theorem d_Mod_sumAt_109 : decode b_Mod_sumAt 109 = .ok (.istore 5, 2) := by decide +kernel
theorem d_Mod_sumAt_111 : decode b_Mod_sumAt 111 = .ok (.iinc 6 1, 3) := by decide +kernel
theorem d_Mod_sumAt_114 : decode b_Mod_sumAt 114 = .ok (.goto (-100), 3) := by decide +kernel
theorem d_Mod_sumAt_117 : decode b_Mod_sumAt 117 = .ok (.iload 5, 2) := by decide +kernel
theorem d_Mod_sumAt_119 : decode b_Mod_sumAt 119 = .ok (.ireturn, 1) := by decide +kernel
def f_Mod_sumAt_L14 (w : Mp) (h0 : Nat) (x1 : Int32) (x3 : Int32) (x4 : Int32) : Nat → Int32 → Int32 → Option (Nat × Int32 × Int32)
  | 0, _, _ => none
  | n + 1, x5, x6 => (xo w (some h0) 5).bind fun b_4 => (f_Mod_high w b_4 x1 x4).bind fun q_3 => if q_3 ≤ x6 then (some (0, x5, x6)) else (if (x6 - x3) < 0 then (f_Mod_sumAt_L14 w h0 x1 x3 x4 n (x5 + 255) (x6 + 1)) else ((xo w (some h0) 5).bind fun b_6 => (f_Mod_high w b_6 x1 (x4 + (1 : Int32))).bind fun q_5 => if (x6 - x3) < q_5 then ((xo w (some h0) 5).bind fun b_8 => (f_Mod_wide w b_8 x1 x4).bind fun q_7 => (xo w (some h0) 5).bind fun b_10 => (f_Mod_grey w b_10 x1 x4 (q_7 - (1 : Int32)) x6).bind fun q_9 => (xo w (some h0) 5).bind fun b_12 => (f_Mod_grey w b_12 x1 (x4 + (1 : Int32)) (0 : Int32) (x6 - x3)).bind fun q_11 => if 0 ≤ (q_9 - q_11) then (f_Mod_sumAt_L14 w h0 x1 x3 x4 n (x5 + (q_9 - q_11)) (x6 + 1)) else (f_Mod_sumAt_L14 w h0 x1 x3 x4 n (x5 + (-(q_9 - q_11))) (x6 + 1))) else (f_Mod_sumAt_L14 w h0 x1 x3 x4 n (x5 + 255) (x6 + 1))))
set_option maxHeartbeats 4000000 in
set_option maxRecDepth 100000 in
theorem w_Mod_sumAt_L14 {p : Program} {l : Launch} {e : Env} {R : Room} {s : State} {m : MethodId} {args : Array Value} {below : List Frame} {meth : Method} {c : Code} {Q : State → Prop} {cells slots sz : Nat} {G : Gx} {h0 : Nat} {x1 : Int32} {x3 : Int32} {x4 : Int32} (C0 : CallFix p m c b_Mod_sumAt 9 s args wA R_Mod) (hE : xE G vwCl xaty s) (hR1 : 2 ≤ R.frames) (hR2 : 49 ≤ R.locals) (hR3 : cells ≤ R.cells) (hR4 : slots ≤ R.slots) {w : Mp} {H : Heap} {locs : List Loc} (hH : xhd G vwCl w H) (hS : xS G s H locs) (hz : H.size = sz) : ∀ (n : Nat) (x5 : Int32) (x6 : Int32) (q : Nat × Int32 × Int32) (ls : Array Slot), xL ls 9 [(0, .inr (.inl (some h0))), (1, .inl x1), (3, .inl x3), (4, .inl x4), (5, .inl x5), (6, .inl x6)] → f_Mod_sumAt_L14 w h0 x1 x3 x4 n x5 x6 = some q → (∀ (ls : Array Slot), xL ls 9 [(0, .inr (.inl (some h0))), (1, .inl x1), (3, .inl x3), (4, .inl x4), (5, .inl q.2.1), (6, .inl q.2.2)] → W p l e R s m args below meth c H locs cells slots Q (F0 m 117 ls [])) → W p l e R s m args below meth c H locs cells slots Q (F0 m 14 ls []) := by
  intro n
  induction n with
  | zero => intro _ _ q ls hl h; cases h
  | succ n ih =>
    intro x5 x6 q ls hl h K
    rw [f_Mod_sumAt_L14] at h
    refine x_iload C0 hl 5 d_Mod_sumAt_14 rfl ?_
    refine x_aload_n C0 hl 0 d_Mod_sumAt_16 rfl rfl ?_
    refine x_iload_n C0 hl 1 d_Mod_sumAt_17 rfl rfl ?_
    refine x_iload C0 hl 3 d_Mod_sumAt_18 rfl ?_
    obtain ⟨b_4, e9, h⟩ := Option.bind_eq_some_iff.mp h
    obtain ⟨e8, fs9, hb9⟩ := xo_inv e9
    obtain ⟨q_3, e9, h⟩ := Option.bind_eq_some_iff.mp h
    refine x_callP (va_runV (As := [.int x1, .int x4]) (rest := [.int x6]) C0 (c_Mod_high l G w _ b_4 x1 x4 q_3 e9) (x_cwV 2 C0 kw_4_210 kw_4_213 kw_1_3 kw_4_212 kw_0_23 (by decide +kernel) (x_rm hR1 hR2 (Nat.le_of_ble_eq_true rfl) (Nat.le_of_ble_eq_true rfl))) (x_preV hE hH hS (ci := 5) rfl hb9) rfl rfl hl.1 (by rw [e8]; rfl) (lv_room (by first | exact Nat.le_of_ble_eq_true rfl | simp only [List.map_cons, List.map_nil, List.sum_cons, List.sum_nil, va_rf_cat, x_catI, x_catL, x_catA] <;> decide)) d_Mod_sumAt_20 (x_le0 hR3 hR4)) ?_
    refine x_icmp_ge C0 117 d_Mod_sumAt_23 (by decide) h (fun h => ?_) (fun h => ?_)
    · cases h
      exact K ls (x_sub hl [0, 1, 2, 3, 4, 5] rfl)
    · refine x_iload C0 hl 5 d_Mod_sumAt_26 rfl ?_
      refine x_iload_n C0 hl 2 d_Mod_sumAt_28 rfl rfl ?_
      refine lv_isub C0.1 C0.2.1 d_Mod_sumAt_29 ?_
      refine x_istore (lv' := [(7, .inl (x6 - x3)), (0, .inr (.inl (some h0))), (1, .inl x1), (3, .inl x3), (4, .inl x4), (5, .inl x5), (6, .inl x6)]) C0 hl d_Mod_sumAt_30 (by decide) rfl (fun ls hl => ?_)
      refine x_iload C0 hl 0 d_Mod_sumAt_32 rfl ?_
      refine x_if_lt C0 51 d_Mod_sumAt_34 (by decide) h (fun h => ?_) (fun h => ?_)
      · refine x_iincW (v := 255) (lv' := [(5, .inl (x5 + 255)), (7, .inl (x6 - x3)), (0, .inr (.inl (some h0))), (1, .inl x1), (3, .inl x3), (4, .inl x4), (6, .inl x6)]) C0 hl 5 d_Mod_sumAt_51 rfl (by decide) (by decide) rfl (fun ls hl => ?_)
        refine x_goto C0 111 d_Mod_sumAt_57 (by decide) ?_
        refine x_iinc (v := 1) (lv' := [(6, .inl (x6 + 1)), (5, .inl (x5 + 255)), (7, .inl (x6 - x3)), (0, .inr (.inl (some h0))), (1, .inl x1), (3, .inl x3), (4, .inl x4)]) C0 hl 6 d_Mod_sumAt_111 rfl (by decide) (by decide) rfl (fun ls hl => ?_)
        refine x_goto C0 14 d_Mod_sumAt_114 (by decide) ?_
        exact ih _ _ q ls (x_sub hl [3, 4, 5, 6, 1, 0] rfl) h K
      · refine x_iload C0 hl 0 d_Mod_sumAt_37 rfl ?_
        refine x_aload_n C0 hl 1 d_Mod_sumAt_39 rfl rfl ?_
        refine x_iload_n C0 hl 2 d_Mod_sumAt_40 rfl rfl ?_
        refine x_iload C0 hl 4 d_Mod_sumAt_41 rfl ?_
        refine lv_iconst (v := 1) C0.1 C0.2.1 d_Mod_sumAt_43 (by decide) ?_
        refine lv_iadd C0.1 C0.2.1 d_Mod_sumAt_44 ?_
        obtain ⟨b_6, e9, h⟩ := Option.bind_eq_some_iff.mp h
        obtain ⟨e8, fs9, hb9⟩ := xo_inv e9
        obtain ⟨q_5, e9, h⟩ := Option.bind_eq_some_iff.mp h
        refine x_callP (va_runV (As := [.int x1, .int (x4 + (1 : Int32))]) (rest := [.int (x6 - x3)]) C0 (c_Mod_high l G w _ b_6 x1 (x4 + (1 : Int32)) q_5 e9) (x_cwV 2 C0 kw_4_210 kw_4_213 kw_1_3 kw_4_212 kw_0_23 (by decide +kernel) (x_rm hR1 hR2 (Nat.le_of_ble_eq_true rfl) (Nat.le_of_ble_eq_true rfl))) (x_preV hE hH hS (ci := 5) rfl hb9) rfl rfl hl.1 (by rw [e8]; rfl) (lv_room (by first | exact Nat.le_of_ble_eq_true rfl | simp only [List.map_cons, List.map_nil, List.sum_cons, List.sum_nil, va_rf_cat, x_catI, x_catL, x_catA] <;> decide)) d_Mod_sumAt_45 (x_le0 hR3 hR4)) ?_
        refine x_icmp_lt C0 60 d_Mod_sumAt_48 (by decide) h (fun h => ?_) (fun h => ?_)
        · refine x_aload_n C0 hl 1 d_Mod_sumAt_60 rfl rfl ?_
          refine x_iload_n C0 hl 2 d_Mod_sumAt_61 rfl rfl ?_
          refine x_iload C0 hl 4 d_Mod_sumAt_62 rfl ?_
          refine x_aload_n C0 hl 1 d_Mod_sumAt_64 rfl rfl ?_
          refine x_iload_n C0 hl 2 d_Mod_sumAt_65 rfl rfl ?_
          refine x_iload C0 hl 4 d_Mod_sumAt_66 rfl ?_
          obtain ⟨b_8, e9, h⟩ := Option.bind_eq_some_iff.mp h
          obtain ⟨e8, fs9, hb9⟩ := xo_inv e9
          obtain ⟨q_7, e9, h⟩ := Option.bind_eq_some_iff.mp h
          refine x_callP (va_runV (As := [.int x1, .int x4]) (rest := [.int x4, .int x1, va_rf (some h0)]) C0 (c_Mod_wide l G w _ b_8 x1 x4 q_7 e9) (x_cwV 2 C0 kw_4_202 kw_4_205 kw_1_3 kw_4_204 kw_0_21 (by decide +kernel) (x_rm hR1 hR2 (Nat.le_of_ble_eq_true rfl) (Nat.le_of_ble_eq_true rfl))) (x_preV hE hH hS (ci := 5) rfl hb9) rfl rfl hl.1 (by rw [e8]; rfl) (lv_room (by first | exact Nat.le_of_ble_eq_true rfl | simp only [List.map_cons, List.map_nil, List.sum_cons, List.sum_nil, va_rf_cat, x_catI, x_catL, x_catA] <;> decide)) d_Mod_sumAt_68 (x_le0 hR3 hR4)) ?_
          refine lv_iconst (v := 1) C0.1 C0.2.1 d_Mod_sumAt_71 (by decide) ?_
          refine lv_isub C0.1 C0.2.1 d_Mod_sumAt_72 ?_
          refine x_iload C0 hl 6 d_Mod_sumAt_73 rfl ?_
          obtain ⟨b_10, e9, h⟩ := Option.bind_eq_some_iff.mp h
          obtain ⟨e8, fs9, hb9⟩ := xo_inv e9
          obtain ⟨q_9, e9, h⟩ := Option.bind_eq_some_iff.mp h
          refine x_callP (va_runV (As := [.int x1, .int x4, .int (q_7 - (1 : Int32)), .int x6]) (rest := []) C0 (c_Mod_grey l G w _ b_10 x1 x4 (q_7 - (1 : Int32)) x6 q_9 e9) (x_cwV 4 C0 kw_4_226 kw_4_229 kw_1_3 kw_4_228 kw_0_27 (by decide +kernel) (x_rm hR1 hR2 (Nat.le_of_ble_eq_true rfl) (Nat.le_of_ble_eq_true rfl))) (x_preV hE hH hS (ci := 5) rfl hb9) rfl rfl hl.1 (by rw [e8]; rfl) (lv_room (by first | exact Nat.le_of_ble_eq_true rfl | simp only [List.map_cons, List.map_nil, List.sum_cons, List.sum_nil, va_rf_cat, x_catI, x_catL, x_catA] <;> decide)) d_Mod_sumAt_75 (x_le0 hR3 hR4)) ?_
          refine x_aload_n C0 hl 1 d_Mod_sumAt_78 rfl rfl ?_
          refine x_iload_n C0 hl 2 d_Mod_sumAt_79 rfl rfl ?_
          refine x_iload C0 hl 4 d_Mod_sumAt_80 rfl ?_
          refine lv_iconst (v := 1) C0.1 C0.2.1 d_Mod_sumAt_82 (by decide) ?_
          refine lv_iadd C0.1 C0.2.1 d_Mod_sumAt_83 ?_
          refine lv_iconst (v := 0) C0.1 C0.2.1 d_Mod_sumAt_84 (by decide) ?_
          refine x_iload C0 hl 0 d_Mod_sumAt_85 rfl ?_
          obtain ⟨b_12, e9, h⟩ := Option.bind_eq_some_iff.mp h
          obtain ⟨e8, fs9, hb9⟩ := xo_inv e9
          obtain ⟨q_11, e9, h⟩ := Option.bind_eq_some_iff.mp h
          refine x_callP (va_runV (As := [.int x1, .int (x4 + (1 : Int32)), .int (0 : Int32), .int (x6 - x3)]) (rest := [.int q_9]) C0 (c_Mod_grey l G w _ b_12 x1 (x4 + (1 : Int32)) (0 : Int32) (x6 - x3) q_11 e9) (x_cwV 4 C0 kw_4_226 kw_4_229 kw_1_3 kw_4_228 kw_0_27 (by decide +kernel) (x_rm hR1 hR2 (Nat.le_of_ble_eq_true rfl) (Nat.le_of_ble_eq_true rfl))) (x_preV hE hH hS (ci := 5) rfl hb9) rfl rfl hl.1 (by rw [e8]; rfl) (lv_room (by first | exact Nat.le_of_ble_eq_true rfl | simp only [List.map_cons, List.map_nil, List.sum_cons, List.sum_nil, va_rf_cat, x_catI, x_catL, x_catA] <;> decide)) d_Mod_sumAt_87 (x_le0 hR3 hR4)) ?_
          refine lv_isub C0.1 C0.2.1 d_Mod_sumAt_90 ?_
          refine x_istore (lv' := [(8, .inl (q_9 - q_11)), (7, .inl (x6 - x3)), (0, .inr (.inl (some h0))), (1, .inl x1), (3, .inl x3), (4, .inl x4), (5, .inl x5), (6, .inl x6)]) C0 hl d_Mod_sumAt_91 (by decide) rfl (fun ls hl => ?_)
          refine x_iload C0 hl 6 d_Mod_sumAt_93 rfl ?_
          refine x_iload C0 hl 0 d_Mod_sumAt_95 rfl ?_
          refine x_if_ge C0 106 d_Mod_sumAt_97 (by decide) h (fun h => ?_) (fun h => ?_)
          · refine x_iload C0 hl 0 d_Mod_sumAt_106 rfl ?_
            refine lv_iadd C0.1 C0.2.1 d_Mod_sumAt_108 ?_
            refine x_istore (lv' := [(5, .inl (x5 + (q_9 - q_11))), (8, .inl (q_9 - q_11)), (7, .inl (x6 - x3)), (0, .inr (.inl (some h0))), (1, .inl x1), (3, .inl x3), (4, .inl x4), (6, .inl x6)]) C0 hl d_Mod_sumAt_109 (by decide) rfl (fun ls hl => ?_)
            refine x_iinc (v := 1) (lv' := [(6, .inl (x6 + 1)), (5, .inl (x5 + (q_9 - q_11))), (8, .inl (q_9 - q_11)), (7, .inl (x6 - x3)), (0, .inr (.inl (some h0))), (1, .inl x1), (3, .inl x3), (4, .inl x4)]) C0 hl 7 d_Mod_sumAt_111 rfl (by decide) (by decide) rfl (fun ls hl => ?_)
            refine x_goto C0 14 d_Mod_sumAt_114 (by decide) ?_
            exact ih _ _ q ls (x_sub hl [4, 5, 6, 7, 1, 0] rfl) h K
          · refine x_iload C0 hl 0 d_Mod_sumAt_100 rfl ?_
            refine lv_ineg C0.1 C0.2.1 d_Mod_sumAt_102 ?_
            refine x_goto C0 108 d_Mod_sumAt_103 (by decide) ?_
            refine lv_iadd C0.1 C0.2.1 d_Mod_sumAt_108 ?_
            refine x_istore (lv' := [(5, .inl (x5 + (-(q_9 - q_11)))), (8, .inl (q_9 - q_11)), (7, .inl (x6 - x3)), (0, .inr (.inl (some h0))), (1, .inl x1), (3, .inl x3), (4, .inl x4), (6, .inl x6)]) C0 hl d_Mod_sumAt_109 (by decide) rfl (fun ls hl => ?_)
            refine x_iinc (v := 1) (lv' := [(6, .inl (x6 + 1)), (5, .inl (x5 + (-(q_9 - q_11)))), (8, .inl (q_9 - q_11)), (7, .inl (x6 - x3)), (0, .inr (.inl (some h0))), (1, .inl x1), (3, .inl x3), (4, .inl x4)]) C0 hl 7 d_Mod_sumAt_111 rfl (by decide) (by decide) rfl (fun ls hl => ?_)
            refine x_goto C0 14 d_Mod_sumAt_114 (by decide) ?_
            exact ih _ _ q ls (x_sub hl [4, 5, 6, 7, 1, 0] rfl) h K
        · refine x_iincW (v := 255) (lv' := [(5, .inl (x5 + 255)), (7, .inl (x6 - x3)), (0, .inr (.inl (some h0))), (1, .inl x1), (3, .inl x3), (4, .inl x4), (6, .inl x6)]) C0 hl 5 d_Mod_sumAt_51 rfl (by decide) (by decide) rfl (fun ls hl => ?_)
          refine x_goto C0 111 d_Mod_sumAt_57 (by decide) ?_
          refine x_iinc (v := 1) (lv' := [(6, .inl (x6 + 1)), (5, .inl (x5 + 255)), (7, .inl (x6 - x3)), (0, .inr (.inl (some h0))), (1, .inl x1), (3, .inl x3), (4, .inl x4)]) C0 hl 6 d_Mod_sumAt_111 rfl (by decide) (by decide) rfl (fun ls hl => ?_)
          refine x_goto C0 14 d_Mod_sumAt_114 (by decide) ?_
          exact ih _ _ q ls (x_sub hl [3, 4, 5, 6, 1, 0] rfl) h K
def f_Mod_sumAt (w : Mp) (h0 : Nat) (x1 : Int32) (x2 : Int32) (x3 : Int32) : Option (Int32) := (xo w (some h0) 5).bind fun b_2 => (f_Mod_leftOf w b_2 x1 x2).bind fun q_1 => (f_Mod_sumAt_L14 w h0 x1 x3 q_1 100000 (0 : Int32) (0 : Int32)).bind fun q_13 => some q_13.2.1
set_option maxHeartbeats 4000000 in
set_option maxRecDepth 100000 in
theorem c_Mod_sumAt (l : Launch) (G : Gx) (w : Mp) (sz : Nat) (h0 : Nat) (x1 : Int32) (x2 : Int32) (x3 : Int32) (res : Int32) (hf : f_Mod_sumAt w h0 x1 x2 x3 = some res) : Met l y_Mod_sumAt (xws y_Mod_sumAt b_Mod_sumAt 9 (some .int)) { frames := 2, cells := 0, slots := 0, locals := 49 } (xPc G vwCl xaty w sz [va_rf (some h0), .int x1, .int x2, .int x3]) (qP (some (.int res))) (0) (0) (fun _ => False) := by
  refine Met.ofW (cc := b_Mod_sumAt) (maxL := 9) (ret := (some .int)) (by decide) rfl ?_
  intro p e s m args below meth c s₁ B hml hv
  obtain ⟨ha, hE, hH, hz⟩ := hv
  have C0 : CallFix p m c b_Mod_sumAt 9 s args wA R_Mod := ⟨B.exec, B.bytes, hml, findClass_of_methodNamed B.named, fun w hw => atoms_spec (ws := xws y_Mod_sumAt b_Mod_sumAt 9 (some .int)) B.pre w (List.mem_cons_of_mem _ hw)⟩
  have hr := B.returns
  have hlocks := B.notSynchronized
  obtain ⟨R, hR⟩ : ∃ R, R = (headSpec (xws y_Mod_sumAt b_Mod_sumAt 9 (some .int)) { frames := 2, cells := 0, slots := 0, locals := 49 }).room := ⟨_, rfl⟩
  have hR1 : 2 ≤ R.frames := by rw [hR]; exact Nat.le_of_ble_eq_true rfl
  have hR2 : 49 ≤ R.locals := by rw [hR]; exact Nat.le_of_ble_eq_true rfl
  have hR3 : 0 ≤ R.cells := by rw [hR]; exact Nat.le_refl _
  have hR4 : 0 ≤ R.slots := by rw [hR]; exact Nat.le_refl _
  rw [← hR]
  obtain ⟨Q, hQ⟩ : ∃ Q, Q = MQ below (qP (some (.int res))) args s (0) (0) (fun _ => False) := ⟨_, rfl⟩
  rw [← hQ]
  have hS : xS G s s.heap [] := va_S.rf
  obtain ⟨ls, he, hl⟩ := x_entry m [.inr (.inl (some h0)), .inl x1, .inl x2, .inl x3] 9 (Nat.le_of_ble_eq_true rfl)
  rw [show entryFrame m args 9 = F0 m 0 ls [] by rw [ha]; exact he]
  have hl : xL ls 9 [(0, .inr (.inl (some h0))), (1, .inl x1), (2, .inl x2), (3, .inl x3)] := hl
  have h := hf
  unfold f_Mod_sumAt at h
  suffices hmain : ∀ (H : Heap) (locs : List Loc), xhd G vwCl w H → xS G s H locs → H.size = sz → (H = s.heap ∧ locs = []) → W p l e R s m args below meth c H locs 0 0 Q (F0 m 0 ls []) from hmain _ _ hH hS hz ⟨rfl, rfl⟩
  clear hH hS hz
  intro H locs hH hS hz hP0
  refine x_aload_n C0 hl 0 d_Mod_sumAt_0 rfl rfl ?_
  refine x_iload_n C0 hl 1 d_Mod_sumAt_1 rfl rfl ?_
  refine x_iload_n C0 hl 2 d_Mod_sumAt_2 rfl rfl ?_
  obtain ⟨b_2, e9, h⟩ := Option.bind_eq_some_iff.mp h
  obtain ⟨e8, fs9, hb9⟩ := xo_inv e9
  obtain ⟨q_1, e9, h⟩ := Option.bind_eq_some_iff.mp h
  refine x_callP (va_runV (As := [.int x1, .int x2]) (rest := []) C0 (c_Mod_leftOf l G w _ b_2 x1 x2 q_1 e9) (x_cwV 2 C0 kw_4_222 kw_4_225 kw_1_3 kw_4_224 kw_0_26 (by decide +kernel) (x_rm hR1 hR2 (Nat.le_of_ble_eq_true rfl) (Nat.le_of_ble_eq_true rfl))) (x_preV hE hH hS (ci := 5) rfl hb9) rfl rfl hl.1 (by rw [e8]; rfl) (lv_room (by first | exact Nat.le_of_ble_eq_true rfl | simp only [List.map_cons, List.map_nil, List.sum_cons, List.sum_nil, va_rf_cat, x_catI, x_catL, x_catA] <;> decide)) d_Mod_sumAt_3 (x_le0 hR3 hR4)) ?_
  refine x_istore (lv' := [(4, .inl q_1), (0, .inr (.inl (some h0))), (1, .inl x1), (2, .inl x2), (3, .inl x3)]) C0 hl d_Mod_sumAt_6 (by decide) rfl (fun ls hl => ?_)
  refine lv_iconst (v := 0) C0.1 C0.2.1 d_Mod_sumAt_8 (by decide) ?_
  refine x_istore (lv' := [(5, .inl (0 : Int32)), (4, .inl q_1), (0, .inr (.inl (some h0))), (1, .inl x1), (2, .inl x2), (3, .inl x3)]) C0 hl d_Mod_sumAt_9 (by decide) rfl (fun ls hl => ?_)
  refine lv_iconst (v := 0) C0.1 C0.2.1 d_Mod_sumAt_11 (by decide) ?_
  refine x_istore (lv' := [(6, .inl (0 : Int32)), (5, .inl (0 : Int32)), (4, .inl q_1), (0, .inr (.inl (some h0))), (1, .inl x1), (2, .inl x2), (3, .inl x3)]) C0 hl d_Mod_sumAt_12 (by decide) rfl (fun ls hl => ?_)
  obtain ⟨q_13, e9, h⟩ := Option.bind_eq_some_iff.mp h
  refine w_Mod_sumAt_L14 C0 hE hR1 hR2 hR3 hR4 hH hS hz 100000 _ _ q_13 ls (x_sub hl [3, 4, 6, 2, 1, 0] rfl) e9 (fun ls hl => ?_)
  refine x_iload C0 hl 4 d_Mod_sumAt_117 rfl ?_
  cases h
  rw [hQ]
  exact x_iretP C0 hr hlocks hP0 d_Mod_sumAt_119
theorem d_Mod_shiftOf_0 : decode b_Mod_shiftOf 0 = .ok (.iconst 0, 1) := by decide +kernel
theorem d_Mod_shiftOf_1 : decode b_Mod_shiftOf 1 = .ok (.istore_n 3, 1) := by decide +kernel
theorem d_Mod_shiftOf_2 : decode b_Mod_shiftOf 2 = .ok (.aload_n 0, 1) := by decide +kernel
theorem d_Mod_shiftOf_3 : decode b_Mod_shiftOf 3 = .ok (.iload_n 1, 1) := by decide +kernel
theorem d_Mod_shiftOf_4 : decode b_Mod_shiftOf 4 = .ok (.iload_n 2, 1) := by decide +kernel
theorem d_Mod_shiftOf_5 : decode b_Mod_shiftOf 5 = .ok (.iconst 0, 1) := by decide +kernel
theorem d_Mod_shiftOf_6 : decode b_Mod_shiftOf 6 = .ok (.invokevirtual 109, 3) := by decide +kernel
theorem d_Mod_shiftOf_9 : decode b_Mod_shiftOf 9 = .ok (.istore 4, 2) := by decide +kernel
theorem d_Mod_shiftOf_11 : decode b_Mod_shiftOf 11 = .ok (.iconst 1, 1) := by decide +kernel
theorem d_Mod_shiftOf_12 : decode b_Mod_shiftOf 12 = .ok (.istore 5, 2) := by decide +kernel
theorem d_Mod_shiftOf_14 : decode b_Mod_shiftOf 14 = .ok (.iload 5, 2) := by decide +kernel
theorem d_Mod_shiftOf_16 : decode b_Mod_shiftOf 16 = .ok (.iconst 4, 1) := by decide +kernel
theorem d_Mod_shiftOf_17 : decode b_Mod_shiftOf 17 = .ok (.if_icmp .ge 79, 3) := by decide +kernel
theorem d_Mod_shiftOf_20 : decode b_Mod_shiftOf 20 = .ok (.iconst 0, 1) := by decide +kernel
theorem d_Mod_shiftOf_21 : decode b_Mod_shiftOf 21 = .ok (.istore 6, 2) := by decide +kernel
theorem d_Mod_shiftOf_23 : decode b_Mod_shiftOf 23 = .ok (.iload 6, 2) := by decide +kernel
theorem d_Mod_shiftOf_25 : decode b_Mod_shiftOf 25 = .ok (.iconst 2, 1) := by decide +kernel
theorem d_Mod_shiftOf_26 : decode b_Mod_shiftOf 26 = .ok (.if_icmp .ge 64, 3) := by decide +kernel
theorem d_Mod_shiftOf_29 : decode b_Mod_shiftOf 29 = .ok (.iload 6, 2) := by decide +kernel
theorem d_Mod_shiftOf_31 : decode b_Mod_shiftOf 31 = .ok (.ifCond .ne 9, 3) := by decide +kernel
theorem d_Mod_shiftOf_34 : decode b_Mod_shiftOf 34 = .ok (.iload 5, 2) := by decide +kernel
theorem d_Mod_shiftOf_36 : decode b_Mod_shiftOf 36 = .ok (.ineg, 1) := by decide +kernel
theorem d_Mod_shiftOf_37 : decode b_Mod_shiftOf 37 = .ok (.goto 5, 3) := by decide +kernel
theorem d_Mod_shiftOf_40 : decode b_Mod_shiftOf 40 = .ok (.iload 5, 2) := by decide +kernel
theorem d_Mod_shiftOf_42 : decode b_Mod_shiftOf 42 = .ok (.istore 7, 2) := by decide +kernel
theorem d_Mod_shiftOf_44 : decode b_Mod_shiftOf 44 = .ok (.aload_n 0, 1) := by decide +kernel
theorem d_Mod_shiftOf_45 : decode b_Mod_shiftOf 45 = .ok (.iload_n 1, 1) := by decide +kernel
theorem d_Mod_shiftOf_46 : decode b_Mod_shiftOf 46 = .ok (.iload_n 2, 1) := by decide +kernel
theorem d_Mod_shiftOf_47 : decode b_Mod_shiftOf 47 = .ok (.iload 7, 2) := by decide +kernel
theorem d_Mod_shiftOf_49 : decode b_Mod_shiftOf 49 = .ok (.invokevirtual 109, 3) := by decide +kernel
theorem d_Mod_shiftOf_52 : decode b_Mod_shiftOf 52 = .ok (.istore 8, 2) := by decide +kernel
theorem d_Mod_shiftOf_54 : decode b_Mod_shiftOf 54 = .ok (.iload 8, 2) := by decide +kernel
theorem d_Mod_shiftOf_56 : decode b_Mod_shiftOf 56 = .ok (.iload 4, 2) := by decide +kernel
theorem d_Mod_shiftOf_58 : decode b_Mod_shiftOf 58 = .ok (.if_icmp .ge 8, 3) := by decide +kernel
theorem d_Mod_shiftOf_61 : decode b_Mod_shiftOf 61 = .ok (.iload 7, 2) := by decide +kernel
theorem d_Mod_shiftOf_63 : decode b_Mod_shiftOf 63 = .ok (.goto 4, 3) := by decide +kernel
theorem d_Mod_shiftOf_66 : decode b_Mod_shiftOf 66 = .ok (.iload_n 3, 1) := by decide +kernel
theorem d_Mod_shiftOf_67 : decode b_Mod_shiftOf 67 = .ok (.istore_n 3, 1) := by decide +kernel
theorem d_Mod_shiftOf_68 : decode b_Mod_shiftOf 68 = .ok (.iload 8, 2) := by decide +kernel
theorem d_Mod_shiftOf_70 : decode b_Mod_shiftOf 70 = .ok (.iload 4, 2) := by decide +kernel
theorem d_Mod_shiftOf_72 : decode b_Mod_shiftOf 72 = .ok (.if_icmp .ge 8, 3) := by decide +kernel
theorem d_Mod_shiftOf_75 : decode b_Mod_shiftOf 75 = .ok (.iload 8, 2) := by decide +kernel
theorem d_Mod_shiftOf_77 : decode b_Mod_shiftOf 77 = .ok (.goto 5, 3) := by decide +kernel
theorem d_Mod_shiftOf_80 : decode b_Mod_shiftOf 80 = .ok (.iload 4, 2) := by decide +kernel
theorem d_Mod_shiftOf_82 : decode b_Mod_shiftOf 82 = .ok (.istore 4, 2) := by decide +kernel
theorem d_Mod_shiftOf_84 : decode b_Mod_shiftOf 84 = .ok (.iinc 6 1, 3) := by decide +kernel
theorem d_Mod_shiftOf_87 : decode b_Mod_shiftOf 87 = .ok (.goto (-64), 3) := by decide +kernel
theorem d_Mod_shiftOf_90 : decode b_Mod_shiftOf 90 = .ok (.iinc 5 1, 3) := by decide +kernel
theorem d_Mod_shiftOf_93 : decode b_Mod_shiftOf 93 = .ok (.goto (-79), 3) := by decide +kernel
theorem d_Mod_shiftOf_96 : decode b_Mod_shiftOf 96 = .ok (.iload_n 3, 1) := by decide +kernel
theorem d_Mod_shiftOf_97 : decode b_Mod_shiftOf 97 = .ok (.ireturn, 1) := by decide +kernel
def f_Mod_shiftOf_L23 (w : Mp) (h0 : Nat) (x1 : Int32) (x2 : Int32) (x5 : Int32) : Nat → Int32 → Int32 → Int32 → Option (Nat × Int32 × Int32 × Int32)
  | 0, _, _, _ => none
  | n + 1, x3, x4, x6 => if (2 : Int32) ≤ x6 then (some (0, x3, x4, x6)) else (xJ1 (fun (x_3 : Int32) => (xo w (some h0) 5).bind fun b_6 => (f_Mod_sumAt w b_6 x1 x2 x_3).bind fun q_5 => xJ1 (fun (x_7 : Int32) => if x4 ≤ q_5 then (f_Mod_shiftOf_L23 w h0 x1 x2 x5 n x_7 x4 (x6 + 1)) else (f_Mod_shiftOf_L23 w h0 x1 x2 x5 n x_7 q_5 (x6 + 1))) fun J_8 => if x4 ≤ q_5 then (J_8 x3) else (J_8 x_3)) fun J_4 => if x6 = 0 then (J_4 (-x5)) else (J_4 x5))
set_option maxHeartbeats 4000000 in
set_option maxRecDepth 100000 in
theorem w_Mod_shiftOf_L23 {p : Program} {l : Launch} {e : Env} {R : Room} {s : State} {m : MethodId} {args : Array Value} {below : List Frame} {meth : Method} {c : Code} {Q : State → Prop} {cells slots sz : Nat} {G : Gx} {h0 : Nat} {x1 : Int32} {x2 : Int32} {x5 : Int32} (C0 : CallFix p m c b_Mod_shiftOf 9 s args wA R_Mod) (hE : xE G vwCl xaty s) (hR1 : 3 ≤ R.frames) (hR2 : 77 ≤ R.locals) (hR3 : cells ≤ R.cells) (hR4 : slots ≤ R.slots) {w : Mp} {H : Heap} {locs : List Loc} (hH : xhd G vwCl w H) (hS : xS G s H locs) (hz : H.size = sz) : ∀ (n : Nat) (x3 : Int32) (x4 : Int32) (x6 : Int32) (q : Nat × Int32 × Int32 × Int32) (ls : Array Slot), xL ls 9 [(0, .inr (.inl (some h0))), (1, .inl x1), (2, .inl x2), (3, .inl x3), (4, .inl x4), (5, .inl x5), (6, .inl x6)] → f_Mod_shiftOf_L23 w h0 x1 x2 x5 n x3 x4 x6 = some q → (∀ (ls : Array Slot), xL ls 9 [(0, .inr (.inl (some h0))), (1, .inl x1), (2, .inl x2), (3, .inl q.2.1), (4, .inl q.2.2.1), (5, .inl x5), (6, .inl q.2.2.2)] → W p l e R s m args below meth c H locs cells slots Q (F0 m 90 ls [])) → W p l e R s m args below meth c H locs cells slots Q (F0 m 23 ls []) := by
  intro n
  induction n with
  | zero => intro _ _ _ q ls hl h; cases h
  | succ n ih =>
    intro x3 x4 x6 q ls hl h K
    rw [f_Mod_shiftOf_L23] at h
    refine x_iload C0 hl 6 d_Mod_shiftOf_23 rfl ?_
    refine lv_iconst (v := 2) C0.1 C0.2.1 d_Mod_shiftOf_25 (by decide) ?_
    refine x_icmp_ge C0 90 d_Mod_shiftOf_26 (by decide) h (fun h => ?_) (fun h => ?_)
    · cases h
      exact K ls (x_sub hl [0, 1, 2, 3, 4, 5, 6] rfl)
    · refine x_iload C0 hl 6 d_Mod_shiftOf_29 rfl ?_
      refine xj1 h (fun J_4 eJ_4 h => ?_)
      have kJ_4 : ∀ (x_3 : Int32) (ls : Array Slot), xL ls 9 [(0, .inr (.inl (some h0))), (1, .inl x1), (2, .inl x2), (3, .inl x3), (4, .inl x4), (5, .inl x5), (6, .inl x6)] → J_4 x_3 = some q → W p l e R s m args below meth c H locs cells slots Q (F0 m 42 ls [.int x_3]) := by
        intro x_3 ls hl h
        rw [eJ_4] at h
        refine x_istore (lv' := [(7, .inl x_3), (0, .inr (.inl (some h0))), (1, .inl x1), (2, .inl x2), (3, .inl x3), (4, .inl x4), (5, .inl x5), (6, .inl x6)]) C0 hl d_Mod_shiftOf_42 (by decide) rfl (fun ls hl => ?_)
        refine x_aload_n C0 hl 1 d_Mod_shiftOf_44 rfl rfl ?_
        refine x_iload_n C0 hl 2 d_Mod_shiftOf_45 rfl rfl ?_
        refine x_iload_n C0 hl 3 d_Mod_shiftOf_46 rfl rfl ?_
        refine x_iload C0 hl 0 d_Mod_shiftOf_47 rfl ?_
        obtain ⟨b_6, e9, h⟩ := Option.bind_eq_some_iff.mp h
        obtain ⟨e8, fs9, hb9⟩ := xo_inv e9
        obtain ⟨q_5, e9, h⟩ := Option.bind_eq_some_iff.mp h
        refine x_callP (va_runV (As := [.int x1, .int x2, .int x_3]) (rest := []) C0 (c_Mod_sumAt l G w _ b_6 x1 x2 x_3 q_5 e9) (x_cwV 3 C0 kw_4_218 kw_4_221 kw_1_3 kw_4_220 kw_0_25 (by decide +kernel) (x_rm hR1 hR2 (Nat.le_of_ble_eq_true rfl) (Nat.le_of_ble_eq_true rfl))) (x_preV hE hH hS (ci := 5) rfl hb9) rfl rfl hl.1 (by rw [e8]; rfl) (lv_room (by first | exact Nat.le_of_ble_eq_true rfl | simp only [List.map_cons, List.map_nil, List.sum_cons, List.sum_nil, va_rf_cat, x_catI, x_catL, x_catA] <;> decide)) d_Mod_shiftOf_49 (x_le0 hR3 hR4)) ?_
        refine x_istore (lv' := [(8, .inl q_5), (7, .inl x_3), (0, .inr (.inl (some h0))), (1, .inl x1), (2, .inl x2), (3, .inl x3), (4, .inl x4), (5, .inl x5), (6, .inl x6)]) C0 hl d_Mod_shiftOf_52 (by decide) rfl (fun ls hl => ?_)
        refine x_iload C0 hl 0 d_Mod_shiftOf_54 rfl ?_
        refine x_iload C0 hl 6 d_Mod_shiftOf_56 rfl ?_
        refine xj1 h (fun J_8 eJ_8 h => ?_)
        have kJ_8 : ∀ (x_7 : Int32) (ls : Array Slot), xL ls 9 [(0, .inr (.inl (some h0))), (1, .inl x1), (2, .inl x2), (4, .inl x4), (5, .inl x5), (6, .inl x6), (8, .inl q_5)] → J_8 x_7 = some q → W p l e R s m args below meth c H locs cells slots Q (F0 m 67 ls [.int x_7]) := by
          intro x_7 ls hl h
          rw [eJ_8] at h
          refine x_istore_n (lv' := [(3, .inl x_7), (0, .inr (.inl (some h0))), (1, .inl x1), (2, .inl x2), (4, .inl x4), (5, .inl x5), (6, .inl x6), (8, .inl q_5)]) C0 hl d_Mod_shiftOf_67 rfl (by decide) rfl (fun ls hl => ?_)
          refine x_iload C0 hl 7 d_Mod_shiftOf_68 rfl ?_
          refine x_iload C0 hl 4 d_Mod_shiftOf_70 rfl ?_
          refine x_icmp_ge C0 80 d_Mod_shiftOf_72 (by decide) h (fun h => ?_) (fun h => ?_)
          · refine x_iload C0 hl 4 d_Mod_shiftOf_80 rfl ?_
            refine x_istore (lv' := [(4, .inl x4), (3, .inl x_7), (0, .inr (.inl (some h0))), (1, .inl x1), (2, .inl x2), (5, .inl x5), (6, .inl x6), (8, .inl q_5)]) C0 hl d_Mod_shiftOf_82 (by decide) rfl (fun ls hl => ?_)
            refine x_iinc (v := 1) (lv' := [(6, .inl (x6 + 1)), (4, .inl x4), (3, .inl x_7), (0, .inr (.inl (some h0))), (1, .inl x1), (2, .inl x2), (5, .inl x5), (8, .inl q_5)]) C0 hl 6 d_Mod_shiftOf_84 rfl (by decide) (by decide) rfl (fun ls hl => ?_)
            refine x_goto C0 23 d_Mod_shiftOf_87 (by decide) ?_
            exact ih _ _ _ q ls (x_sub hl [3, 4, 5, 2, 1, 6, 0] rfl) h K
          · refine x_iload C0 hl 7 d_Mod_shiftOf_75 rfl ?_
            refine x_goto C0 82 d_Mod_shiftOf_77 (by decide) ?_
            refine x_istore (lv' := [(4, .inl q_5), (3, .inl x_7), (0, .inr (.inl (some h0))), (1, .inl x1), (2, .inl x2), (5, .inl x5), (6, .inl x6), (8, .inl q_5)]) C0 hl d_Mod_shiftOf_82 (by decide) rfl (fun ls hl => ?_)
            refine x_iinc (v := 1) (lv' := [(6, .inl (x6 + 1)), (4, .inl q_5), (3, .inl x_7), (0, .inr (.inl (some h0))), (1, .inl x1), (2, .inl x2), (5, .inl x5), (8, .inl q_5)]) C0 hl 6 d_Mod_shiftOf_84 rfl (by decide) (by decide) rfl (fun ls hl => ?_)
            refine x_goto C0 23 d_Mod_shiftOf_87 (by decide) ?_
            exact ih _ _ _ q ls (x_sub hl [3, 4, 5, 2, 1, 6, 0] rfl) h K
        refine x_icmp_ge C0 66 d_Mod_shiftOf_58 (by decide) h (fun h => ?_) (fun h => ?_)
        · refine x_iload_n C0 hl 5 d_Mod_shiftOf_66 rfl rfl ?_
          exact kJ_8 _ ls (x_sub hl [2, 3, 4, 6, 7, 8, 0] rfl) h
        · refine x_iload C0 hl 1 d_Mod_shiftOf_61 rfl ?_
          refine x_goto C0 67 d_Mod_shiftOf_63 (by decide) ?_
          exact kJ_8 _ ls (x_sub hl [2, 3, 4, 6, 7, 8, 0] rfl) h
      refine x_if_ne C0 40 d_Mod_shiftOf_31 (by decide) h (fun h => ?_) (fun h => ?_)
      · refine x_iload C0 hl 5 d_Mod_shiftOf_40 rfl ?_
        exact kJ_4 _ ls (x_sub hl [0, 1, 2, 3, 4, 5, 6] rfl) h
      · refine x_iload C0 hl 5 d_Mod_shiftOf_34 rfl ?_
        refine lv_ineg C0.1 C0.2.1 d_Mod_shiftOf_36 ?_
        refine x_goto C0 42 d_Mod_shiftOf_37 (by decide) ?_
        exact kJ_4 _ ls (x_sub hl [0, 1, 2, 3, 4, 5, 6] rfl) h
def f_Mod_shiftOf_L14 (w : Mp) (h0 : Nat) (x1 : Int32) (x2 : Int32) : Nat → Int32 → Int32 → Int32 → Option (Nat × Int32 × Int32 × Int32)
  | 0, _, _, _ => none
  | n + 1, x3, x4, x5 => if (4 : Int32) ≤ x5 then (some (0, x3, x4, x5)) else ((f_Mod_shiftOf_L23 w h0 x1 x2 x5 100000 x3 x4 (0 : Int32)).bind fun q_9 => f_Mod_shiftOf_L14 w h0 x1 x2 n q_9.2.1 q_9.2.2.1 (x5 + 1))
set_option maxHeartbeats 4000000 in
set_option maxRecDepth 100000 in
theorem w_Mod_shiftOf_L14 {p : Program} {l : Launch} {e : Env} {R : Room} {s : State} {m : MethodId} {args : Array Value} {below : List Frame} {meth : Method} {c : Code} {Q : State → Prop} {cells slots sz : Nat} {G : Gx} {h0 : Nat} {x1 : Int32} {x2 : Int32} (C0 : CallFix p m c b_Mod_shiftOf 9 s args wA R_Mod) (hE : xE G vwCl xaty s) (hR1 : 3 ≤ R.frames) (hR2 : 77 ≤ R.locals) (hR3 : cells ≤ R.cells) (hR4 : slots ≤ R.slots) {w : Mp} {H : Heap} {locs : List Loc} (hH : xhd G vwCl w H) (hS : xS G s H locs) (hz : H.size = sz) : ∀ (n : Nat) (x3 : Int32) (x4 : Int32) (x5 : Int32) (q : Nat × Int32 × Int32 × Int32) (ls : Array Slot), xL ls 9 [(0, .inr (.inl (some h0))), (1, .inl x1), (2, .inl x2), (3, .inl x3), (4, .inl x4), (5, .inl x5)] → f_Mod_shiftOf_L14 w h0 x1 x2 n x3 x4 x5 = some q → (∀ (ls : Array Slot), xL ls 9 [(0, .inr (.inl (some h0))), (1, .inl x1), (2, .inl x2), (3, .inl q.2.1), (4, .inl q.2.2.1), (5, .inl q.2.2.2)] → W p l e R s m args below meth c H locs cells slots Q (F0 m 96 ls [])) → W p l e R s m args below meth c H locs cells slots Q (F0 m 14 ls []) := by
  intro n
  induction n with
  | zero => intro _ _ _ q ls hl h; cases h
  | succ n ih =>
    intro x3 x4 x5 q ls hl h K
    rw [f_Mod_shiftOf_L14] at h
    refine x_iload C0 hl 5 d_Mod_shiftOf_14 rfl ?_
    refine lv_iconst (v := 4) C0.1 C0.2.1 d_Mod_shiftOf_16 (by decide) ?_
    refine x_icmp_ge C0 96 d_Mod_shiftOf_17 (by decide) h (fun h => ?_) (fun h => ?_)
    · cases h
      exact K ls (x_sub hl [0, 1, 2, 3, 4, 5] rfl)
    · refine lv_iconst (v := 0) C0.1 C0.2.1 d_Mod_shiftOf_20 (by decide) ?_
      refine x_istore (lv' := [(6, .inl (0 : Int32)), (0, .inr (.inl (some h0))), (1, .inl x1), (2, .inl x2), (3, .inl x3), (4, .inl x4), (5, .inl x5)]) C0 hl d_Mod_shiftOf_21 (by decide) rfl (fun ls hl => ?_)
      obtain ⟨q_9, e9, h⟩ := Option.bind_eq_some_iff.mp h
      refine w_Mod_shiftOf_L23 C0 hE hR1 hR2 hR3 hR4 hH hS hz 100000 _ _ _ q_9 ls (x_sub hl [1, 2, 3, 4, 5, 6, 0] rfl) e9 (fun ls hl => ?_)
      refine x_iinc (v := 1) (lv' := [(5, .inl (x5 + 1)), (0, .inr (.inl (some h0))), (1, .inl x1), (2, .inl x2), (3, .inl q_9.2.1), (4, .inl q_9.2.2.1), (6, .inl q_9.2.2.2)]) C0 hl 5 d_Mod_shiftOf_90 rfl (by decide) (by decide) rfl (fun ls hl => ?_)
      refine x_goto C0 14 d_Mod_shiftOf_93 (by decide) ?_
      exact ih _ _ _ q ls (x_sub hl [1, 2, 3, 4, 5, 0] rfl) h K
def f_Mod_shiftOf (w : Mp) (h0 : Nat) (x1 : Int32) (x2 : Int32) : Option (Int32) := (xo w (some h0) 5).bind fun b_2 => (f_Mod_sumAt w b_2 x1 x2 (0 : Int32)).bind fun q_1 => (f_Mod_shiftOf_L14 w h0 x1 x2 100000 (0 : Int32) q_1 (1 : Int32)).bind fun q_10 => some q_10.2.1
set_option maxHeartbeats 4000000 in
set_option maxRecDepth 100000 in
theorem c_Mod_shiftOf (l : Launch) (G : Gx) (w : Mp) (sz : Nat) (h0 : Nat) (x1 : Int32) (x2 : Int32) (res : Int32) (hf : f_Mod_shiftOf w h0 x1 x2 = some res) : Met l y_Mod_shiftOf (xws y_Mod_shiftOf b_Mod_shiftOf 9 (some .int)) { frames := 3, cells := 0, slots := 0, locals := 77 } (xPc G vwCl xaty w sz [va_rf (some h0), .int x1, .int x2]) (qP (some (.int res))) (0) (0) (fun _ => False) := by
  refine Met.ofW (cc := b_Mod_shiftOf) (maxL := 9) (ret := (some .int)) (by decide) rfl ?_
  intro p e s m args below meth c s₁ B hml hv
  obtain ⟨ha, hE, hH, hz⟩ := hv
  have C0 : CallFix p m c b_Mod_shiftOf 9 s args wA R_Mod := ⟨B.exec, B.bytes, hml, findClass_of_methodNamed B.named, fun w hw => atoms_spec (ws := xws y_Mod_shiftOf b_Mod_shiftOf 9 (some .int)) B.pre w (List.mem_cons_of_mem _ hw)⟩
  have hr := B.returns
  have hlocks := B.notSynchronized
  obtain ⟨R, hR⟩ : ∃ R, R = (headSpec (xws y_Mod_shiftOf b_Mod_shiftOf 9 (some .int)) { frames := 3, cells := 0, slots := 0, locals := 77 }).room := ⟨_, rfl⟩
  have hR1 : 3 ≤ R.frames := by rw [hR]; exact Nat.le_of_ble_eq_true rfl
  have hR2 : 77 ≤ R.locals := by rw [hR]; exact Nat.le_of_ble_eq_true rfl
  have hR3 : 0 ≤ R.cells := by rw [hR]; exact Nat.le_refl _
  have hR4 : 0 ≤ R.slots := by rw [hR]; exact Nat.le_refl _
  rw [← hR]
  obtain ⟨Q, hQ⟩ : ∃ Q, Q = MQ below (qP (some (.int res))) args s (0) (0) (fun _ => False) := ⟨_, rfl⟩
  rw [← hQ]
  have hS : xS G s s.heap [] := va_S.rf
  obtain ⟨ls, he, hl⟩ := x_entry m [.inr (.inl (some h0)), .inl x1, .inl x2] 9 (Nat.le_of_ble_eq_true rfl)
  rw [show entryFrame m args 9 = F0 m 0 ls [] by rw [ha]; exact he]
  have hl : xL ls 9 [(0, .inr (.inl (some h0))), (1, .inl x1), (2, .inl x2)] := hl
  have h := hf
  unfold f_Mod_shiftOf at h
  suffices hmain : ∀ (H : Heap) (locs : List Loc), xhd G vwCl w H → xS G s H locs → H.size = sz → (H = s.heap ∧ locs = []) → W p l e R s m args below meth c H locs 0 0 Q (F0 m 0 ls []) from hmain _ _ hH hS hz ⟨rfl, rfl⟩
  clear hH hS hz
  intro H locs hH hS hz hP0
  refine lv_iconst (v := 0) C0.1 C0.2.1 d_Mod_shiftOf_0 (by decide) ?_
  refine x_istore_n (lv' := [(3, .inl (0 : Int32)), (0, .inr (.inl (some h0))), (1, .inl x1), (2, .inl x2)]) C0 hl d_Mod_shiftOf_1 rfl (by decide) rfl (fun ls hl => ?_)
  refine x_aload_n C0 hl 1 d_Mod_shiftOf_2 rfl rfl ?_
  refine x_iload_n C0 hl 2 d_Mod_shiftOf_3 rfl rfl ?_
  refine x_iload_n C0 hl 3 d_Mod_shiftOf_4 rfl rfl ?_
  refine lv_iconst (v := 0) C0.1 C0.2.1 d_Mod_shiftOf_5 (by decide) ?_
  obtain ⟨b_2, e9, h⟩ := Option.bind_eq_some_iff.mp h
  obtain ⟨e8, fs9, hb9⟩ := xo_inv e9
  obtain ⟨q_1, e9, h⟩ := Option.bind_eq_some_iff.mp h
  refine x_callP (va_runV (As := [.int x1, .int x2, .int (0 : Int32)]) (rest := []) C0 (c_Mod_sumAt l G w _ b_2 x1 x2 (0 : Int32) q_1 e9) (x_cwV 3 C0 kw_4_218 kw_4_221 kw_1_3 kw_4_220 kw_0_25 (by decide +kernel) (x_rm hR1 hR2 (Nat.le_of_ble_eq_true rfl) (Nat.le_of_ble_eq_true rfl))) (x_preV hE hH hS (ci := 5) rfl hb9) rfl rfl hl.1 (by rw [e8]; rfl) (lv_room (by first | exact Nat.le_of_ble_eq_true rfl | simp only [List.map_cons, List.map_nil, List.sum_cons, List.sum_nil, va_rf_cat, x_catI, x_catL, x_catA] <;> decide)) d_Mod_shiftOf_6 (x_le0 hR3 hR4)) ?_
  refine x_istore (lv' := [(4, .inl q_1), (3, .inl (0 : Int32)), (0, .inr (.inl (some h0))), (1, .inl x1), (2, .inl x2)]) C0 hl d_Mod_shiftOf_9 (by decide) rfl (fun ls hl => ?_)
  refine lv_iconst (v := 1) C0.1 C0.2.1 d_Mod_shiftOf_11 (by decide) ?_
  refine x_istore (lv' := [(5, .inl (1 : Int32)), (4, .inl q_1), (3, .inl (0 : Int32)), (0, .inr (.inl (some h0))), (1, .inl x1), (2, .inl x2)]) C0 hl d_Mod_shiftOf_12 (by decide) rfl (fun ls hl => ?_)
  obtain ⟨q_10, e9, h⟩ := Option.bind_eq_some_iff.mp h
  refine w_Mod_shiftOf_L14 C0 hE hR1 hR2 hR3 hR4 hH hS hz 100000 _ _ _ q_10 ls (x_sub hl [3, 4, 5, 2, 1, 0] rfl) e9 (fun ls hl => ?_)
  refine x_iload_n C0 hl 3 d_Mod_shiftOf_96 rfl rfl ?_
  cases h
  rw [hQ]
  exact x_iretP C0 hr hlocks hP0 d_Mod_shiftOf_97
theorem d_Mod_across_0 : decode b_Mod_across 0 = .ok (.aload_n 0, 1) := by decide +kernel
theorem d_Mod_across_1 : decode b_Mod_across 1 = .ok (.getfield 32, 3) := by decide +kernel
theorem d_Mod_across_4 : decode b_Mod_across 4 = .ok (.iload_n 1, 1) := by decide +kernel
theorem d_Mod_across_5 : decode b_Mod_across 5 = .ok (.iaload, 1) := by decide +kernel
theorem d_Mod_across_6 : decode b_Mod_across 6 = .ok (.iconst 3, 1) := by decide +kernel
theorem d_Mod_across_7 : decode b_Mod_across 7 = .ok (.if_icmp .ne 21, 3) := by decide +kernel
theorem d_Mod_across_10 : decode b_Mod_across 10 = .ok (.iload_n 2, 1) := by decide +kernel
theorem d_Mod_across_11 : decode b_Mod_across 11 = .ok (.iconst 2, 1) := by decide +kernel
theorem d_Mod_across_12 : decode b_Mod_across 12 = .ok (.irem, 1) := by decide +kernel
theorem d_Mod_across_13 : decode b_Mod_across 13 = .ok (.iconst 1, 1) := by decide +kernel
theorem d_Mod_across_14 : decode b_Mod_across 14 = .ok (.if_icmp .ne 12, 3) := by decide +kernel
theorem d_Mod_across_17 : decode b_Mod_across 17 = .ok (.aload_n 0, 1) := by decide +kernel
theorem d_Mod_across_18 : decode b_Mod_across 18 = .ok (.iload_n 1, 1) := by decide +kernel
theorem d_Mod_across_19 : decode b_Mod_across 19 = .ok (.iconst 0, 1) := by decide +kernel
theorem d_Mod_across_20 : decode b_Mod_across 20 = .ok (.invokevirtual 102, 3) := by decide +kernel
theorem d_Mod_across_23 : decode b_Mod_across 23 = .ok (.goto 4, 3) := by decide +kernel
theorem d_Mod_across_26 : decode b_Mod_across 26 = .ok (.iconst 0, 1) := by decide +kernel
theorem d_Mod_across_27 : decode b_Mod_across 27 = .ok (.ireturn, 1) := by decide +kernel
theorem d_Mod_across_28 : decode b_Mod_across 28 = .ok (.iconst 0, 1) := by decide +kernel
theorem d_Mod_across_29 : decode b_Mod_across 29 = .ok (.istore_n 3, 1) := by decide +kernel
theorem d_Mod_across_30 : decode b_Mod_across 30 = .ok (.iconst 0, 1) := by decide +kernel
theorem d_Mod_across_31 : decode b_Mod_across 31 = .ok (.istore 4, 2) := by decide +kernel
theorem d_Mod_across_33 : decode b_Mod_across 33 = .ok (.iload 4, 2) := by decide +kernel
theorem d_Mod_across_35 : decode b_Mod_across 35 = .ok (.iload_n 2, 1) := by decide +kernel
theorem d_Mod_across_36 : decode b_Mod_across 36 = .ok (.if_icmp .ge 19, 3) := by decide +kernel
theorem d_Mod_across_39 : decode b_Mod_across 39 = .ok (.iload_n 3, 1) := by decide +kernel
theorem d_Mod_across_40 : decode b_Mod_across 40 = .ok (.aload_n 0, 1) := by decide +kernel
theorem d_Mod_across_41 : decode b_Mod_across 41 = .ok (.iload_n 1, 1) := by decide +kernel
theorem d_Mod_across_42 : decode b_Mod_across 42 = .ok (.iload 4, 2) := by decide +kernel
theorem d_Mod_across_44 : decode b_Mod_across 44 = .ok (.invokevirtual 102, 3) := by decide +kernel
theorem d_Mod_across_47 : decode b_Mod_across 47 = .ok (.iadd, 1) := by decide +kernel
theorem d_Mod_across_48 : decode b_Mod_across 48 = .ok (.istore_n 3, 1) := by decide +kernel
theorem d_Mod_across_49 : decode b_Mod_across 49 = .ok (.iinc 4 1, 3) := by decide +kernel
theorem d_Mod_across_52 : decode b_Mod_across 52 = .ok (.goto (-19), 3) := by decide +kernel
theorem d_Mod_across_55 : decode b_Mod_across 55 = .ok (.iload_n 3, 1) := by decide +kernel
theorem d_Mod_across_56 : decode b_Mod_across 56 = .ok (.ireturn, 1) := by decide +kernel
def f_Mod_across_L33 (w : Mp) (h0 : Nat) (x1 : Int32) (x2 : Int32) : Nat → Int32 → Int32 → Option (Nat × Int32 × Int32)
  | 0, _, _ => none
  | n + 1, x3, x4 => if x2 ≤ x4 then (some (0, x3, x4)) else ((xo w (some h0) 5).bind fun b_4 => (f_Mod_wide w b_4 x1 x4).bind fun q_3 => f_Mod_across_L33 w h0 x1 x2 n (x3 + q_3) (x4 + 1))
set_option maxHeartbeats 4000000 in
set_option maxRecDepth 100000 in
theorem w_Mod_across_L33 {p : Program} {l : Launch} {e : Env} {R : Room} {s : State} {m : MethodId} {args : Array Value} {below : List Frame} {meth : Method} {c : Code} {Q : State → Prop} {cells slots sz : Nat} {G : Gx} {h0 : Nat} {x1 : Int32} {x2 : Int32} (C0 : CallFix p m c b_Mod_across 5 s args wA R_Mod) (hE : xE G vwCl xaty s) (hR1 : 1 ≤ R.frames) (hR2 : 22 ≤ R.locals) (hR3 : cells ≤ R.cells) (hR4 : slots ≤ R.slots) {w : Mp} {H : Heap} {locs : List Loc} (hH : xhd G vwCl w H) (hS : xS G s H locs) (hz : H.size = sz) : ∀ (n : Nat) (x3 : Int32) (x4 : Int32) (q : Nat × Int32 × Int32) (ls : Array Slot), xL ls 5 [(0, .inr (.inl (some h0))), (1, .inl x1), (2, .inl x2), (3, .inl x3), (4, .inl x4)] → f_Mod_across_L33 w h0 x1 x2 n x3 x4 = some q → (∀ (ls : Array Slot), xL ls 5 [(0, .inr (.inl (some h0))), (1, .inl x1), (2, .inl x2), (3, .inl q.2.1), (4, .inl q.2.2)] → W p l e R s m args below meth c H locs cells slots Q (F0 m 55 ls [])) → W p l e R s m args below meth c H locs cells slots Q (F0 m 33 ls []) := by
  intro n
  induction n with
  | zero => intro _ _ q ls hl h; cases h
  | succ n ih =>
    intro x3 x4 q ls hl h K
    rw [f_Mod_across_L33] at h
    refine x_iload C0 hl 4 d_Mod_across_33 rfl ?_
    refine x_iload_n C0 hl 2 d_Mod_across_35 rfl rfl ?_
    refine x_icmp_ge C0 55 d_Mod_across_36 (by decide) h (fun h => ?_) (fun h => ?_)
    · cases h
      exact K ls (x_sub hl [0, 1, 2, 3, 4] rfl)
    · refine x_iload_n C0 hl 3 d_Mod_across_39 rfl rfl ?_
      refine x_aload_n C0 hl 0 d_Mod_across_40 rfl rfl ?_
      refine x_iload_n C0 hl 1 d_Mod_across_41 rfl rfl ?_
      refine x_iload C0 hl 4 d_Mod_across_42 rfl ?_
      obtain ⟨b_4, e9, h⟩ := Option.bind_eq_some_iff.mp h
      obtain ⟨e8, fs9, hb9⟩ := xo_inv e9
      obtain ⟨q_3, e9, h⟩ := Option.bind_eq_some_iff.mp h
      refine x_callP (va_runV (As := [.int x1, .int x4]) (rest := [.int x3]) C0 (c_Mod_wide l G w _ b_4 x1 x4 q_3 e9) (x_cwV 2 C0 kw_4_202 kw_4_205 kw_1_3 kw_4_204 kw_0_21 (by decide +kernel) (x_rm hR1 hR2 (Nat.le_of_ble_eq_true rfl) (Nat.le_of_ble_eq_true rfl))) (x_preV hE hH hS (ci := 5) rfl hb9) rfl rfl hl.1 (by rw [e8]; rfl) (lv_room (by first | exact Nat.le_of_ble_eq_true rfl | simp only [List.map_cons, List.map_nil, List.sum_cons, List.sum_nil, va_rf_cat, x_catI, x_catL, x_catA] <;> decide)) d_Mod_across_44 (x_le0 hR3 hR4)) ?_
      refine lv_iadd C0.1 C0.2.1 d_Mod_across_47 ?_
      refine x_istore_n (lv' := [(3, .inl (x3 + q_3)), (0, .inr (.inl (some h0))), (1, .inl x1), (2, .inl x2), (4, .inl x4)]) C0 hl d_Mod_across_48 rfl (by decide) rfl (fun ls hl => ?_)
      refine x_iinc (v := 1) (lv' := [(4, .inl (x4 + 1)), (3, .inl (x3 + q_3)), (0, .inr (.inl (some h0))), (1, .inl x1), (2, .inl x2)]) C0 hl 4 d_Mod_across_49 rfl (by decide) (by decide) rfl (fun ls hl => ?_)
      refine x_goto C0 33 d_Mod_across_52 (by decide) ?_
      exact ih _ _ q ls (x_sub hl [2, 3, 4, 1, 0] rfl) h K
def f_Mod_across (w : Mp) (h0 : Nat) (x1 : Int32) (x2 : Int32) : Option (Int32) := (gR w (some h0) 5 10).bind fun v_1 => (aI w v_1 0 x1).bind fun v_2 => if v_2 = (3 : Int32) then (if (x2 - x2 / (2 : Int32) * (2 : Int32)) = (1 : Int32) then ((xo w (some h0) 5).bind fun b_7 => (f_Mod_wide w b_7 x1 (0 : Int32)).bind fun q_6 => some q_6) else (some (0 : Int32))) else ((f_Mod_across_L33 w h0 x1 x2 100000 (0 : Int32) (0 : Int32)).bind fun q_5 => some q_5.2.1)
set_option maxHeartbeats 4000000 in
set_option maxRecDepth 100000 in
theorem c_Mod_across (l : Launch) (G : Gx) (w : Mp) (sz : Nat) (h0 : Nat) (x1 : Int32) (x2 : Int32) (res : Int32) (hf : f_Mod_across w h0 x1 x2 = some res) : Met l y_Mod_across (xws y_Mod_across b_Mod_across 5 (some .int)) { frames := 1, cells := 0, slots := 0, locals := 22 } (xPc G vwCl xaty w sz [va_rf (some h0), .int x1, .int x2]) (qP (some (.int res))) (0) (0) (fun _ => False) := by
  refine Met.ofW (cc := b_Mod_across) (maxL := 5) (ret := (some .int)) (by decide) rfl ?_
  intro p e s m args below meth c s₁ B hml hv
  obtain ⟨ha, hE, hH, hz⟩ := hv
  have C0 : CallFix p m c b_Mod_across 5 s args wA R_Mod := ⟨B.exec, B.bytes, hml, findClass_of_methodNamed B.named, fun w hw => atoms_spec (ws := xws y_Mod_across b_Mod_across 5 (some .int)) B.pre w (List.mem_cons_of_mem _ hw)⟩
  have hr := B.returns
  have hlocks := B.notSynchronized
  obtain ⟨R, hR⟩ : ∃ R, R = (headSpec (xws y_Mod_across b_Mod_across 5 (some .int)) { frames := 1, cells := 0, slots := 0, locals := 22 }).room := ⟨_, rfl⟩
  have hR1 : 1 ≤ R.frames := by rw [hR]; exact Nat.le_of_ble_eq_true rfl
  have hR2 : 22 ≤ R.locals := by rw [hR]; exact Nat.le_of_ble_eq_true rfl
  have hR3 : 0 ≤ R.cells := by rw [hR]; exact Nat.le_refl _
  have hR4 : 0 ≤ R.slots := by rw [hR]; exact Nat.le_refl _
  rw [← hR]
  obtain ⟨Q, hQ⟩ : ∃ Q, Q = MQ below (qP (some (.int res))) args s (0) (0) (fun _ => False) := ⟨_, rfl⟩
  rw [← hQ]
  have hS : xS G s s.heap [] := va_S.rf
  obtain ⟨ls, he, hl⟩ := x_entry m [.inr (.inl (some h0)), .inl x1, .inl x2] 5 (Nat.le_of_ble_eq_true rfl)
  rw [show entryFrame m args 5 = F0 m 0 ls [] by rw [ha]; exact he]
  have hl : xL ls 5 [(0, .inr (.inl (some h0))), (1, .inl x1), (2, .inl x2)] := hl
  have h := hf
  unfold f_Mod_across at h
  suffices hmain : ∀ (H : Heap) (locs : List Loc), xhd G vwCl w H → xS G s H locs → H.size = sz → (H = s.heap ∧ locs = []) → W p l e R s m args below meth c H locs 0 0 Q (F0 m 0 ls []) from hmain _ _ hH hS hz ⟨rfl, rfl⟩
  clear hH hS hz
  intro H locs hH hS hz hP0
  refine x_aload_n C0 hl 0 d_Mod_across_0 rfl rfl ?_
  refine x_getR C0 hE hH (ci := 5) rfl i_Mod 10 (by decide) kw_4_89 d_Mod_across_1 h (fun v_1 h => ?_)
  refine x_iload_n C0 hl 1 d_Mod_across_4 rfl rfl ?_
  refine x_iald C0 hE hH (t := 0) rfl d_Mod_across_5 h (fun v_2 h => ?_)
  refine lv_iconst (v := 3) C0.1 C0.2.1 d_Mod_across_6 (by decide) ?_
  refine x_icmp_ne C0 28 d_Mod_across_7 (by decide) h (fun h => ?_) (fun h => ?_)
  · refine lv_iconst (v := 0) C0.1 C0.2.1 d_Mod_across_28 (by decide) ?_
    refine x_istore_n (lv' := [(3, .inl (0 : Int32)), (0, .inr (.inl (some h0))), (1, .inl x1), (2, .inl x2)]) C0 hl d_Mod_across_29 rfl (by decide) rfl (fun ls hl => ?_)
    refine lv_iconst (v := 0) C0.1 C0.2.1 d_Mod_across_30 (by decide) ?_
    refine x_istore (lv' := [(4, .inl (0 : Int32)), (3, .inl (0 : Int32)), (0, .inr (.inl (some h0))), (1, .inl x1), (2, .inl x2)]) C0 hl d_Mod_across_31 (by decide) rfl (fun ls hl => ?_)
    obtain ⟨q_5, e9, h⟩ := Option.bind_eq_some_iff.mp h
    refine w_Mod_across_L33 C0 hE hR1 hR2 hR3 hR4 hH hS hz 100000 _ _ q_5 ls (x_sub hl [2, 3, 4, 1, 0] rfl) e9 (fun ls hl => ?_)
    refine x_iload_n C0 hl 3 d_Mod_across_55 rfl rfl ?_
    cases h
    rw [hQ]
    exact x_iretP C0 hr hlocks hP0 d_Mod_across_56
  · refine x_iload_n C0 hl 2 d_Mod_across_10 rfl rfl ?_
    refine lv_iconst (v := 2) C0.1 C0.2.1 d_Mod_across_11 (by decide) ?_
    refine lv_irem C0.1 C0.2.1 d_Mod_across_12 (by decide) ?_
    refine lv_iconst (v := 1) C0.1 C0.2.1 d_Mod_across_13 (by decide) ?_
    refine x_icmp_ne C0 26 d_Mod_across_14 (by decide) h (fun h => ?_) (fun h => ?_)
    · refine lv_iconst (v := 0) C0.1 C0.2.1 d_Mod_across_26 (by decide) ?_
      cases h
      rw [hQ]
      exact x_iretP C0 hr hlocks hP0 d_Mod_across_27
    · refine x_aload_n C0 hl 0 d_Mod_across_17 rfl rfl ?_
      refine x_iload_n C0 hl 1 d_Mod_across_18 rfl rfl ?_
      refine lv_iconst (v := 0) C0.1 C0.2.1 d_Mod_across_19 (by decide) ?_
      obtain ⟨b_7, e9, h⟩ := Option.bind_eq_some_iff.mp h
      obtain ⟨e8, fs9, hb9⟩ := xo_inv e9
      obtain ⟨q_6, e9, h⟩ := Option.bind_eq_some_iff.mp h
      refine x_callP (va_runV (As := [.int x1, .int (0 : Int32)]) (rest := []) C0 (c_Mod_wide l G w _ b_7 x1 (0 : Int32) q_6 e9) (x_cwV 2 C0 kw_4_202 kw_4_205 kw_1_3 kw_4_204 kw_0_21 (by decide +kernel) (x_rm hR1 hR2 (Nat.le_of_ble_eq_true rfl) (Nat.le_of_ble_eq_true rfl))) (x_preV hE hH hS (ci := 5) rfl hb9) rfl rfl hl.1 (by rw [e8]; rfl) (lv_room (by first | exact Nat.le_of_ble_eq_true rfl | simp only [List.map_cons, List.map_nil, List.sum_cons, List.sum_nil, va_rf_cat, x_catI, x_catL, x_catA] <;> decide)) d_Mod_across_20 (x_le0 hR3 hR4)) ?_
      refine x_goto C0 27 d_Mod_across_23 (by decide) ?_
      cases h
      rw [hQ]
      exact x_iretP C0 hr hlocks hP0 d_Mod_across_27
theorem d_Mod_topOf_0 : decode b_Mod_topOf 0 = .ok (.aload_n 0, 1) := by decide +kernel
theorem d_Mod_topOf_1 : decode b_Mod_topOf 1 = .ok (.getfield 32, 3) := by decide +kernel
theorem d_Mod_topOf_4 : decode b_Mod_topOf 4 = .ok (.iload_n 1, 1) := by decide +kernel
theorem d_Mod_topOf_5 : decode b_Mod_topOf 5 = .ok (.iaload, 1) := by decide +kernel
theorem d_Mod_topOf_6 : decode b_Mod_topOf 6 = .ok (.iconst 3, 1) := by decide +kernel
theorem d_Mod_topOf_7 : decode b_Mod_topOf 7 = .ok (.if_icmp .ne 19, 3) := by decide +kernel
theorem d_Mod_topOf_10 : decode b_Mod_topOf 10 = .ok (.iload_n 2, 1) := by decide +kernel
theorem d_Mod_topOf_11 : decode b_Mod_topOf 11 = .ok (.iconst 1, 1) := by decide +kernel
theorem d_Mod_topOf_12 : decode b_Mod_topOf 12 = .ok (.if_icmp .le 12, 3) := by decide +kernel
theorem d_Mod_topOf_15 : decode b_Mod_topOf 15 = .ok (.aload_n 0, 1) := by decide +kernel
theorem d_Mod_topOf_16 : decode b_Mod_topOf 16 = .ok (.iload_n 1, 1) := by decide +kernel
theorem d_Mod_topOf_17 : decode b_Mod_topOf 17 = .ok (.iconst 0, 1) := by decide +kernel
theorem d_Mod_topOf_18 : decode b_Mod_topOf 18 = .ok (.invokevirtual 99, 3) := by decide +kernel
theorem d_Mod_topOf_21 : decode b_Mod_topOf 21 = .ok (.goto 4, 3) := by decide +kernel
theorem d_Mod_topOf_24 : decode b_Mod_topOf 24 = .ok (.iconst 0, 1) := by decide +kernel
theorem d_Mod_topOf_25 : decode b_Mod_topOf 25 = .ok (.ireturn, 1) := by decide +kernel
theorem d_Mod_topOf_26 : decode b_Mod_topOf 26 = .ok (.iconst 0, 1) := by decide +kernel
theorem d_Mod_topOf_27 : decode b_Mod_topOf 27 = .ok (.istore_n 3, 1) := by decide +kernel
theorem d_Mod_topOf_28 : decode b_Mod_topOf 28 = .ok (.iconst 0, 1) := by decide +kernel
theorem d_Mod_topOf_29 : decode b_Mod_topOf 29 = .ok (.istore 4, 2) := by decide +kernel
theorem d_Mod_topOf_31 : decode b_Mod_topOf 31 = .ok (.iload 4, 2) := by decide +kernel
theorem d_Mod_topOf_33 : decode b_Mod_topOf 33 = .ok (.iload_n 2, 1) := by decide +kernel
theorem d_Mod_topOf_34 : decode b_Mod_topOf 34 = .ok (.if_icmp .ge 19, 3) := by decide +kernel
theorem d_Mod_topOf_37 : decode b_Mod_topOf 37 = .ok (.iload_n 3, 1) := by decide +kernel
theorem d_Mod_topOf_38 : decode b_Mod_topOf 38 = .ok (.aload_n 0, 1) := by decide +kernel
theorem d_Mod_topOf_39 : decode b_Mod_topOf 39 = .ok (.iload_n 1, 1) := by decide +kernel
theorem d_Mod_topOf_40 : decode b_Mod_topOf 40 = .ok (.iload 4, 2) := by decide +kernel
theorem d_Mod_topOf_42 : decode b_Mod_topOf 42 = .ok (.invokevirtual 113, 3) := by decide +kernel
theorem d_Mod_topOf_45 : decode b_Mod_topOf 45 = .ok (.iadd, 1) := by decide +kernel
theorem d_Mod_topOf_46 : decode b_Mod_topOf 46 = .ok (.istore_n 3, 1) := by decide +kernel
theorem d_Mod_topOf_47 : decode b_Mod_topOf 47 = .ok (.iinc 4 1, 3) := by decide +kernel
theorem d_Mod_topOf_50 : decode b_Mod_topOf 50 = .ok (.goto (-19), 3) := by decide +kernel
theorem d_Mod_topOf_53 : decode b_Mod_topOf 53 = .ok (.iload_n 3, 1) := by decide +kernel
theorem d_Mod_topOf_54 : decode b_Mod_topOf 54 = .ok (.ireturn, 1) := by decide +kernel
def f_Mod_topOf_L31 (w : Mp) (h0 : Nat) (x1 : Int32) (x2 : Int32) : Nat → Int32 → Int32 → Option (Nat × Int32 × Int32)
  | 0, _, _ => none
  | n + 1, x3, x4 => if x2 ≤ x4 then (some (0, x3, x4)) else ((xo w (some h0) 5).bind fun b_4 => (f_Mod_shiftOf w b_4 x1 x4).bind fun q_3 => f_Mod_topOf_L31 w h0 x1 x2 n (x3 + q_3) (x4 + 1))
set_option maxHeartbeats 4000000 in
set_option maxRecDepth 100000 in
theorem w_Mod_topOf_L31 {p : Program} {l : Launch} {e : Env} {R : Room} {s : State} {m : MethodId} {args : Array Value} {below : List Frame} {meth : Method} {c : Code} {Q : State → Prop} {cells slots sz : Nat} {G : Gx} {h0 : Nat} {x1 : Int32} {x2 : Int32} (C0 : CallFix p m c b_Mod_topOf 5 s args wA R_Mod) (hE : xE G vwCl xaty s) (hR1 : 4 ≤ R.frames) (hR2 : 105 ≤ R.locals) (hR3 : cells ≤ R.cells) (hR4 : slots ≤ R.slots) {w : Mp} {H : Heap} {locs : List Loc} (hH : xhd G vwCl w H) (hS : xS G s H locs) (hz : H.size = sz) : ∀ (n : Nat) (x3 : Int32) (x4 : Int32) (q : Nat × Int32 × Int32) (ls : Array Slot), xL ls 5 [(0, .inr (.inl (some h0))), (1, .inl x1), (2, .inl x2), (3, .inl x3), (4, .inl x4)] → f_Mod_topOf_L31 w h0 x1 x2 n x3 x4 = some q → (∀ (ls : Array Slot), xL ls 5 [(0, .inr (.inl (some h0))), (1, .inl x1), (2, .inl x2), (3, .inl q.2.1), (4, .inl q.2.2)] → W p l e R s m args below meth c H locs cells slots Q (F0 m 53 ls [])) → W p l e R s m args below meth c H locs cells slots Q (F0 m 31 ls []) := by
  intro n
  induction n with
  | zero => intro _ _ q ls hl h; cases h
  | succ n ih =>
    intro x3 x4 q ls hl h K
    rw [f_Mod_topOf_L31] at h
    refine x_iload C0 hl 4 d_Mod_topOf_31 rfl ?_
    refine x_iload_n C0 hl 2 d_Mod_topOf_33 rfl rfl ?_
    refine x_icmp_ge C0 53 d_Mod_topOf_34 (by decide) h (fun h => ?_) (fun h => ?_)
    · cases h
      exact K ls (x_sub hl [0, 1, 2, 3, 4] rfl)
    · refine x_iload_n C0 hl 3 d_Mod_topOf_37 rfl rfl ?_
      refine x_aload_n C0 hl 0 d_Mod_topOf_38 rfl rfl ?_
      refine x_iload_n C0 hl 1 d_Mod_topOf_39 rfl rfl ?_
      refine x_iload C0 hl 4 d_Mod_topOf_40 rfl ?_
      obtain ⟨b_4, e9, h⟩ := Option.bind_eq_some_iff.mp h
      obtain ⟨e8, fs9, hb9⟩ := xo_inv e9
      obtain ⟨q_3, e9, h⟩ := Option.bind_eq_some_iff.mp h
      refine x_callP (va_runV (As := [.int x1, .int x4]) (rest := [.int x3]) C0 (c_Mod_shiftOf l G w _ b_4 x1 x4 q_3 e9) (x_cwV 2 C0 kw_4_214 kw_4_217 kw_1_3 kw_4_216 kw_0_24 (by decide +kernel) (x_rm hR1 hR2 (Nat.le_of_ble_eq_true rfl) (Nat.le_of_ble_eq_true rfl))) (x_preV hE hH hS (ci := 5) rfl hb9) rfl rfl hl.1 (by rw [e8]; rfl) (lv_room (by first | exact Nat.le_of_ble_eq_true rfl | simp only [List.map_cons, List.map_nil, List.sum_cons, List.sum_nil, va_rf_cat, x_catI, x_catL, x_catA] <;> decide)) d_Mod_topOf_42 (x_le0 hR3 hR4)) ?_
      refine lv_iadd C0.1 C0.2.1 d_Mod_topOf_45 ?_
      refine x_istore_n (lv' := [(3, .inl (x3 + q_3)), (0, .inr (.inl (some h0))), (1, .inl x1), (2, .inl x2), (4, .inl x4)]) C0 hl d_Mod_topOf_46 rfl (by decide) rfl (fun ls hl => ?_)
      refine x_iinc (v := 1) (lv' := [(4, .inl (x4 + 1)), (3, .inl (x3 + q_3)), (0, .inr (.inl (some h0))), (1, .inl x1), (2, .inl x2)]) C0 hl 4 d_Mod_topOf_47 rfl (by decide) (by decide) rfl (fun ls hl => ?_)
      refine x_goto C0 31 d_Mod_topOf_50 (by decide) ?_
      exact ih _ _ q ls (x_sub hl [2, 3, 4, 1, 0] rfl) h K
def f_Mod_topOf (w : Mp) (h0 : Nat) (x1 : Int32) (x2 : Int32) : Option (Int32) := (gR w (some h0) 5 10).bind fun v_1 => (aI w v_1 0 x1).bind fun v_2 => if v_2 = (3 : Int32) then (if x2 ≤ (1 : Int32) then (some (0 : Int32)) else ((xo w (some h0) 5).bind fun b_7 => (f_Mod_high w b_7 x1 (0 : Int32)).bind fun q_6 => some q_6)) else ((f_Mod_topOf_L31 w h0 x1 x2 100000 (0 : Int32) (0 : Int32)).bind fun q_5 => some q_5.2.1)
set_option maxHeartbeats 4000000 in
set_option maxRecDepth 100000 in
theorem c_Mod_topOf (l : Launch) (G : Gx) (w : Mp) (sz : Nat) (h0 : Nat) (x1 : Int32) (x2 : Int32) (res : Int32) (hf : f_Mod_topOf w h0 x1 x2 = some res) : Met l y_Mod_topOf (xws y_Mod_topOf b_Mod_topOf 5 (some .int)) { frames := 4, cells := 0, slots := 0, locals := 105 } (xPc G vwCl xaty w sz [va_rf (some h0), .int x1, .int x2]) (qP (some (.int res))) (0) (0) (fun _ => False) := by
  refine Met.ofW (cc := b_Mod_topOf) (maxL := 5) (ret := (some .int)) (by decide) rfl ?_
  intro p e s m args below meth c s₁ B hml hv
  obtain ⟨ha, hE, hH, hz⟩ := hv
  have C0 : CallFix p m c b_Mod_topOf 5 s args wA R_Mod := ⟨B.exec, B.bytes, hml, findClass_of_methodNamed B.named, fun w hw => atoms_spec (ws := xws y_Mod_topOf b_Mod_topOf 5 (some .int)) B.pre w (List.mem_cons_of_mem _ hw)⟩
  have hr := B.returns
  have hlocks := B.notSynchronized
  obtain ⟨R, hR⟩ : ∃ R, R = (headSpec (xws y_Mod_topOf b_Mod_topOf 5 (some .int)) { frames := 4, cells := 0, slots := 0, locals := 105 }).room := ⟨_, rfl⟩
  have hR1 : 4 ≤ R.frames := by rw [hR]; exact Nat.le_of_ble_eq_true rfl
  have hR2 : 105 ≤ R.locals := by rw [hR]; exact Nat.le_of_ble_eq_true rfl
  have hR3 : 0 ≤ R.cells := by rw [hR]; exact Nat.le_refl _
  have hR4 : 0 ≤ R.slots := by rw [hR]; exact Nat.le_refl _
  rw [← hR]
  obtain ⟨Q, hQ⟩ : ∃ Q, Q = MQ below (qP (some (.int res))) args s (0) (0) (fun _ => False) := ⟨_, rfl⟩
  rw [← hQ]
  have hS : xS G s s.heap [] := va_S.rf
  obtain ⟨ls, he, hl⟩ := x_entry m [.inr (.inl (some h0)), .inl x1, .inl x2] 5 (Nat.le_of_ble_eq_true rfl)
  rw [show entryFrame m args 5 = F0 m 0 ls [] by rw [ha]; exact he]
  have hl : xL ls 5 [(0, .inr (.inl (some h0))), (1, .inl x1), (2, .inl x2)] := hl
  have h := hf
  unfold f_Mod_topOf at h
  suffices hmain : ∀ (H : Heap) (locs : List Loc), xhd G vwCl w H → xS G s H locs → H.size = sz → (H = s.heap ∧ locs = []) → W p l e R s m args below meth c H locs 0 0 Q (F0 m 0 ls []) from hmain _ _ hH hS hz ⟨rfl, rfl⟩
  clear hH hS hz
  intro H locs hH hS hz hP0
  refine x_aload_n C0 hl 0 d_Mod_topOf_0 rfl rfl ?_
  refine x_getR C0 hE hH (ci := 5) rfl i_Mod 10 (by decide) kw_4_89 d_Mod_topOf_1 h (fun v_1 h => ?_)
  refine x_iload_n C0 hl 1 d_Mod_topOf_4 rfl rfl ?_
  refine x_iald C0 hE hH (t := 0) rfl d_Mod_topOf_5 h (fun v_2 h => ?_)
  refine lv_iconst (v := 3) C0.1 C0.2.1 d_Mod_topOf_6 (by decide) ?_
  refine x_icmp_ne C0 26 d_Mod_topOf_7 (by decide) h (fun h => ?_) (fun h => ?_)
  · refine lv_iconst (v := 0) C0.1 C0.2.1 d_Mod_topOf_26 (by decide) ?_
    refine x_istore_n (lv' := [(3, .inl (0 : Int32)), (0, .inr (.inl (some h0))), (1, .inl x1), (2, .inl x2)]) C0 hl d_Mod_topOf_27 rfl (by decide) rfl (fun ls hl => ?_)
    refine lv_iconst (v := 0) C0.1 C0.2.1 d_Mod_topOf_28 (by decide) ?_
    refine x_istore (lv' := [(4, .inl (0 : Int32)), (3, .inl (0 : Int32)), (0, .inr (.inl (some h0))), (1, .inl x1), (2, .inl x2)]) C0 hl d_Mod_topOf_29 (by decide) rfl (fun ls hl => ?_)
    obtain ⟨q_5, e9, h⟩ := Option.bind_eq_some_iff.mp h
    refine w_Mod_topOf_L31 C0 hE hR1 hR2 hR3 hR4 hH hS hz 100000 _ _ q_5 ls (x_sub hl [2, 3, 4, 1, 0] rfl) e9 (fun ls hl => ?_)
    refine x_iload_n C0 hl 3 d_Mod_topOf_53 rfl rfl ?_
    cases h
    rw [hQ]
    exact x_iretP C0 hr hlocks hP0 d_Mod_topOf_54
  · refine x_iload_n C0 hl 2 d_Mod_topOf_10 rfl rfl ?_
    refine lv_iconst (v := 1) C0.1 C0.2.1 d_Mod_topOf_11 (by decide) ?_
    refine x_icmp_le C0 24 d_Mod_topOf_12 (by decide) h (fun h => ?_) (fun h => ?_)
    · refine lv_iconst (v := 0) C0.1 C0.2.1 d_Mod_topOf_24 (by decide) ?_
      cases h
      rw [hQ]
      exact x_iretP C0 hr hlocks hP0 d_Mod_topOf_25
    · refine x_aload_n C0 hl 0 d_Mod_topOf_15 rfl rfl ?_
      refine x_iload_n C0 hl 1 d_Mod_topOf_16 rfl rfl ?_
      refine lv_iconst (v := 0) C0.1 C0.2.1 d_Mod_topOf_17 (by decide) ?_
      obtain ⟨b_7, e9, h⟩ := Option.bind_eq_some_iff.mp h
      obtain ⟨e8, fs9, hb9⟩ := xo_inv e9
      obtain ⟨q_6, e9, h⟩ := Option.bind_eq_some_iff.mp h
      refine x_callP (va_runV (As := [.int x1, .int (0 : Int32)]) (rest := []) C0 (c_Mod_high l G w _ b_7 x1 (0 : Int32) q_6 e9) (x_cwV 2 C0 kw_4_210 kw_4_213 kw_1_3 kw_4_212 kw_0_23 (by decide +kernel) (x_rm hR1 hR2 (Nat.le_of_ble_eq_true rfl) (Nat.le_of_ble_eq_true rfl))) (x_preV hE hH hS (ci := 5) rfl hb9) rfl rfl hl.1 (by rw [e8]; rfl) (lv_room (by first | exact Nat.le_of_ble_eq_true rfl | simp only [List.map_cons, List.map_nil, List.sum_cons, List.sum_nil, va_rf_cat, x_catI, x_catL, x_catA] <;> decide)) d_Mod_topOf_18 (x_le0 hR3 hR4)) ?_
      refine x_goto C0 25 d_Mod_topOf_21 (by decide) ?_
      cases h
      rw [hQ]
      exact x_iretP C0 hr hlocks hP0 d_Mod_topOf_25
theorem d_Mod_leastTop_0 : decode b_Mod_leastTop 0 = .ok (.iconst 0, 1) := by decide +kernel
theorem d_Mod_leastTop_1 : decode b_Mod_leastTop 1 = .ok (.istore_n 2, 1) := by decide +kernel
theorem d_Mod_leastTop_2 : decode b_Mod_leastTop 2 = .ok (.iconst 0, 1) := by decide +kernel
theorem d_Mod_leastTop_3 : decode b_Mod_leastTop 3 = .ok (.istore_n 3, 1) := by decide +kernel
theorem d_Mod_leastTop_4 : decode b_Mod_leastTop 4 = .ok (.iload_n 3, 1) := by decide +kernel
theorem d_Mod_leastTop_5 : decode b_Mod_leastTop 5 = .ok (.aload_n 0, 1) := by decide +kernel
theorem d_Mod_leastTop_6 : decode b_Mod_leastTop 6 = .ok (.getfield 35, 3) := by decide +kernel
theorem d_Mod_leastTop_9 : decode b_Mod_leastTop 9 = .ok (.iload_n 1, 1) := by decide +kernel
theorem d_Mod_leastTop_10 : decode b_Mod_leastTop 10 = .ok (.iaload, 1) := by decide +kernel
theorem d_Mod_leastTop_11 : decode b_Mod_leastTop 11 = .ok (.if_icmp .ge 30, 3) := by decide +kernel
theorem d_Mod_leastTop_14 : decode b_Mod_leastTop 14 = .ok (.aload_n 0, 1) := by decide +kernel
theorem d_Mod_leastTop_15 : decode b_Mod_leastTop 15 = .ok (.iload_n 1, 1) := by decide +kernel
theorem d_Mod_leastTop_16 : decode b_Mod_leastTop 16 = .ok (.iload_n 3, 1) := by decide +kernel
theorem d_Mod_leastTop_17 : decode b_Mod_leastTop 17 = .ok (.invokevirtual 116, 3) := by decide +kernel
theorem d_Mod_leastTop_20 : decode b_Mod_leastTop 20 = .ok (.istore 4, 2) := by decide +kernel
theorem d_Mod_leastTop_22 : decode b_Mod_leastTop 22 = .ok (.iload 4, 2) := by decide +kernel
theorem d_Mod_leastTop_24 : decode b_Mod_leastTop 24 = .ok (.iload_n 2, 1) := by decide +kernel
theorem d_Mod_leastTop_25 : decode b_Mod_leastTop 25 = .ok (.if_icmp .ge 8, 3) := by decide +kernel
theorem d_Mod_leastTop_28 : decode b_Mod_leastTop 28 = .ok (.iload 4, 2) := by decide +kernel
theorem d_Mod_leastTop_30 : decode b_Mod_leastTop 30 = .ok (.goto 4, 3) := by decide +kernel
theorem d_Mod_leastTop_33 : decode b_Mod_leastTop 33 = .ok (.iload_n 2, 1) := by decide +kernel
theorem d_Mod_leastTop_34 : decode b_Mod_leastTop 34 = .ok (.istore_n 2, 1) := by decide +kernel
theorem d_Mod_leastTop_35 : decode b_Mod_leastTop 35 = .ok (.iinc 3 1, 3) := by decide +kernel
theorem d_Mod_leastTop_38 : decode b_Mod_leastTop 38 = .ok (.goto (-34), 3) := by decide +kernel
theorem d_Mod_leastTop_41 : decode b_Mod_leastTop 41 = .ok (.iload_n 2, 1) := by decide +kernel
theorem d_Mod_leastTop_42 : decode b_Mod_leastTop 42 = .ok (.ireturn, 1) := by decide +kernel
def f_Mod_leastTop_L4 (w : Mp) (h0 : Nat) (x1 : Int32) : Nat → Int32 → Int32 → Option (Nat × Int32 × Int32)
  | 0, _, _ => none
  | n + 1, x2, x3 => (gR w (some h0) 5 11).bind fun v_1 => (aI w v_1 0 x1).bind fun v_2 => if v_2 ≤ x3 then (some (0, x2, x3)) else ((xo w (some h0) 5).bind fun b_4 => (f_Mod_topOf w b_4 x1 x3).bind fun q_3 => if x2 ≤ q_3 then (f_Mod_leastTop_L4 w h0 x1 n x2 (x3 + 1)) else (f_Mod_leastTop_L4 w h0 x1 n q_3 (x3 + 1)))
set_option maxHeartbeats 4000000 in
set_option maxRecDepth 100000 in
theorem w_Mod_leastTop_L4 {p : Program} {l : Launch} {e : Env} {R : Room} {s : State} {m : MethodId} {args : Array Value} {below : List Frame} {meth : Method} {c : Code} {Q : State → Prop} {cells slots sz : Nat} {G : Gx} {h0 : Nat} {x1 : Int32} (C0 : CallFix p m c b_Mod_leastTop 5 s args wA R_Mod) (hE : xE G vwCl xaty s) (hR1 : 5 ≤ R.frames) (hR2 : 129 ≤ R.locals) (hR3 : cells ≤ R.cells) (hR4 : slots ≤ R.slots) {w : Mp} {H : Heap} {locs : List Loc} (hH : xhd G vwCl w H) (hS : xS G s H locs) (hz : H.size = sz) : ∀ (n : Nat) (x2 : Int32) (x3 : Int32) (q : Nat × Int32 × Int32) (ls : Array Slot), xL ls 5 [(0, .inr (.inl (some h0))), (1, .inl x1), (2, .inl x2), (3, .inl x3)] → f_Mod_leastTop_L4 w h0 x1 n x2 x3 = some q → (∀ (ls : Array Slot), xL ls 5 [(0, .inr (.inl (some h0))), (1, .inl x1), (2, .inl q.2.1), (3, .inl q.2.2)] → W p l e R s m args below meth c H locs cells slots Q (F0 m 41 ls [])) → W p l e R s m args below meth c H locs cells slots Q (F0 m 4 ls []) := by
  intro n
  induction n with
  | zero => intro _ _ q ls hl h; cases h
  | succ n ih =>
    intro x2 x3 q ls hl h K
    rw [f_Mod_leastTop_L4] at h
    refine x_iload_n C0 hl 3 d_Mod_leastTop_4 rfl rfl ?_
    refine x_aload_n C0 hl 0 d_Mod_leastTop_5 rfl rfl ?_
    refine x_getR C0 hE hH (ci := 5) rfl i_Mod 11 (by decide) kw_4_90 d_Mod_leastTop_6 h (fun v_1 h => ?_)
    refine x_iload_n C0 hl 1 d_Mod_leastTop_9 rfl rfl ?_
    refine x_iald C0 hE hH (t := 0) rfl d_Mod_leastTop_10 h (fun v_2 h => ?_)
    refine x_icmp_ge C0 41 d_Mod_leastTop_11 (by decide) h (fun h => ?_) (fun h => ?_)
    · cases h
      exact K ls (x_sub hl [0, 1, 2, 3] rfl)
    · refine x_aload_n C0 hl 0 d_Mod_leastTop_14 rfl rfl ?_
      refine x_iload_n C0 hl 1 d_Mod_leastTop_15 rfl rfl ?_
      refine x_iload_n C0 hl 3 d_Mod_leastTop_16 rfl rfl ?_
      obtain ⟨b_4, e9, h⟩ := Option.bind_eq_some_iff.mp h
      obtain ⟨e8, fs9, hb9⟩ := xo_inv e9
      obtain ⟨q_3, e9, h⟩ := Option.bind_eq_some_iff.mp h
      refine x_callP (va_runV (As := [.int x1, .int x3]) (rest := []) C0 (c_Mod_topOf l G w _ b_4 x1 x3 q_3 e9) (x_cwV 2 C0 kw_4_206 kw_4_209 kw_1_3 kw_4_208 kw_0_22 (by decide +kernel) (x_rm hR1 hR2 (Nat.le_of_ble_eq_true rfl) (Nat.le_of_ble_eq_true rfl))) (x_preV hE hH hS (ci := 5) rfl hb9) rfl rfl hl.1 (by rw [e8]; rfl) (lv_room (by first | exact Nat.le_of_ble_eq_true rfl | simp only [List.map_cons, List.map_nil, List.sum_cons, List.sum_nil, va_rf_cat, x_catI, x_catL, x_catA] <;> decide)) d_Mod_leastTop_17 (x_le0 hR3 hR4)) ?_
      refine x_istore (lv' := [(4, .inl q_3), (0, .inr (.inl (some h0))), (1, .inl x1), (2, .inl x2), (3, .inl x3)]) C0 hl d_Mod_leastTop_20 (by decide) rfl (fun ls hl => ?_)
      refine x_iload C0 hl 0 d_Mod_leastTop_22 rfl ?_
      refine x_iload_n C0 hl 3 d_Mod_leastTop_24 rfl rfl ?_
      refine x_icmp_ge C0 33 d_Mod_leastTop_25 (by decide) h (fun h => ?_) (fun h => ?_)
      · refine x_iload_n C0 hl 3 d_Mod_leastTop_33 rfl rfl ?_
        refine x_istore_n (lv' := [(2, .inl x2), (4, .inl q_3), (0, .inr (.inl (some h0))), (1, .inl x1), (3, .inl x3)]) C0 hl d_Mod_leastTop_34 rfl (by decide) rfl (fun ls hl => ?_)
        refine x_iinc (v := 1) (lv' := [(3, .inl (x3 + 1)), (2, .inl x2), (4, .inl q_3), (0, .inr (.inl (some h0))), (1, .inl x1)]) C0 hl 4 d_Mod_leastTop_35 rfl (by decide) (by decide) rfl (fun ls hl => ?_)
        refine x_goto C0 4 d_Mod_leastTop_38 (by decide) ?_
        exact ih _ _ q ls (x_sub hl [3, 4, 1, 0] rfl) h K
      · refine x_iload C0 hl 0 d_Mod_leastTop_28 rfl ?_
        refine x_goto C0 34 d_Mod_leastTop_30 (by decide) ?_
        refine x_istore_n (lv' := [(2, .inl q_3), (4, .inl q_3), (0, .inr (.inl (some h0))), (1, .inl x1), (3, .inl x3)]) C0 hl d_Mod_leastTop_34 rfl (by decide) rfl (fun ls hl => ?_)
        refine x_iinc (v := 1) (lv' := [(3, .inl (x3 + 1)), (2, .inl q_3), (4, .inl q_3), (0, .inr (.inl (some h0))), (1, .inl x1)]) C0 hl 4 d_Mod_leastTop_35 rfl (by decide) (by decide) rfl (fun ls hl => ?_)
        refine x_goto C0 4 d_Mod_leastTop_38 (by decide) ?_
        exact ih _ _ q ls (x_sub hl [3, 4, 1, 0] rfl) h K
def f_Mod_leastTop (w : Mp) (h0 : Nat) (x1 : Int32) : Option (Int32) := (f_Mod_leastTop_L4 w h0 x1 100000 (0 : Int32) (0 : Int32)).bind fun q_5 => some q_5.2.1
set_option maxHeartbeats 4000000 in
set_option maxRecDepth 100000 in
theorem c_Mod_leastTop (l : Launch) (G : Gx) (w : Mp) (sz : Nat) (h0 : Nat) (x1 : Int32) (res : Int32) (hf : f_Mod_leastTop w h0 x1 = some res) : Met l y_Mod_leastTop (xws y_Mod_leastTop b_Mod_leastTop 5 (some .int)) { frames := 5, cells := 0, slots := 0, locals := 129 } (xPc G vwCl xaty w sz [va_rf (some h0), .int x1]) (qP (some (.int res))) (0) (0) (fun _ => False) := by
  refine Met.ofW (cc := b_Mod_leastTop) (maxL := 5) (ret := (some .int)) (by decide) rfl ?_
  intro p e s m args below meth c s₁ B hml hv
  obtain ⟨ha, hE, hH, hz⟩ := hv
  have C0 : CallFix p m c b_Mod_leastTop 5 s args wA R_Mod := ⟨B.exec, B.bytes, hml, findClass_of_methodNamed B.named, fun w hw => atoms_spec (ws := xws y_Mod_leastTop b_Mod_leastTop 5 (some .int)) B.pre w (List.mem_cons_of_mem _ hw)⟩
  have hr := B.returns
  have hlocks := B.notSynchronized
  obtain ⟨R, hR⟩ : ∃ R, R = (headSpec (xws y_Mod_leastTop b_Mod_leastTop 5 (some .int)) { frames := 5, cells := 0, slots := 0, locals := 129 }).room := ⟨_, rfl⟩
  have hR1 : 5 ≤ R.frames := by rw [hR]; exact Nat.le_of_ble_eq_true rfl
  have hR2 : 129 ≤ R.locals := by rw [hR]; exact Nat.le_of_ble_eq_true rfl
  have hR3 : 0 ≤ R.cells := by rw [hR]; exact Nat.le_refl _
  have hR4 : 0 ≤ R.slots := by rw [hR]; exact Nat.le_refl _
  rw [← hR]
  obtain ⟨Q, hQ⟩ : ∃ Q, Q = MQ below (qP (some (.int res))) args s (0) (0) (fun _ => False) := ⟨_, rfl⟩
  rw [← hQ]
  have hS : xS G s s.heap [] := va_S.rf
  obtain ⟨ls, he, hl⟩ := x_entry m [.inr (.inl (some h0)), .inl x1] 5 (Nat.le_of_ble_eq_true rfl)
  rw [show entryFrame m args 5 = F0 m 0 ls [] by rw [ha]; exact he]
  have hl : xL ls 5 [(0, .inr (.inl (some h0))), (1, .inl x1)] := hl
  have h := hf
  unfold f_Mod_leastTop at h
  suffices hmain : ∀ (H : Heap) (locs : List Loc), xhd G vwCl w H → xS G s H locs → H.size = sz → (H = s.heap ∧ locs = []) → W p l e R s m args below meth c H locs 0 0 Q (F0 m 0 ls []) from hmain _ _ hH hS hz ⟨rfl, rfl⟩
  clear hH hS hz
  intro H locs hH hS hz hP0
  refine lv_iconst (v := 0) C0.1 C0.2.1 d_Mod_leastTop_0 (by decide) ?_
  refine x_istore_n (lv' := [(2, .inl (0 : Int32)), (0, .inr (.inl (some h0))), (1, .inl x1)]) C0 hl d_Mod_leastTop_1 rfl (by decide) rfl (fun ls hl => ?_)
  refine lv_iconst (v := 0) C0.1 C0.2.1 d_Mod_leastTop_2 (by decide) ?_
  refine x_istore_n (lv' := [(3, .inl (0 : Int32)), (2, .inl (0 : Int32)), (0, .inr (.inl (some h0))), (1, .inl x1)]) C0 hl d_Mod_leastTop_3 rfl (by decide) rfl (fun ls hl => ?_)
  obtain ⟨q_5, e9, h⟩ := Option.bind_eq_some_iff.mp h
  refine w_Mod_leastTop_L4 C0 hE hR1 hR2 hR3 hR4 hH hS hz 100000 _ _ q_5 ls (x_sub hl [2, 3, 1, 0] rfl) e9 (fun ls hl => ?_)
  refine x_iload_n C0 hl 2 d_Mod_leastTop_41 rfl rfl ?_
  cases h
  rw [hQ]
  exact x_iretP C0 hr hlocks hP0 d_Mod_leastTop_42
theorem d_Mod_wideOf_0 : decode b_Mod_wideOf 0 = .ok (.iconst 0, 1) := by decide +kernel
theorem d_Mod_wideOf_1 : decode b_Mod_wideOf 1 = .ok (.istore_n 2, 1) := by decide +kernel
theorem d_Mod_wideOf_2 : decode b_Mod_wideOf 2 = .ok (.iconst 0, 1) := by decide +kernel
theorem d_Mod_wideOf_3 : decode b_Mod_wideOf 3 = .ok (.istore_n 3, 1) := by decide +kernel
theorem d_Mod_wideOf_4 : decode b_Mod_wideOf 4 = .ok (.iload_n 3, 1) := by decide +kernel
theorem d_Mod_wideOf_5 : decode b_Mod_wideOf 5 = .ok (.aload_n 0, 1) := by decide +kernel
theorem d_Mod_wideOf_6 : decode b_Mod_wideOf 6 = .ok (.getfield 35, 3) := by decide +kernel
theorem d_Mod_wideOf_9 : decode b_Mod_wideOf 9 = .ok (.iload_n 1, 1) := by decide +kernel
theorem d_Mod_wideOf_10 : decode b_Mod_wideOf 10 = .ok (.iaload, 1) := by decide +kernel
theorem d_Mod_wideOf_11 : decode b_Mod_wideOf 11 = .ok (.if_icmp .ge 37, 3) := by decide +kernel
theorem d_Mod_wideOf_14 : decode b_Mod_wideOf 14 = .ok (.aload_n 0, 1) := by decide +kernel
theorem d_Mod_wideOf_15 : decode b_Mod_wideOf 15 = .ok (.iload_n 1, 1) := by decide +kernel
theorem d_Mod_wideOf_16 : decode b_Mod_wideOf 16 = .ok (.iload_n 3, 1) := by decide +kernel
theorem d_Mod_wideOf_17 : decode b_Mod_wideOf 17 = .ok (.invokevirtual 122, 3) := by decide +kernel
theorem d_Mod_wideOf_20 : decode b_Mod_wideOf 20 = .ok (.aload_n 0, 1) := by decide +kernel
theorem d_Mod_wideOf_21 : decode b_Mod_wideOf 21 = .ok (.iload_n 1, 1) := by decide +kernel
theorem d_Mod_wideOf_22 : decode b_Mod_wideOf 22 = .ok (.iload_n 3, 1) := by decide +kernel
theorem d_Mod_wideOf_23 : decode b_Mod_wideOf 23 = .ok (.invokevirtual 102, 3) := by decide +kernel
theorem d_Mod_wideOf_26 : decode b_Mod_wideOf 26 = .ok (.iadd, 1) := by decide +kernel
theorem d_Mod_wideOf_27 : decode b_Mod_wideOf 27 = .ok (.istore 4, 2) := by decide +kernel
theorem d_Mod_wideOf_29 : decode b_Mod_wideOf 29 = .ok (.iload 4, 2) := by decide +kernel
theorem d_Mod_wideOf_31 : decode b_Mod_wideOf 31 = .ok (.iload_n 2, 1) := by decide +kernel
theorem d_Mod_wideOf_32 : decode b_Mod_wideOf 32 = .ok (.if_icmp .le 8, 3) := by decide +kernel
theorem d_Mod_wideOf_35 : decode b_Mod_wideOf 35 = .ok (.iload 4, 2) := by decide +kernel
theorem d_Mod_wideOf_37 : decode b_Mod_wideOf 37 = .ok (.goto 4, 3) := by decide +kernel
theorem d_Mod_wideOf_40 : decode b_Mod_wideOf 40 = .ok (.iload_n 2, 1) := by decide +kernel
theorem d_Mod_wideOf_41 : decode b_Mod_wideOf 41 = .ok (.istore_n 2, 1) := by decide +kernel
theorem d_Mod_wideOf_42 : decode b_Mod_wideOf 42 = .ok (.iinc 3 1, 3) := by decide +kernel
theorem d_Mod_wideOf_45 : decode b_Mod_wideOf 45 = .ok (.goto (-41), 3) := by decide +kernel
theorem d_Mod_wideOf_48 : decode b_Mod_wideOf 48 = .ok (.iload_n 2, 1) := by decide +kernel
theorem d_Mod_wideOf_49 : decode b_Mod_wideOf 49 = .ok (.ireturn, 1) := by decide +kernel
def f_Mod_wideOf_L4 (w : Mp) (h0 : Nat) (x1 : Int32) : Nat → Int32 → Int32 → Option (Nat × Int32 × Int32)
  | 0, _, _ => none
  | n + 1, x2, x3 => (gR w (some h0) 5 11).bind fun v_1 => (aI w v_1 0 x1).bind fun v_2 => if v_2 ≤ x3 then (some (0, x2, x3)) else ((xo w (some h0) 5).bind fun b_4 => (f_Mod_across w b_4 x1 x3).bind fun q_3 => (xo w (some h0) 5).bind fun b_6 => (f_Mod_wide w b_6 x1 x3).bind fun q_5 => if (q_3 + q_5) ≤ x2 then (f_Mod_wideOf_L4 w h0 x1 n x2 (x3 + 1)) else (f_Mod_wideOf_L4 w h0 x1 n (q_3 + q_5) (x3 + 1)))
set_option maxHeartbeats 4000000 in
set_option maxRecDepth 100000 in
theorem w_Mod_wideOf_L4 {p : Program} {l : Launch} {e : Env} {R : Room} {s : State} {m : MethodId} {args : Array Value} {below : List Frame} {meth : Method} {c : Code} {Q : State → Prop} {cells slots sz : Nat} {G : Gx} {h0 : Nat} {x1 : Int32} (C0 : CallFix p m c b_Mod_wideOf 5 s args wA R_Mod) (hE : xE G vwCl xaty s) (hR1 : 2 ≤ R.frames) (hR2 : 46 ≤ R.locals) (hR3 : cells ≤ R.cells) (hR4 : slots ≤ R.slots) {w : Mp} {H : Heap} {locs : List Loc} (hH : xhd G vwCl w H) (hS : xS G s H locs) (hz : H.size = sz) : ∀ (n : Nat) (x2 : Int32) (x3 : Int32) (q : Nat × Int32 × Int32) (ls : Array Slot), xL ls 5 [(0, .inr (.inl (some h0))), (1, .inl x1), (2, .inl x2), (3, .inl x3)] → f_Mod_wideOf_L4 w h0 x1 n x2 x3 = some q → (∀ (ls : Array Slot), xL ls 5 [(0, .inr (.inl (some h0))), (1, .inl x1), (2, .inl q.2.1), (3, .inl q.2.2)] → W p l e R s m args below meth c H locs cells slots Q (F0 m 48 ls [])) → W p l e R s m args below meth c H locs cells slots Q (F0 m 4 ls []) := by
  intro n
  induction n with
  | zero => intro _ _ q ls hl h; cases h
  | succ n ih =>
    intro x2 x3 q ls hl h K
    rw [f_Mod_wideOf_L4] at h
    refine x_iload_n C0 hl 3 d_Mod_wideOf_4 rfl rfl ?_
    refine x_aload_n C0 hl 0 d_Mod_wideOf_5 rfl rfl ?_
    refine x_getR C0 hE hH (ci := 5) rfl i_Mod 11 (by decide) kw_4_90 d_Mod_wideOf_6 h (fun v_1 h => ?_)
    refine x_iload_n C0 hl 1 d_Mod_wideOf_9 rfl rfl ?_
    refine x_iald C0 hE hH (t := 0) rfl d_Mod_wideOf_10 h (fun v_2 h => ?_)
    refine x_icmp_ge C0 48 d_Mod_wideOf_11 (by decide) h (fun h => ?_) (fun h => ?_)
    · cases h
      exact K ls (x_sub hl [0, 1, 2, 3] rfl)
    · refine x_aload_n C0 hl 0 d_Mod_wideOf_14 rfl rfl ?_
      refine x_iload_n C0 hl 1 d_Mod_wideOf_15 rfl rfl ?_
      refine x_iload_n C0 hl 3 d_Mod_wideOf_16 rfl rfl ?_
      obtain ⟨b_4, e9, h⟩ := Option.bind_eq_some_iff.mp h
      obtain ⟨e8, fs9, hb9⟩ := xo_inv e9
      obtain ⟨q_3, e9, h⟩ := Option.bind_eq_some_iff.mp h
      refine x_callP (va_runV (As := [.int x1, .int x3]) (rest := []) C0 (c_Mod_across l G w _ b_4 x1 x3 q_3 e9) (x_cwV 2 C0 kw_4_198 kw_4_201 kw_1_3 kw_4_200 kw_0_20 (by decide +kernel) (x_rm hR1 hR2 (Nat.le_of_ble_eq_true rfl) (Nat.le_of_ble_eq_true rfl))) (x_preV hE hH hS (ci := 5) rfl hb9) rfl rfl hl.1 (by rw [e8]; rfl) (lv_room (by first | exact Nat.le_of_ble_eq_true rfl | simp only [List.map_cons, List.map_nil, List.sum_cons, List.sum_nil, va_rf_cat, x_catI, x_catL, x_catA] <;> decide)) d_Mod_wideOf_17 (x_le0 hR3 hR4)) ?_
      refine x_aload_n C0 hl 0 d_Mod_wideOf_20 rfl rfl ?_
      refine x_iload_n C0 hl 1 d_Mod_wideOf_21 rfl rfl ?_
      refine x_iload_n C0 hl 3 d_Mod_wideOf_22 rfl rfl ?_
      obtain ⟨b_6, e9, h⟩ := Option.bind_eq_some_iff.mp h
      obtain ⟨e8, fs9, hb9⟩ := xo_inv e9
      obtain ⟨q_5, e9, h⟩ := Option.bind_eq_some_iff.mp h
      refine x_callP (va_runV (As := [.int x1, .int x3]) (rest := [.int q_3]) C0 (c_Mod_wide l G w _ b_6 x1 x3 q_5 e9) (x_cwV 2 C0 kw_4_202 kw_4_205 kw_1_3 kw_4_204 kw_0_21 (by decide +kernel) (x_rm hR1 hR2 (Nat.le_of_ble_eq_true rfl) (Nat.le_of_ble_eq_true rfl))) (x_preV hE hH hS (ci := 5) rfl hb9) rfl rfl hl.1 (by rw [e8]; rfl) (lv_room (by first | exact Nat.le_of_ble_eq_true rfl | simp only [List.map_cons, List.map_nil, List.sum_cons, List.sum_nil, va_rf_cat, x_catI, x_catL, x_catA] <;> decide)) d_Mod_wideOf_23 (x_le0 hR3 hR4)) ?_
      refine lv_iadd C0.1 C0.2.1 d_Mod_wideOf_26 ?_
      refine x_istore (lv' := [(4, .inl (q_3 + q_5)), (0, .inr (.inl (some h0))), (1, .inl x1), (2, .inl x2), (3, .inl x3)]) C0 hl d_Mod_wideOf_27 (by decide) rfl (fun ls hl => ?_)
      refine x_iload C0 hl 0 d_Mod_wideOf_29 rfl ?_
      refine x_iload_n C0 hl 3 d_Mod_wideOf_31 rfl rfl ?_
      refine x_icmp_le C0 40 d_Mod_wideOf_32 (by decide) h (fun h => ?_) (fun h => ?_)
      · refine x_iload_n C0 hl 3 d_Mod_wideOf_40 rfl rfl ?_
        refine x_istore_n (lv' := [(2, .inl x2), (4, .inl (q_3 + q_5)), (0, .inr (.inl (some h0))), (1, .inl x1), (3, .inl x3)]) C0 hl d_Mod_wideOf_41 rfl (by decide) rfl (fun ls hl => ?_)
        refine x_iinc (v := 1) (lv' := [(3, .inl (x3 + 1)), (2, .inl x2), (4, .inl (q_3 + q_5)), (0, .inr (.inl (some h0))), (1, .inl x1)]) C0 hl 4 d_Mod_wideOf_42 rfl (by decide) (by decide) rfl (fun ls hl => ?_)
        refine x_goto C0 4 d_Mod_wideOf_45 (by decide) ?_
        exact ih _ _ q ls (x_sub hl [3, 4, 1, 0] rfl) h K
      · refine x_iload C0 hl 0 d_Mod_wideOf_35 rfl ?_
        refine x_goto C0 41 d_Mod_wideOf_37 (by decide) ?_
        refine x_istore_n (lv' := [(2, .inl (q_3 + q_5)), (4, .inl (q_3 + q_5)), (0, .inr (.inl (some h0))), (1, .inl x1), (3, .inl x3)]) C0 hl d_Mod_wideOf_41 rfl (by decide) rfl (fun ls hl => ?_)
        refine x_iinc (v := 1) (lv' := [(3, .inl (x3 + 1)), (2, .inl (q_3 + q_5)), (4, .inl (q_3 + q_5)), (0, .inr (.inl (some h0))), (1, .inl x1)]) C0 hl 4 d_Mod_wideOf_42 rfl (by decide) (by decide) rfl (fun ls hl => ?_)
        refine x_goto C0 4 d_Mod_wideOf_45 (by decide) ?_
        exact ih _ _ q ls (x_sub hl [3, 4, 1, 0] rfl) h K
def f_Mod_wideOf (w : Mp) (h0 : Nat) (x1 : Int32) : Option (Int32) := (f_Mod_wideOf_L4 w h0 x1 100000 (0 : Int32) (0 : Int32)).bind fun q_7 => some q_7.2.1
set_option maxHeartbeats 4000000 in
set_option maxRecDepth 100000 in
theorem c_Mod_wideOf (l : Launch) (G : Gx) (w : Mp) (sz : Nat) (h0 : Nat) (x1 : Int32) (res : Int32) (hf : f_Mod_wideOf w h0 x1 = some res) : Met l y_Mod_wideOf (xws y_Mod_wideOf b_Mod_wideOf 5 (some .int)) { frames := 2, cells := 0, slots := 0, locals := 46 } (xPc G vwCl xaty w sz [va_rf (some h0), .int x1]) (qP (some (.int res))) (0) (0) (fun _ => False) := by
  refine Met.ofW (cc := b_Mod_wideOf) (maxL := 5) (ret := (some .int)) (by decide) rfl ?_
  intro p e s m args below meth c s₁ B hml hv
  obtain ⟨ha, hE, hH, hz⟩ := hv
  have C0 : CallFix p m c b_Mod_wideOf 5 s args wA R_Mod := ⟨B.exec, B.bytes, hml, findClass_of_methodNamed B.named, fun w hw => atoms_spec (ws := xws y_Mod_wideOf b_Mod_wideOf 5 (some .int)) B.pre w (List.mem_cons_of_mem _ hw)⟩
  have hr := B.returns
  have hlocks := B.notSynchronized
  obtain ⟨R, hR⟩ : ∃ R, R = (headSpec (xws y_Mod_wideOf b_Mod_wideOf 5 (some .int)) { frames := 2, cells := 0, slots := 0, locals := 46 }).room := ⟨_, rfl⟩
  have hR1 : 2 ≤ R.frames := by rw [hR]; exact Nat.le_of_ble_eq_true rfl
  have hR2 : 46 ≤ R.locals := by rw [hR]; exact Nat.le_of_ble_eq_true rfl
  have hR3 : 0 ≤ R.cells := by rw [hR]; exact Nat.le_refl _
  have hR4 : 0 ≤ R.slots := by rw [hR]; exact Nat.le_refl _
  rw [← hR]
  obtain ⟨Q, hQ⟩ : ∃ Q, Q = MQ below (qP (some (.int res))) args s (0) (0) (fun _ => False) := ⟨_, rfl⟩
  rw [← hQ]
  have hS : xS G s s.heap [] := va_S.rf
  obtain ⟨ls, he, hl⟩ := x_entry m [.inr (.inl (some h0)), .inl x1] 5 (Nat.le_of_ble_eq_true rfl)
  rw [show entryFrame m args 5 = F0 m 0 ls [] by rw [ha]; exact he]
  have hl : xL ls 5 [(0, .inr (.inl (some h0))), (1, .inl x1)] := hl
  have h := hf
  unfold f_Mod_wideOf at h
  suffices hmain : ∀ (H : Heap) (locs : List Loc), xhd G vwCl w H → xS G s H locs → H.size = sz → (H = s.heap ∧ locs = []) → W p l e R s m args below meth c H locs 0 0 Q (F0 m 0 ls []) from hmain _ _ hH hS hz ⟨rfl, rfl⟩
  clear hH hS hz
  intro H locs hH hS hz hP0
  refine lv_iconst (v := 0) C0.1 C0.2.1 d_Mod_wideOf_0 (by decide) ?_
  refine x_istore_n (lv' := [(2, .inl (0 : Int32)), (0, .inr (.inl (some h0))), (1, .inl x1)]) C0 hl d_Mod_wideOf_1 rfl (by decide) rfl (fun ls hl => ?_)
  refine lv_iconst (v := 0) C0.1 C0.2.1 d_Mod_wideOf_2 (by decide) ?_
  refine x_istore_n (lv' := [(3, .inl (0 : Int32)), (2, .inl (0 : Int32)), (0, .inr (.inl (some h0))), (1, .inl x1)]) C0 hl d_Mod_wideOf_3 rfl (by decide) rfl (fun ls hl => ?_)
  obtain ⟨q_7, e9, h⟩ := Option.bind_eq_some_iff.mp h
  refine w_Mod_wideOf_L4 C0 hE hR1 hR2 hR3 hR4 hH hS hz 100000 _ _ q_7 ls (x_sub hl [2, 3, 1, 0] rfl) e9 (fun ls hl => ?_)
  refine x_iload_n C0 hl 2 d_Mod_wideOf_48 rfl rfl ?_
  cases h
  rw [hQ]
  exact x_iretP C0 hr hlocks hP0 d_Mod_wideOf_49
theorem d_Mod_manyFrom_0 : decode b_Mod_manyFrom 0 = .ok (.iconst 0, 1) := by decide +kernel
theorem d_Mod_manyFrom_1 : decode b_Mod_manyFrom 1 = .ok (.istore_n 3, 1) := by decide +kernel
theorem d_Mod_manyFrom_2 : decode b_Mod_manyFrom 2 = .ok (.iconst 0, 1) := by decide +kernel
theorem d_Mod_manyFrom_3 : decode b_Mod_manyFrom 3 = .ok (.istore 4, 2) := by decide +kernel
theorem d_Mod_manyFrom_5 : decode b_Mod_manyFrom 5 = .ok (.iload_n 3, 1) := by decide +kernel
theorem d_Mod_manyFrom_6 : decode b_Mod_manyFrom 6 = .ok (.iload_n 2, 1) := by decide +kernel
theorem d_Mod_manyFrom_7 : decode b_Mod_manyFrom 7 = .ok (.if_icmp .ge 91, 3) := by decide +kernel
theorem d_Mod_manyFrom_10 : decode b_Mod_manyFrom 10 = .ok (.iload_n 1, 1) := by decide +kernel
theorem d_Mod_manyFrom_11 : decode b_Mod_manyFrom 11 = .ok (.iload 4, 2) := by decide +kernel
theorem d_Mod_manyFrom_13 : decode b_Mod_manyFrom 13 = .ok (.iadd, 1) := by decide +kernel
theorem d_Mod_manyFrom_14 : decode b_Mod_manyFrom 14 = .ok (.aload_n 0, 1) := by decide +kernel
theorem d_Mod_manyFrom_15 : decode b_Mod_manyFrom 15 = .ok (.getfield 74, 3) := by decide +kernel
theorem d_Mod_manyFrom_18 : decode b_Mod_manyFrom 18 = .ok (.if_icmp .ge 47, 3) := by decide +kernel
theorem d_Mod_manyFrom_21 : decode b_Mod_manyFrom 21 = .ok (.iload 4, 2) := by decide +kernel
theorem d_Mod_manyFrom_23 : decode b_Mod_manyFrom 23 = .ok (.ifCond .eq 38, 3) := by decide +kernel
theorem d_Mod_manyFrom_26 : decode b_Mod_manyFrom 26 = .ok (.aload_n 0, 1) := by decide +kernel
theorem d_Mod_manyFrom_27 : decode b_Mod_manyFrom 27 = .ok (.getfield 13, 3) := by decide +kernel
theorem d_Mod_manyFrom_30 : decode b_Mod_manyFrom 30 = .ok (.aload_n 0, 1) := by decide +kernel
theorem d_Mod_manyFrom_31 : decode b_Mod_manyFrom 31 = .ok (.getfield 50, 3) := by decide +kernel
theorem d_Mod_manyFrom_34 : decode b_Mod_manyFrom 34 = .ok (.iload_n 1, 1) := by decide +kernel
theorem d_Mod_manyFrom_35 : decode b_Mod_manyFrom 35 = .ok (.iload 4, 2) := by decide +kernel
theorem d_Mod_manyFrom_37 : decode b_Mod_manyFrom 37 = .ok (.iadd, 1) := by decide +kernel
theorem d_Mod_manyFrom_38 : decode b_Mod_manyFrom 38 = .ok (.iaload, 1) := by decide +kernel
theorem d_Mod_manyFrom_39 : decode b_Mod_manyFrom 39 = .ok (.iaload, 1) := by decide +kernel
theorem d_Mod_manyFrom_40 : decode b_Mod_manyFrom 40 = .ok (.aload_n 0, 1) := by decide +kernel
theorem d_Mod_manyFrom_41 : decode b_Mod_manyFrom 41 = .ok (.getfield 13, 3) := by decide +kernel
theorem d_Mod_manyFrom_44 : decode b_Mod_manyFrom 44 = .ok (.aload_n 0, 1) := by decide +kernel
theorem d_Mod_manyFrom_45 : decode b_Mod_manyFrom 45 = .ok (.getfield 50, 3) := by decide +kernel
theorem d_Mod_manyFrom_48 : decode b_Mod_manyFrom 48 = .ok (.iload_n 1, 1) := by decide +kernel
theorem d_Mod_manyFrom_49 : decode b_Mod_manyFrom 49 = .ok (.iload 4, 2) := by decide +kernel
theorem d_Mod_manyFrom_51 : decode b_Mod_manyFrom 51 = .ok (.iadd, 1) := by decide +kernel
theorem d_Mod_manyFrom_52 : decode b_Mod_manyFrom 52 = .ok (.iconst 1, 1) := by decide +kernel
theorem d_Mod_manyFrom_53 : decode b_Mod_manyFrom 53 = .ok (.isub, 1) := by decide +kernel
theorem d_Mod_manyFrom_54 : decode b_Mod_manyFrom 54 = .ok (.iaload, 1) := by decide +kernel
theorem d_Mod_manyFrom_55 : decode b_Mod_manyFrom 55 = .ok (.iaload, 1) := by decide +kernel
theorem d_Mod_manyFrom_56 : decode b_Mod_manyFrom 56 = .ok (.iconst 1, 1) := by decide +kernel
theorem d_Mod_manyFrom_57 : decode b_Mod_manyFrom 57 = .ok (.iadd, 1) := by decide +kernel
theorem d_Mod_manyFrom_58 : decode b_Mod_manyFrom 58 = .ok (.if_icmp .ne 7, 3) := by decide +kernel
theorem d_Mod_manyFrom_61 : decode b_Mod_manyFrom 61 = .ok (.iconst 1, 1) := by decide +kernel
theorem d_Mod_manyFrom_62 : decode b_Mod_manyFrom 62 = .ok (.goto 4, 3) := by decide +kernel
theorem d_Mod_manyFrom_65 : decode b_Mod_manyFrom 65 = .ok (.iconst 0, 1) := by decide +kernel
theorem d_Mod_manyFrom_66 : decode b_Mod_manyFrom 66 = .ok (.istore 5, 2) := by decide +kernel
theorem d_Mod_manyFrom_68 : decode b_Mod_manyFrom 68 = .ok (.iload 5, 2) := by decide +kernel
theorem d_Mod_manyFrom_70 : decode b_Mod_manyFrom 70 = .ok (.ifCond .ne 5, 3) := by decide +kernel
theorem d_Mod_manyFrom_73 : decode b_Mod_manyFrom 73 = .ok (.iconst 0, 1) := by decide +kernel
theorem d_Mod_manyFrom_74 : decode b_Mod_manyFrom 74 = .ok (.ireturn, 1) := by decide +kernel
theorem d_Mod_manyFrom_75 : decode b_Mod_manyFrom 75 = .ok (.iload_n 3, 1) := by decide +kernel
theorem d_Mod_manyFrom_76 : decode b_Mod_manyFrom 76 = .ok (.aload_n 0, 1) := by decide +kernel
theorem d_Mod_manyFrom_77 : decode b_Mod_manyFrom 77 = .ok (.getfield 16, 3) := by decide +kernel
theorem d_Mod_manyFrom_80 : decode b_Mod_manyFrom 80 = .ok (.aload_n 0, 1) := by decide +kernel
theorem d_Mod_manyFrom_81 : decode b_Mod_manyFrom 81 = .ok (.getfield 50, 3) := by decide +kernel
theorem d_Mod_manyFrom_84 : decode b_Mod_manyFrom 84 = .ok (.iload_n 1, 1) := by decide +kernel
theorem d_Mod_manyFrom_85 : decode b_Mod_manyFrom 85 = .ok (.iload 4, 2) := by decide +kernel
theorem d_Mod_manyFrom_87 : decode b_Mod_manyFrom 87 = .ok (.iadd, 1) := by decide +kernel
theorem d_Mod_manyFrom_88 : decode b_Mod_manyFrom 88 = .ok (.iaload, 1) := by decide +kernel
theorem d_Mod_manyFrom_89 : decode b_Mod_manyFrom 89 = .ok (.iaload, 1) := by decide +kernel
theorem d_Mod_manyFrom_90 : decode b_Mod_manyFrom 90 = .ok (.iadd, 1) := by decide +kernel
theorem d_Mod_manyFrom_91 : decode b_Mod_manyFrom 91 = .ok (.istore_n 3, 1) := by decide +kernel
theorem d_Mod_manyFrom_92 : decode b_Mod_manyFrom 92 = .ok (.iinc 4 1, 3) := by decide +kernel
theorem d_Mod_manyFrom_95 : decode b_Mod_manyFrom 95 = .ok (.goto (-90), 3) := by decide +kernel
theorem d_Mod_manyFrom_98 : decode b_Mod_manyFrom 98 = .ok (.iload 4, 2) := by decide +kernel
theorem d_Mod_manyFrom_100 : decode b_Mod_manyFrom 100 = .ok (.ireturn, 1) := by decide +kernel
def f_Mod_manyFrom_L5 (w : Mp) (h0 : Nat) (x1 : Int32) (x2 : Int32) : Nat → Int32 → Int32 → Option (Nat × Int32 × Int32)
  | 0, _, _ => none
  | n + 1, x3, x4 => if x2 ≤ x3 then (some (0, x3, x4)) else ((gI w (some h0) 5 18).bind fun v_1 => xJ1 (fun (x_2 : Int32) => if x_2 = 0 then (some (1, x3, x4)) else ((gR w (some h0) 5 4).bind fun v_4 => (gR w (some h0) 5 19).bind fun v_5 => (aI w v_5 0 (x1 + x4)).bind fun v_6 => (aI w v_4 0 v_6).bind fun v_7 => f_Mod_manyFrom_L5 w h0 x1 x2 n (x3 + v_7) (x4 + 1))) fun J_3 => if v_1 ≤ (x1 + x4) then (J_3 (0 : Int32)) else (if x4 = 0 then (J_3 (1 : Int32)) else ((gR w (some h0) 5 3).bind fun v_8 => (gR w (some h0) 5 19).bind fun v_9 => (aI w v_9 0 (x1 + x4)).bind fun v_10 => (aI w v_8 0 v_10).bind fun v_11 => (gR w (some h0) 5 3).bind fun v_12 => (gR w (some h0) 5 19).bind fun v_13 => (aI w v_13 0 ((x1 + x4) - (1 : Int32))).bind fun v_14 => (aI w v_12 0 v_14).bind fun v_15 => if v_11 = (v_15 + (1 : Int32)) then (J_3 (1 : Int32)) else (J_3 (0 : Int32)))))
set_option maxHeartbeats 4000000 in
set_option maxRecDepth 100000 in
theorem w_Mod_manyFrom_L5 {p : Program} {l : Launch} {e : Env} {R : Room} {s : State} {m : MethodId} {args : Array Value} {below : List Frame} {meth : Method} {c : Code} {Q : State → Prop} {cells slots sz : Nat} {G : Gx} {h0 : Nat} {x1 : Int32} {x2 : Int32} (C0 : CallFix p m c b_Mod_manyFrom 6 s args wA R_Mod) (hE : xE G vwCl xaty s) (hR1 : 0 ≤ R.frames) (hR2 : 0 ≤ R.locals) (hR3 : cells ≤ R.cells) (hR4 : slots ≤ R.slots) {w : Mp} {H : Heap} {locs : List Loc} (hH : xhd G vwCl w H) (hS : xS G s H locs) (hz : H.size = sz) : ∀ (n : Nat) (x3 : Int32) (x4 : Int32) (q : Nat × Int32 × Int32) (ls : Array Slot), xL ls 6 [(0, .inr (.inl (some h0))), (1, .inl x1), (2, .inl x2), (3, .inl x3), (4, .inl x4)] → f_Mod_manyFrom_L5 w h0 x1 x2 n x3 x4 = some q → ((q.1 = 0 → ∀ (ls : Array Slot), xL ls 6 [(0, .inr (.inl (some h0))), (1, .inl x1), (2, .inl x2), (3, .inl q.2.1), (4, .inl q.2.2)] → W p l e R s m args below meth c H locs cells slots Q (F0 m 98 ls [])) ∧ (q.1 = 1 → ∀ (ls : Array Slot), xL ls 6 [(0, .inr (.inl (some h0))), (1, .inl x1), (2, .inl x2), (3, .inl q.2.1), (4, .inl q.2.2)] → W p l e R s m args below meth c H locs cells slots Q (F0 m 73 ls []))) → W p l e R s m args below meth c H locs cells slots Q (F0 m 5 ls []) := by
  intro n
  induction n with
  | zero => intro _ _ q ls hl h; cases h
  | succ n ih =>
    intro x3 x4 q ls hl h K
    rw [f_Mod_manyFrom_L5] at h
    refine x_iload_n C0 hl 3 d_Mod_manyFrom_5 rfl rfl ?_
    refine x_iload_n C0 hl 2 d_Mod_manyFrom_6 rfl rfl ?_
    refine x_icmp_ge C0 98 d_Mod_manyFrom_7 (by decide) h (fun h => ?_) (fun h => ?_)
    · cases h
      exact K.1 rfl ls (x_sub hl [0, 1, 2, 3, 4] rfl)
    · refine x_iload_n C0 hl 1 d_Mod_manyFrom_10 rfl rfl ?_
      refine x_iload C0 hl 4 d_Mod_manyFrom_11 rfl ?_
      refine lv_iadd C0.1 C0.2.1 d_Mod_manyFrom_13 ?_
      refine x_aload_n C0 hl 0 d_Mod_manyFrom_14 rfl rfl ?_
      refine x_getI C0 hE hH (ci := 5) rfl i_Mod 18 (by decide) kw_4_97 d_Mod_manyFrom_15 h (fun v_1 h => ?_)
      refine xj1 h (fun J_3 eJ_3 h => ?_)
      have kJ_3 : ∀ (x_2 : Int32) (ls : Array Slot), xL ls 6 [(0, .inr (.inl (some h0))), (1, .inl x1), (2, .inl x2), (3, .inl x3), (4, .inl x4)] → J_3 x_2 = some q → W p l e R s m args below meth c H locs cells slots Q (F0 m 66 ls [.int x_2]) := by
        intro x_2 ls hl h
        rw [eJ_3] at h
        refine x_istore (lv' := [(5, .inl x_2), (0, .inr (.inl (some h0))), (1, .inl x1), (2, .inl x2), (3, .inl x3), (4, .inl x4)]) C0 hl d_Mod_manyFrom_66 (by decide) rfl (fun ls hl => ?_)
        refine x_iload C0 hl 0 d_Mod_manyFrom_68 rfl ?_
        refine x_if_ne C0 75 d_Mod_manyFrom_70 (by decide) h (fun h => ?_) (fun h => ?_)
        · refine x_iload_n C0 hl 4 d_Mod_manyFrom_75 rfl rfl ?_
          refine x_aload_n C0 hl 1 d_Mod_manyFrom_76 rfl rfl ?_
          refine x_getR C0 hE hH (ci := 5) rfl i_Mod 4 (by decide) kw_4_83 d_Mod_manyFrom_77 h (fun v_4 h => ?_)
          refine x_aload_n C0 hl 1 d_Mod_manyFrom_80 rfl rfl ?_
          refine x_getR C0 hE hH (ci := 5) rfl i_Mod 19 (by decide) kw_4_98 d_Mod_manyFrom_81 h (fun v_5 h => ?_)
          refine x_iload_n C0 hl 2 d_Mod_manyFrom_84 rfl rfl ?_
          refine x_iload C0 hl 5 d_Mod_manyFrom_85 rfl ?_
          refine lv_iadd C0.1 C0.2.1 d_Mod_manyFrom_87 ?_
          refine x_iald C0 hE hH (t := 0) rfl d_Mod_manyFrom_88 h (fun v_6 h => ?_)
          refine x_iald C0 hE hH (t := 0) rfl d_Mod_manyFrom_89 h (fun v_7 h => ?_)
          refine lv_iadd C0.1 C0.2.1 d_Mod_manyFrom_90 ?_
          refine x_istore_n (lv' := [(3, .inl (x3 + v_7)), (5, .inl x_2), (0, .inr (.inl (some h0))), (1, .inl x1), (2, .inl x2), (4, .inl x4)]) C0 hl d_Mod_manyFrom_91 rfl (by decide) rfl (fun ls hl => ?_)
          refine x_iinc (v := 1) (lv' := [(4, .inl (x4 + 1)), (3, .inl (x3 + v_7)), (5, .inl x_2), (0, .inr (.inl (some h0))), (1, .inl x1), (2, .inl x2)]) C0 hl 5 d_Mod_manyFrom_92 rfl (by decide) (by decide) rfl (fun ls hl => ?_)
          refine x_goto C0 5 d_Mod_manyFrom_95 (by decide) ?_
          exact ih _ _ q ls (x_sub hl [3, 4, 5, 1, 0] rfl) h K
        · cases h
          exact K.2 rfl ls (x_sub hl [1, 2, 3, 4, 5] rfl)
      refine x_icmp_ge C0 65 d_Mod_manyFrom_18 (by decide) h (fun h => ?_) (fun h => ?_)
      · refine lv_iconst (v := 0) C0.1 C0.2.1 d_Mod_manyFrom_65 (by decide) ?_
        exact kJ_3 _ ls (x_sub hl [0, 1, 2, 3, 4] rfl) h
      · refine x_iload C0 hl 4 d_Mod_manyFrom_21 rfl ?_
        refine x_if_eq C0 61 d_Mod_manyFrom_23 (by decide) h (fun h => ?_) (fun h => ?_)
        · refine lv_iconst (v := 1) C0.1 C0.2.1 d_Mod_manyFrom_61 (by decide) ?_
          refine x_goto C0 66 d_Mod_manyFrom_62 (by decide) ?_
          exact kJ_3 _ ls (x_sub hl [0, 1, 2, 3, 4] rfl) h
        · refine x_aload_n C0 hl 0 d_Mod_manyFrom_26 rfl rfl ?_
          refine x_getR C0 hE hH (ci := 5) rfl i_Mod 3 (by decide) kw_4_82 d_Mod_manyFrom_27 h (fun v_8 h => ?_)
          refine x_aload_n C0 hl 0 d_Mod_manyFrom_30 rfl rfl ?_
          refine x_getR C0 hE hH (ci := 5) rfl i_Mod 19 (by decide) kw_4_98 d_Mod_manyFrom_31 h (fun v_9 h => ?_)
          refine x_iload_n C0 hl 1 d_Mod_manyFrom_34 rfl rfl ?_
          refine x_iload C0 hl 4 d_Mod_manyFrom_35 rfl ?_
          refine lv_iadd C0.1 C0.2.1 d_Mod_manyFrom_37 ?_
          refine x_iald C0 hE hH (t := 0) rfl d_Mod_manyFrom_38 h (fun v_10 h => ?_)
          refine x_iald C0 hE hH (t := 0) rfl d_Mod_manyFrom_39 h (fun v_11 h => ?_)
          refine x_aload_n C0 hl 0 d_Mod_manyFrom_40 rfl rfl ?_
          refine x_getR C0 hE hH (ci := 5) rfl i_Mod 3 (by decide) kw_4_82 d_Mod_manyFrom_41 h (fun v_12 h => ?_)
          refine x_aload_n C0 hl 0 d_Mod_manyFrom_44 rfl rfl ?_
          refine x_getR C0 hE hH (ci := 5) rfl i_Mod 19 (by decide) kw_4_98 d_Mod_manyFrom_45 h (fun v_13 h => ?_)
          refine x_iload_n C0 hl 1 d_Mod_manyFrom_48 rfl rfl ?_
          refine x_iload C0 hl 4 d_Mod_manyFrom_49 rfl ?_
          refine lv_iadd C0.1 C0.2.1 d_Mod_manyFrom_51 ?_
          refine lv_iconst (v := 1) C0.1 C0.2.1 d_Mod_manyFrom_52 (by decide) ?_
          refine lv_isub C0.1 C0.2.1 d_Mod_manyFrom_53 ?_
          refine x_iald C0 hE hH (t := 0) rfl d_Mod_manyFrom_54 h (fun v_14 h => ?_)
          refine x_iald C0 hE hH (t := 0) rfl d_Mod_manyFrom_55 h (fun v_15 h => ?_)
          refine lv_iconst (v := 1) C0.1 C0.2.1 d_Mod_manyFrom_56 (by decide) ?_
          refine lv_iadd C0.1 C0.2.1 d_Mod_manyFrom_57 ?_
          refine x_icmp_ne C0 65 d_Mod_manyFrom_58 (by decide) h (fun h => ?_) (fun h => ?_)
          · refine lv_iconst (v := 0) C0.1 C0.2.1 d_Mod_manyFrom_65 (by decide) ?_
            exact kJ_3 _ ls (x_sub hl [0, 1, 2, 3, 4] rfl) h
          · refine lv_iconst (v := 1) C0.1 C0.2.1 d_Mod_manyFrom_61 (by decide) ?_
            refine x_goto C0 66 d_Mod_manyFrom_62 (by decide) ?_
            exact kJ_3 _ ls (x_sub hl [0, 1, 2, 3, 4] rfl) h
def f_Mod_manyFrom (w : Mp) (h0 : Nat) (x1 : Int32) (x2 : Int32) : Option (Int32) := (f_Mod_manyFrom_L5 w h0 x1 x2 100000 (0 : Int32) (0 : Int32)).bind fun q_16 => if q_16.1 = 0 then (some q_16.2.2) else (if q_16.1 = 1 then (some (0 : Int32)) else (none))
set_option maxHeartbeats 4000000 in
set_option maxRecDepth 100000 in
theorem c_Mod_manyFrom (l : Launch) (G : Gx) (w : Mp) (sz : Nat) (h0 : Nat) (x1 : Int32) (x2 : Int32) (res : Int32) (hf : f_Mod_manyFrom w h0 x1 x2 = some res) : Met l y_Mod_manyFrom (xws y_Mod_manyFrom b_Mod_manyFrom 6 (some .int)) { frames := 0, cells := 0, slots := 0, locals := 0 } (xPc G vwCl xaty w sz [va_rf (some h0), .int x1, .int x2]) (qP (some (.int res))) (0) (0) (fun _ => False) := by
  refine Met.ofW (cc := b_Mod_manyFrom) (maxL := 6) (ret := (some .int)) (by decide) rfl ?_
  intro p e s m args below meth c s₁ B hml hv
  obtain ⟨ha, hE, hH, hz⟩ := hv
  have C0 : CallFix p m c b_Mod_manyFrom 6 s args wA R_Mod := ⟨B.exec, B.bytes, hml, findClass_of_methodNamed B.named, fun w hw => atoms_spec (ws := xws y_Mod_manyFrom b_Mod_manyFrom 6 (some .int)) B.pre w (List.mem_cons_of_mem _ hw)⟩
  have hr := B.returns
  have hlocks := B.notSynchronized
  obtain ⟨R, hR⟩ : ∃ R, R = (headSpec (xws y_Mod_manyFrom b_Mod_manyFrom 6 (some .int)) { frames := 0, cells := 0, slots := 0, locals := 0 }).room := ⟨_, rfl⟩
  have hR1 : 0 ≤ R.frames := by rw [hR]; exact Nat.le_of_ble_eq_true rfl
  have hR2 : 0 ≤ R.locals := by rw [hR]; exact Nat.le_of_ble_eq_true rfl
  have hR3 : 0 ≤ R.cells := by rw [hR]; exact Nat.le_refl _
  have hR4 : 0 ≤ R.slots := by rw [hR]; exact Nat.le_refl _
  rw [← hR]
  obtain ⟨Q, hQ⟩ : ∃ Q, Q = MQ below (qP (some (.int res))) args s (0) (0) (fun _ => False) := ⟨_, rfl⟩
  rw [← hQ]
  have hS : xS G s s.heap [] := va_S.rf
  obtain ⟨ls, he, hl⟩ := x_entry m [.inr (.inl (some h0)), .inl x1, .inl x2] 6 (Nat.le_of_ble_eq_true rfl)
  rw [show entryFrame m args 6 = F0 m 0 ls [] by rw [ha]; exact he]
  have hl : xL ls 6 [(0, .inr (.inl (some h0))), (1, .inl x1), (2, .inl x2)] := hl
  have h := hf
  unfold f_Mod_manyFrom at h
  suffices hmain : ∀ (H : Heap) (locs : List Loc), xhd G vwCl w H → xS G s H locs → H.size = sz → (H = s.heap ∧ locs = []) → W p l e R s m args below meth c H locs 0 0 Q (F0 m 0 ls []) from hmain _ _ hH hS hz ⟨rfl, rfl⟩
  clear hH hS hz
  intro H locs hH hS hz hP0
  refine lv_iconst (v := 0) C0.1 C0.2.1 d_Mod_manyFrom_0 (by decide) ?_
  refine x_istore_n (lv' := [(3, .inl (0 : Int32)), (0, .inr (.inl (some h0))), (1, .inl x1), (2, .inl x2)]) C0 hl d_Mod_manyFrom_1 rfl (by decide) rfl (fun ls hl => ?_)
  refine lv_iconst (v := 0) C0.1 C0.2.1 d_Mod_manyFrom_2 (by decide) ?_
  refine x_istore (lv' := [(4, .inl (0 : Int32)), (3, .inl (0 : Int32)), (0, .inr (.inl (some h0))), (1, .inl x1), (2, .inl x2)]) C0 hl d_Mod_manyFrom_3 (by decide) rfl (fun ls hl => ?_)
  obtain ⟨q_16, e9, h⟩ := Option.bind_eq_some_iff.mp h
  refine w_Mod_manyFrom_L5 C0 hE hR1 hR2 hR3 hR4 hH hS hz 100000 _ _ q_16 ls (x_sub hl [2, 3, 4, 1, 0] rfl) e9 ⟨fun z9 ls hl => ?_, fun z9 ls hl => ?_⟩
  · rw [if_pos z9] at h
    refine x_iload C0 hl 4 d_Mod_manyFrom_98 rfl ?_
    cases h
    rw [hQ]
    exact x_iretP C0 hr hlocks hP0 d_Mod_manyFrom_100
  · rw [if_neg (by rw [z9]; decide), if_pos z9] at h
    refine lv_iconst (v := 0) C0.1 C0.2.1 d_Mod_manyFrom_73 (by decide) ?_
    cases h
    rw [hQ]
    exact x_iretP C0 hr hlocks hP0 d_Mod_manyFrom_74
theorem d_Mod_lossFrom_0 : decode b_Mod_lossFrom 0 = .ok (.iload_n 3, 1) := by decide +kernel
theorem d_Mod_lossFrom_1 : decode b_Mod_lossFrom 1 = .ok (.ineg, 1) := by decide +kernel
theorem d_Mod_lossFrom_2 : decode b_Mod_lossFrom 2 = .ok (.istore 4, 2) := by decide +kernel
theorem d_Mod_lossFrom_4 : decode b_Mod_lossFrom 4 = .ok (.iconst 0, 1) := by decide +kernel
theorem d_Mod_lossFrom_5 : decode b_Mod_lossFrom 5 = .ok (.istore 5, 2) := by decide +kernel
theorem d_Mod_lossFrom_7 : decode b_Mod_lossFrom 7 = .ok (.iload 5, 2) := by decide +kernel
theorem d_Mod_lossFrom_9 : decode b_Mod_lossFrom 9 = .ok (.iload_n 2, 1) := by decide +kernel
theorem d_Mod_lossFrom_10 : decode b_Mod_lossFrom 10 = .ok (.if_icmp .ge 28, 3) := by decide +kernel
theorem d_Mod_lossFrom_13 : decode b_Mod_lossFrom 13 = .ok (.iload 4, 2) := by decide +kernel
theorem d_Mod_lossFrom_15 : decode b_Mod_lossFrom 15 = .ok (.aload_n 0, 1) := by decide +kernel
theorem d_Mod_lossFrom_16 : decode b_Mod_lossFrom 16 = .ok (.getfield 16, 3) := by decide +kernel
theorem d_Mod_lossFrom_19 : decode b_Mod_lossFrom 19 = .ok (.aload_n 0, 1) := by decide +kernel
theorem d_Mod_lossFrom_20 : decode b_Mod_lossFrom 20 = .ok (.getfield 50, 3) := by decide +kernel
theorem d_Mod_lossFrom_23 : decode b_Mod_lossFrom 23 = .ok (.iload_n 1, 1) := by decide +kernel
theorem d_Mod_lossFrom_24 : decode b_Mod_lossFrom 24 = .ok (.iload 5, 2) := by decide +kernel
theorem d_Mod_lossFrom_26 : decode b_Mod_lossFrom 26 = .ok (.iadd, 1) := by decide +kernel
theorem d_Mod_lossFrom_27 : decode b_Mod_lossFrom 27 = .ok (.iaload, 1) := by decide +kernel
theorem d_Mod_lossFrom_28 : decode b_Mod_lossFrom 28 = .ok (.iaload, 1) := by decide +kernel
theorem d_Mod_lossFrom_29 : decode b_Mod_lossFrom 29 = .ok (.iadd, 1) := by decide +kernel
theorem d_Mod_lossFrom_30 : decode b_Mod_lossFrom 30 = .ok (.istore 4, 2) := by decide +kernel
theorem d_Mod_lossFrom_32 : decode b_Mod_lossFrom 32 = .ok (.iinc 5 1, 3) := by decide +kernel
theorem d_Mod_lossFrom_35 : decode b_Mod_lossFrom 35 = .ok (.goto (-28), 3) := by decide +kernel
theorem d_Mod_lossFrom_38 : decode b_Mod_lossFrom 38 = .ok (.iload 4, 2) := by decide +kernel
theorem d_Mod_lossFrom_40 : decode b_Mod_lossFrom 40 = .ok (.ireturn, 1) := by decide +kernel
def f_Mod_lossFrom_L7 (w : Mp) (h0 : Nat) (x1 : Int32) (x2 : Int32) : Nat → Int32 → Int32 → Option (Nat × Int32 × Int32)
  | 0, _, _ => none
  | n + 1, x4, x5 => if x2 ≤ x5 then (some (0, x4, x5)) else ((gR w (some h0) 5 4).bind fun v_1 => (gR w (some h0) 5 19).bind fun v_2 => (aI w v_2 0 (x1 + x5)).bind fun v_3 => (aI w v_1 0 v_3).bind fun v_4 => f_Mod_lossFrom_L7 w h0 x1 x2 n (x4 + v_4) (x5 + 1))
set_option maxHeartbeats 4000000 in
set_option maxRecDepth 100000 in
theorem w_Mod_lossFrom_L7 {p : Program} {l : Launch} {e : Env} {R : Room} {s : State} {m : MethodId} {args : Array Value} {below : List Frame} {meth : Method} {c : Code} {Q : State → Prop} {cells slots sz : Nat} {G : Gx} {h0 : Nat} {x1 : Int32} {x2 : Int32} (C0 : CallFix p m c b_Mod_lossFrom 6 s args wA R_Mod) (hE : xE G vwCl xaty s) (hR1 : 0 ≤ R.frames) (hR2 : 0 ≤ R.locals) (hR3 : cells ≤ R.cells) (hR4 : slots ≤ R.slots) {w : Mp} {H : Heap} {locs : List Loc} (hH : xhd G vwCl w H) (hS : xS G s H locs) (hz : H.size = sz) : ∀ (n : Nat) (x4 : Int32) (x5 : Int32) (q : Nat × Int32 × Int32) (ls : Array Slot), xL ls 6 [(0, .inr (.inl (some h0))), (1, .inl x1), (2, .inl x2), (4, .inl x4), (5, .inl x5)] → f_Mod_lossFrom_L7 w h0 x1 x2 n x4 x5 = some q → (∀ (ls : Array Slot), xL ls 6 [(0, .inr (.inl (some h0))), (1, .inl x1), (2, .inl x2), (4, .inl q.2.1), (5, .inl q.2.2)] → W p l e R s m args below meth c H locs cells slots Q (F0 m 38 ls [])) → W p l e R s m args below meth c H locs cells slots Q (F0 m 7 ls []) := by
  intro n
  induction n with
  | zero => intro _ _ q ls hl h; cases h
  | succ n ih =>
    intro x4 x5 q ls hl h K
    rw [f_Mod_lossFrom_L7] at h
    refine x_iload C0 hl 4 d_Mod_lossFrom_7 rfl ?_
    refine x_iload_n C0 hl 2 d_Mod_lossFrom_9 rfl rfl ?_
    refine x_icmp_ge C0 38 d_Mod_lossFrom_10 (by decide) h (fun h => ?_) (fun h => ?_)
    · cases h
      exact K ls (x_sub hl [0, 1, 2, 3, 4] rfl)
    · refine x_iload C0 hl 3 d_Mod_lossFrom_13 rfl ?_
      refine x_aload_n C0 hl 0 d_Mod_lossFrom_15 rfl rfl ?_
      refine x_getR C0 hE hH (ci := 5) rfl i_Mod 4 (by decide) kw_4_83 d_Mod_lossFrom_16 h (fun v_1 h => ?_)
      refine x_aload_n C0 hl 0 d_Mod_lossFrom_19 rfl rfl ?_
      refine x_getR C0 hE hH (ci := 5) rfl i_Mod 19 (by decide) kw_4_98 d_Mod_lossFrom_20 h (fun v_2 h => ?_)
      refine x_iload_n C0 hl 1 d_Mod_lossFrom_23 rfl rfl ?_
      refine x_iload C0 hl 4 d_Mod_lossFrom_24 rfl ?_
      refine lv_iadd C0.1 C0.2.1 d_Mod_lossFrom_26 ?_
      refine x_iald C0 hE hH (t := 0) rfl d_Mod_lossFrom_27 h (fun v_3 h => ?_)
      refine x_iald C0 hE hH (t := 0) rfl d_Mod_lossFrom_28 h (fun v_4 h => ?_)
      refine lv_iadd C0.1 C0.2.1 d_Mod_lossFrom_29 ?_
      refine x_istore (lv' := [(4, .inl (x4 + v_4)), (0, .inr (.inl (some h0))), (1, .inl x1), (2, .inl x2), (5, .inl x5)]) C0 hl d_Mod_lossFrom_30 (by decide) rfl (fun ls hl => ?_)
      refine x_iinc (v := 1) (lv' := [(5, .inl (x5 + 1)), (4, .inl (x4 + v_4)), (0, .inr (.inl (some h0))), (1, .inl x1), (2, .inl x2)]) C0 hl 4 d_Mod_lossFrom_32 rfl (by decide) (by decide) rfl (fun ls hl => ?_)
      refine x_goto C0 7 d_Mod_lossFrom_35 (by decide) ?_
      exact ih _ _ q ls (x_sub hl [2, 3, 4, 1, 0] rfl) h K
def f_Mod_lossFrom (w : Mp) (h0 : Nat) (x1 : Int32) (x2 : Int32) (x3 : Int32) : Option (Int32) := (f_Mod_lossFrom_L7 w h0 x1 x2 100000 (-x3) (0 : Int32)).bind fun q_5 => some q_5.2.1
set_option maxHeartbeats 4000000 in
set_option maxRecDepth 100000 in
theorem c_Mod_lossFrom (l : Launch) (G : Gx) (w : Mp) (sz : Nat) (h0 : Nat) (x1 : Int32) (x2 : Int32) (x3 : Int32) (res : Int32) (hf : f_Mod_lossFrom w h0 x1 x2 x3 = some res) : Met l y_Mod_lossFrom (xws y_Mod_lossFrom b_Mod_lossFrom 6 (some .int)) { frames := 0, cells := 0, slots := 0, locals := 0 } (xPc G vwCl xaty w sz [va_rf (some h0), .int x1, .int x2, .int x3]) (qP (some (.int res))) (0) (0) (fun _ => False) := by
  refine Met.ofW (cc := b_Mod_lossFrom) (maxL := 6) (ret := (some .int)) (by decide) rfl ?_
  intro p e s m args below meth c s₁ B hml hv
  obtain ⟨ha, hE, hH, hz⟩ := hv
  have C0 : CallFix p m c b_Mod_lossFrom 6 s args wA R_Mod := ⟨B.exec, B.bytes, hml, findClass_of_methodNamed B.named, fun w hw => atoms_spec (ws := xws y_Mod_lossFrom b_Mod_lossFrom 6 (some .int)) B.pre w (List.mem_cons_of_mem _ hw)⟩
  have hr := B.returns
  have hlocks := B.notSynchronized
  obtain ⟨R, hR⟩ : ∃ R, R = (headSpec (xws y_Mod_lossFrom b_Mod_lossFrom 6 (some .int)) { frames := 0, cells := 0, slots := 0, locals := 0 }).room := ⟨_, rfl⟩
  have hR1 : 0 ≤ R.frames := by rw [hR]; exact Nat.le_of_ble_eq_true rfl
  have hR2 : 0 ≤ R.locals := by rw [hR]; exact Nat.le_of_ble_eq_true rfl
  have hR3 : 0 ≤ R.cells := by rw [hR]; exact Nat.le_refl _
  have hR4 : 0 ≤ R.slots := by rw [hR]; exact Nat.le_refl _
  rw [← hR]
  obtain ⟨Q, hQ⟩ : ∃ Q, Q = MQ below (qP (some (.int res))) args s (0) (0) (fun _ => False) := ⟨_, rfl⟩
  rw [← hQ]
  have hS : xS G s s.heap [] := va_S.rf
  obtain ⟨ls, he, hl⟩ := x_entry m [.inr (.inl (some h0)), .inl x1, .inl x2, .inl x3] 6 (Nat.le_of_ble_eq_true rfl)
  rw [show entryFrame m args 6 = F0 m 0 ls [] by rw [ha]; exact he]
  have hl : xL ls 6 [(0, .inr (.inl (some h0))), (1, .inl x1), (2, .inl x2), (3, .inl x3)] := hl
  have h := hf
  unfold f_Mod_lossFrom at h
  suffices hmain : ∀ (H : Heap) (locs : List Loc), xhd G vwCl w H → xS G s H locs → H.size = sz → (H = s.heap ∧ locs = []) → W p l e R s m args below meth c H locs 0 0 Q (F0 m 0 ls []) from hmain _ _ hH hS hz ⟨rfl, rfl⟩
  clear hH hS hz
  intro H locs hH hS hz hP0
  refine x_iload_n C0 hl 3 d_Mod_lossFrom_0 rfl rfl ?_
  refine lv_ineg C0.1 C0.2.1 d_Mod_lossFrom_1 ?_
  refine x_istore (lv' := [(4, .inl (-x3)), (0, .inr (.inl (some h0))), (1, .inl x1), (2, .inl x2), (3, .inl x3)]) C0 hl d_Mod_lossFrom_2 (by decide) rfl (fun ls hl => ?_)
  refine lv_iconst (v := 0) C0.1 C0.2.1 d_Mod_lossFrom_4 (by decide) ?_
  refine x_istore (lv' := [(5, .inl (0 : Int32)), (4, .inl (-x3)), (0, .inr (.inl (some h0))), (1, .inl x1), (2, .inl x2), (3, .inl x3)]) C0 hl d_Mod_lossFrom_5 (by decide) rfl (fun ls hl => ?_)
  obtain ⟨q_5, e9, h⟩ := Option.bind_eq_some_iff.mp h
  refine w_Mod_lossFrom_L7 C0 hE hR1 hR2 hR3 hR4 hH hS hz 100000 _ _ q_5 ls (x_sub hl [2, 3, 4, 1, 0] rfl) e9 (fun ls hl => ?_)
  refine x_iload C0 hl 3 d_Mod_lossFrom_38 rfl ?_
  cases h
  rw [hQ]
  exact x_iretP C0 hr hlocks hP0 d_Mod_lossFrom_40
theorem d_Mod_lossWith_0 : decode b_Mod_lossWith 0 = .ok (.aload_n 0, 1) := by decide +kernel
theorem d_Mod_lossWith_1 : decode b_Mod_lossWith 1 = .ok (.iload_n 1, 1) := by decide +kernel
theorem d_Mod_lossWith_2 : decode b_Mod_lossWith 2 = .ok (.aload_n 0, 1) := by decide +kernel
theorem d_Mod_lossWith_3 : decode b_Mod_lossWith 3 = .ok (.getfield 41, 3) := by decide +kernel
theorem d_Mod_lossWith_6 : decode b_Mod_lossWith 6 = .ok (.iload_n 3, 1) := by decide +kernel
theorem d_Mod_lossWith_7 : decode b_Mod_lossWith 7 = .ok (.iaload, 1) := by decide +kernel
theorem d_Mod_lossWith_8 : decode b_Mod_lossWith 8 = .ok (.invokevirtual 145, 3) := by decide +kernel
theorem d_Mod_lossWith_11 : decode b_Mod_lossWith 11 = .ok (.istore 4, 2) := by decide +kernel
theorem d_Mod_lossWith_13 : decode b_Mod_lossWith 13 = .ok (.iload 4, 2) := by decide +kernel
theorem d_Mod_lossWith_15 : decode b_Mod_lossWith 15 = .ok (.ifCond .ne 8, 3) := by decide +kernel
theorem d_Mod_lossWith_18 : decode b_Mod_lossWith 18 = .ok (.ldc 148, 2) := by decide +kernel
theorem d_Mod_lossWith_20 : decode b_Mod_lossWith 20 = .ok (.goto 36, 3) := by decide +kernel
theorem d_Mod_lossWith_23 : decode b_Mod_lossWith 23 = .ok (.aload_n 0, 1) := by decide +kernel
theorem d_Mod_lossWith_24 : decode b_Mod_lossWith 24 = .ok (.iload_n 1, 1) := by decide +kernel
theorem d_Mod_lossWith_25 : decode b_Mod_lossWith 25 = .ok (.iload 4, 2) := by decide +kernel
theorem d_Mod_lossWith_27 : decode b_Mod_lossWith 27 = .ok (.aload_n 0, 1) := by decide +kernel
theorem d_Mod_lossWith_28 : decode b_Mod_lossWith 28 = .ok (.getfield 41, 3) := by decide +kernel
theorem d_Mod_lossWith_31 : decode b_Mod_lossWith 31 = .ok (.iload_n 3, 1) := by decide +kernel
theorem d_Mod_lossWith_32 : decode b_Mod_lossWith 32 = .ok (.iaload, 1) := by decide +kernel
theorem d_Mod_lossWith_33 : decode b_Mod_lossWith 33 = .ok (.invokevirtual 149, 3) := by decide +kernel
theorem d_Mod_lossWith_36 : decode b_Mod_lossWith 36 = .ok (.aload_n 0, 1) := by decide +kernel
theorem d_Mod_lossWith_37 : decode b_Mod_lossWith 37 = .ok (.getfield 53, 3) := by decide +kernel
theorem d_Mod_lossWith_40 : decode b_Mod_lossWith 40 = .ok (.sipush 256, 3) := by decide +kernel
theorem d_Mod_lossWith_43 : decode b_Mod_lossWith 43 = .ok (.iload_n 1, 1) := by decide +kernel
theorem d_Mod_lossWith_44 : decode b_Mod_lossWith 44 = .ok (.iload 4, 2) := by decide +kernel
theorem d_Mod_lossWith_46 : decode b_Mod_lossWith 46 = .ok (.iadd, 1) := by decide +kernel
theorem d_Mod_lossWith_47 : decode b_Mod_lossWith 47 = .ok (.imul, 1) := by decide +kernel
theorem d_Mod_lossWith_48 : decode b_Mod_lossWith 48 = .ok (.iload_n 2, 1) := by decide +kernel
theorem d_Mod_lossWith_49 : decode b_Mod_lossWith 49 = .ok (.iconst 1, 1) := by decide +kernel
theorem d_Mod_lossWith_50 : decode b_Mod_lossWith 50 = .ok (.iload_n 3, 1) := by decide +kernel
theorem d_Mod_lossWith_51 : decode b_Mod_lossWith 51 = .ok (.ishl, 1) := by decide +kernel
theorem d_Mod_lossWith_52 : decode b_Mod_lossWith 52 = .ok (.ixor, 1) := by decide +kernel
theorem d_Mod_lossWith_53 : decode b_Mod_lossWith 53 = .ok (.iadd, 1) := by decide +kernel
theorem d_Mod_lossWith_54 : decode b_Mod_lossWith 54 = .ok (.iaload, 1) := by decide +kernel
theorem d_Mod_lossWith_55 : decode b_Mod_lossWith 55 = .ok (.iadd, 1) := by decide +kernel
theorem d_Mod_lossWith_56 : decode b_Mod_lossWith 56 = .ok (.ireturn, 1) := by decide +kernel
def f_Mod_lossWith (w : Mp) (h0 : Nat) (x1 : Int32) (x2 : Int32) (x3 : Int32) : Option (Int32) := (gR w (some h0) 5 14).bind fun v_1 => (aI w v_1 0 x3).bind fun v_2 => (xo w (some h0) 5).bind fun b_4 => (f_Mod_manyFrom w b_4 x1 v_2).bind fun q_3 => if q_3 = 0 then (some (1000000 : Int32)) else ((gR w (some h0) 5 14).bind fun v_5 => (aI w v_5 0 x3).bind fun v_6 => (xo w (some h0) 5).bind fun b_8 => (f_Mod_lossFrom w b_8 x1 q_3 v_6).bind fun q_7 => (gR w (some h0) 5 20).bind fun v_9 => (aI w v_9 0 (((256 : Int32) * (x1 + q_3)) + (x2 ^^^ ((1 : Int32) <<< (x3 &&& 31))))).bind fun v_10 => some (q_7 + v_10))
set_option maxHeartbeats 4000000 in
set_option maxRecDepth 100000 in
theorem c_Mod_lossWith (l : Launch) (G : Gx) (w : Mp) (sz : Nat) (h0 : Nat) (x1 : Int32) (x2 : Int32) (x3 : Int32) (res : Int32) (hf : f_Mod_lossWith w h0 x1 x2 x3 = some res) : Met l y_Mod_lossWith (xws y_Mod_lossWith b_Mod_lossWith 5 (some .int)) { frames := 1, cells := 0, slots := 0, locals := 25 } (xPc G vwCl xaty w sz [va_rf (some h0), .int x1, .int x2, .int x3]) (qP (some (.int res))) (0) (0) (fun _ => False) := by
  refine Met.ofW (cc := b_Mod_lossWith) (maxL := 5) (ret := (some .int)) (by decide) rfl ?_
  intro p e s m args below meth c s₁ B hml hv
  obtain ⟨ha, hE, hH, hz⟩ := hv
  have C0 : CallFix p m c b_Mod_lossWith 5 s args wA R_Mod := ⟨B.exec, B.bytes, hml, findClass_of_methodNamed B.named, fun w hw => atoms_spec (ws := xws y_Mod_lossWith b_Mod_lossWith 5 (some .int)) B.pre w (List.mem_cons_of_mem _ hw)⟩
  have hr := B.returns
  have hlocks := B.notSynchronized
  obtain ⟨R, hR⟩ : ∃ R, R = (headSpec (xws y_Mod_lossWith b_Mod_lossWith 5 (some .int)) { frames := 1, cells := 0, slots := 0, locals := 25 }).room := ⟨_, rfl⟩
  have hR1 : 1 ≤ R.frames := by rw [hR]; exact Nat.le_of_ble_eq_true rfl
  have hR2 : 25 ≤ R.locals := by rw [hR]; exact Nat.le_of_ble_eq_true rfl
  have hR3 : 0 ≤ R.cells := by rw [hR]; exact Nat.le_refl _
  have hR4 : 0 ≤ R.slots := by rw [hR]; exact Nat.le_refl _
  rw [← hR]
  obtain ⟨Q, hQ⟩ : ∃ Q, Q = MQ below (qP (some (.int res))) args s (0) (0) (fun _ => False) := ⟨_, rfl⟩
  rw [← hQ]
  have hS : xS G s s.heap [] := va_S.rf
  obtain ⟨ls, he, hl⟩ := x_entry m [.inr (.inl (some h0)), .inl x1, .inl x2, .inl x3] 5 (Nat.le_of_ble_eq_true rfl)
  rw [show entryFrame m args 5 = F0 m 0 ls [] by rw [ha]; exact he]
  have hl : xL ls 5 [(0, .inr (.inl (some h0))), (1, .inl x1), (2, .inl x2), (3, .inl x3)] := hl
  have h := hf
  unfold f_Mod_lossWith at h
  suffices hmain : ∀ (H : Heap) (locs : List Loc), xhd G vwCl w H → xS G s H locs → H.size = sz → (H = s.heap ∧ locs = []) → W p l e R s m args below meth c H locs 0 0 Q (F0 m 0 ls []) from hmain _ _ hH hS hz ⟨rfl, rfl⟩
  clear hH hS hz
  intro H locs hH hS hz hP0
  refine x_aload_n C0 hl 0 d_Mod_lossWith_0 rfl rfl ?_
  refine x_iload_n C0 hl 1 d_Mod_lossWith_1 rfl rfl ?_
  refine x_aload_n C0 hl 0 d_Mod_lossWith_2 rfl rfl ?_
  refine x_getR C0 hE hH (ci := 5) rfl i_Mod 14 (by decide) kw_4_93 d_Mod_lossWith_3 h (fun v_1 h => ?_)
  refine x_iload_n C0 hl 3 d_Mod_lossWith_6 rfl rfl ?_
  refine x_iald C0 hE hH (t := 0) rfl d_Mod_lossWith_7 h (fun v_2 h => ?_)
  obtain ⟨b_4, e9, h⟩ := Option.bind_eq_some_iff.mp h
  obtain ⟨e8, fs9, hb9⟩ := xo_inv e9
  obtain ⟨q_3, e9, h⟩ := Option.bind_eq_some_iff.mp h
  refine x_callP (va_runV (As := [.int x1, .int v_2]) (rest := []) C0 (c_Mod_manyFrom l G w _ b_4 x1 v_2 q_3 e9) (x_cwV 2 C0 kw_5_56 kw_5_59 kw_1_3 kw_5_58 kw_0_34 (by decide +kernel) (x_rm hR1 hR2 (Nat.le_of_ble_eq_true rfl) (Nat.le_of_ble_eq_true rfl))) (x_preV hE hH hS (ci := 5) rfl hb9) rfl rfl hl.1 (by rw [e8]; rfl) (lv_room (by first | exact Nat.le_of_ble_eq_true rfl | simp only [List.map_cons, List.map_nil, List.sum_cons, List.sum_nil, va_rf_cat, x_catI, x_catL, x_catA] <;> decide)) d_Mod_lossWith_8 (x_le0 hR3 hR4)) ?_
  refine x_istore (lv' := [(4, .inl q_3), (0, .inr (.inl (some h0))), (1, .inl x1), (2, .inl x2), (3, .inl x3)]) C0 hl d_Mod_lossWith_11 (by decide) rfl (fun ls hl => ?_)
  refine x_iload C0 hl 0 d_Mod_lossWith_13 rfl ?_
  refine x_if_ne C0 23 d_Mod_lossWith_15 (by decide) h (fun h => ?_) (fun h => ?_)
  · refine x_aload_n C0 hl 1 d_Mod_lossWith_23 rfl rfl ?_
    refine x_iload_n C0 hl 2 d_Mod_lossWith_24 rfl rfl ?_
    refine x_iload C0 hl 0 d_Mod_lossWith_25 rfl ?_
    refine x_aload_n C0 hl 1 d_Mod_lossWith_27 rfl rfl ?_
    refine x_getR C0 hE hH (ci := 5) rfl i_Mod 14 (by decide) kw_4_93 d_Mod_lossWith_28 h (fun v_5 h => ?_)
    refine x_iload_n C0 hl 4 d_Mod_lossWith_31 rfl rfl ?_
    refine x_iald C0 hE hH (t := 0) rfl d_Mod_lossWith_32 h (fun v_6 h => ?_)
    obtain ⟨b_8, e9, h⟩ := Option.bind_eq_some_iff.mp h
    obtain ⟨e8, fs9, hb9⟩ := xo_inv e9
    obtain ⟨q_7, e9, h⟩ := Option.bind_eq_some_iff.mp h
    refine x_callP (va_runV (As := [.int x1, .int q_3, .int v_6]) (rest := []) C0 (c_Mod_lossFrom l G w _ b_8 x1 q_3 v_6 q_7 e9) (x_cwV 3 C0 kw_5_60 kw_5_63 kw_1_3 kw_5_62 kw_0_35 (by decide +kernel) (x_rm hR1 hR2 (Nat.le_of_ble_eq_true rfl) (Nat.le_of_ble_eq_true rfl))) (x_preV hE hH hS (ci := 5) rfl hb9) rfl rfl hl.1 (by rw [e8]; rfl) (lv_room (by first | exact Nat.le_of_ble_eq_true rfl | simp only [List.map_cons, List.map_nil, List.sum_cons, List.sum_nil, va_rf_cat, x_catI, x_catL, x_catA] <;> decide)) d_Mod_lossWith_33 (x_le0 hR3 hR4)) ?_
    refine x_aload_n C0 hl 1 d_Mod_lossWith_36 rfl rfl ?_
    refine x_getR C0 hE hH (ci := 5) rfl i_Mod 20 (by decide) kw_4_99 d_Mod_lossWith_37 h (fun v_9 h => ?_)
    refine lv_sipush (v := 256) C0.1 C0.2.1 d_Mod_lossWith_40 (by decide) ?_
    refine x_iload_n C0 hl 2 d_Mod_lossWith_43 rfl rfl ?_
    refine x_iload C0 hl 0 d_Mod_lossWith_44 rfl ?_
    refine lv_iadd C0.1 C0.2.1 d_Mod_lossWith_46 ?_
    refine lv_imul C0.1 C0.2.1 d_Mod_lossWith_47 ?_
    refine x_iload_n C0 hl 3 d_Mod_lossWith_48 rfl rfl ?_
    refine lv_iconst (v := 1) C0.1 C0.2.1 d_Mod_lossWith_49 (by decide) ?_
    refine x_iload_n C0 hl 4 d_Mod_lossWith_50 rfl rfl ?_
    refine lv_ishl C0.1 C0.2.1 d_Mod_lossWith_51 ?_
    refine lv_ixor C0.1 C0.2.1 d_Mod_lossWith_52 ?_
    refine lv_iadd C0.1 C0.2.1 d_Mod_lossWith_53 ?_
    refine x_iald C0 hE hH (t := 0) rfl d_Mod_lossWith_54 h (fun v_10 h => ?_)
    refine lv_iadd C0.1 C0.2.1 d_Mod_lossWith_55 ?_
    cases h
    rw [hQ]
    exact x_iretP C0 hr hlocks hP0 d_Mod_lossWith_56
  · refine lv_ldc (v := 1000000) C0.1 C0.2.1 C0.2.2.2.1 (C0.2.2.2.2 _ kw_5_51) d_Mod_lossWith_18 ?_
    refine x_goto C0 56 d_Mod_lossWith_20 (by decide) ?_
    cases h
    rw [hQ]
    exact x_iretP C0 hr hlocks hP0 d_Mod_lossWith_56
