theorem kw_1_11 : (Jvm.Cond.initialized "LeafMatches$Face") ∈ wA := ku_1 11 rfl rfl
theorem kw_1_12 : (Jvm.Cond.initialized "LeafMatches$Piece") ∈ wA := ku_1 12 rfl rfl
theorem kw_1_13 : (Jvm.Cond.initialized "java/lang/Math") ∈ wA := ku_1 13 rfl rfl
theorem kw_1_218 : (Jvm.Cond.fieldLink "LeafMatches$Face" (58 : Nat) "LeafMatches$Leaf" "width" "I") ∈ wA := ku_1 218 rfl rfl
theorem kw_1_222 : (Jvm.Cond.fieldLink "LeafMatches$Face" (55 : Nat) "LeafMatches$Leaf" "height" "I") ∈ wA := ku_1 222 rfl rfl
theorem kw_2_105 : (Jvm.Cond.fieldLink "LeafMatches$Face" (24 : Nat) "LeafMatches$Piece" "leaf" "LLeafMatches$Leaf;") ∈ wA := ku_2 105 rfl rfl
theorem kw_2_112 : (Jvm.Cond.fieldLink "LeafMatches$Face" (42 : Nat) "LeafMatches$Piece" "begin" "I") ∈ wA := ku_2 112 rfl rfl
theorem kw_2_115 : (Jvm.Cond.fieldLink "LeafMatches$Face" (48 : Nat) "LeafMatches$Piece" "top" "I") ∈ wA := ku_2 115 rfl rfl
theorem kw_2_128 : (Jvm.Cond.fieldLink "LeafMatches$Face" (9 : Nat) "LeafMatches$Face" "kind" "I") ∈ wA := ku_2 128 rfl rfl
theorem kw_2_130 : (Jvm.Cond.fieldLink "LeafMatches$Face" (17 : Nat) "LeafMatches$Face" "pieces" "[LLeafMatches$Piece;") ∈ wA := ku_2 130 rfl rfl
theorem kw_2_170 : (Jvm.Cond.methodLink "LeafMatches$Face" (38 : Nat) ({ cls := "LeafMatches$Piece", name := "end", desc := "()I" } : Jvm.MethodName)) ∈ wA := ku_2 170 rfl rfl
theorem kw_2_171 : (Jvm.Cond.instanceMethod ({ cls := "LeafMatches$Piece", name := "end", desc := "()I" } : Jvm.MethodName)) ∈ wA := ku_2 171 rfl rfl
theorem kw_2_172 : (Jvm.Cond.selects "LeafMatches$Piece" ({ cls := "LeafMatches$Piece", name := "end", desc := "()I" } : Jvm.MethodName) ({ cls := "LeafMatches$Piece", name := "end", desc := "()I" } : Jvm.MethodName)) ∈ wA := ku_2 172 rfl rfl
theorem kw_2_173 : (Jvm.Cond.code ({ cls := "LeafMatches$Piece", name := "end", desc := "()I" } : Jvm.MethodName) prog_4_method_2_code (1 : Nat) (Option.some Jvm.ClassFile.FieldType.int)) ∈ wA := ku_2 173 rfl rfl
theorem kw_2_174 : (Jvm.Cond.methodLink "LeafMatches$Face" (45 : Nat) ({ cls := "LeafMatches$Piece", name := "bottom", desc := "()I" } : Jvm.MethodName)) ∈ wA := ku_2 174 rfl rfl
theorem kw_2_175 : (Jvm.Cond.instanceMethod ({ cls := "LeafMatches$Piece", name := "bottom", desc := "()I" } : Jvm.MethodName)) ∈ wA := ku_2 175 rfl rfl
theorem kw_2_176 : (Jvm.Cond.selects "LeafMatches$Piece" ({ cls := "LeafMatches$Piece", name := "bottom", desc := "()I" } : Jvm.MethodName) ({ cls := "LeafMatches$Piece", name := "bottom", desc := "()I" } : Jvm.MethodName)) ∈ wA := ku_2 176 rfl rfl
theorem kw_2_177 : (Jvm.Cond.code ({ cls := "LeafMatches$Piece", name := "bottom", desc := "()I" } : Jvm.MethodName) prog_4_method_3_code (1 : Nat) (Option.some Jvm.ClassFile.FieldType.int)) ∈ wA := ku_2 177 rfl rfl
theorem kw_2_184 : (Jvm.Cond.methodLink "LeafMatches$Face" (74 : Nat) ({ cls := "LeafMatches$Face", name := "differenceAt", desc := "(II)I" } : Jvm.MethodName)) ∈ wA := ku_2 184 rfl rfl
theorem kw_2_185 : (Jvm.Cond.instanceMethod ({ cls := "LeafMatches$Face", name := "differenceAt", desc := "(II)I" } : Jvm.MethodName)) ∈ wA := ku_2 185 rfl rfl
theorem kw_2_186 : (Jvm.Cond.selects "LeafMatches$Face" ({ cls := "LeafMatches$Face", name := "differenceAt", desc := "(II)I" } : Jvm.MethodName) ({ cls := "LeafMatches$Face", name := "differenceAt", desc := "(II)I" } : Jvm.MethodName)) ∈ wA := ku_2 186 rfl rfl
theorem kw_2_187 : (Jvm.Cond.code ({ cls := "LeafMatches$Face", name := "differenceAt", desc := "(II)I" } : Jvm.MethodName) prog_2_method_6_code (10 : Nat) (Option.some Jvm.ClassFile.FieldType.int)) ∈ wA := ku_2 187 rfl rfl
theorem kw_2_188 : (Jvm.Cond.methodLink "LeafMatches$Face" (61 : Nat) ({ cls := "LeafMatches$Piece", name := "greyShown", desc := "(II)I" } : Jvm.MethodName)) ∈ wA := ku_2 188 rfl rfl
theorem kw_2_189 : (Jvm.Cond.instanceMethod ({ cls := "LeafMatches$Piece", name := "greyShown", desc := "(II)I" } : Jvm.MethodName)) ∈ wA := ku_2 189 rfl rfl
theorem kw_2_190 : (Jvm.Cond.selects "LeafMatches$Piece" ({ cls := "LeafMatches$Piece", name := "greyShown", desc := "(II)I" } : Jvm.MethodName) ({ cls := "LeafMatches$Piece", name := "greyShown", desc := "(II)I" } : Jvm.MethodName)) ∈ wA := ku_2 190 rfl rfl
theorem kw_2_191 : (Jvm.Cond.code ({ cls := "LeafMatches$Piece", name := "greyShown", desc := "(II)I" } : Jvm.MethodName) prog_4_method_4_code (5 : Nat) (Option.some Jvm.ClassFile.FieldType.int)) ∈ wA := ku_2 191 rfl rfl
theorem kw_2_197 : (Jvm.Cond.methodLink "LeafMatches$Face" (65 : Nat) ({ cls := "java/lang/Math", name := "abs", desc := "(I)I" } : Jvm.MethodName)) ∈ wA := ku_2 197 rfl rfl
theorem kw_2_198 : (Jvm.Cond.static ({ cls := "java/lang/Math", name := "abs", desc := "(I)I" } : Jvm.MethodName)) ∈ wA := ku_2 198 rfl rfl
theorem kw_2_199 : (Jvm.Cond.code ({ cls := "java/lang/Math", name := "abs", desc := "(I)I" } : Jvm.MethodName) prog_15_method_59_code (1 : Nat) (Option.some Jvm.ClassFile.FieldType.int)) ∈ wA := ku_2 199 rfl rfl
theorem kw_2_212 : (Jvm.Cond.methodLink "LeafMatches$Face" (83 : Nat) ({ cls := "LeafMatches$Face", name := "leastTop", desc := "()I" } : Jvm.MethodName)) ∈ wA := ku_2 212 rfl rfl
theorem kw_2_213 : (Jvm.Cond.instanceMethod ({ cls := "LeafMatches$Face", name := "leastTop", desc := "()I" } : Jvm.MethodName)) ∈ wA := ku_2 213 rfl rfl
theorem kw_2_214 : (Jvm.Cond.selects "LeafMatches$Face" ({ cls := "LeafMatches$Face", name := "leastTop", desc := "()I" } : Jvm.MethodName) ({ cls := "LeafMatches$Face", name := "leastTop", desc := "()I" } : Jvm.MethodName)) ∈ wA := ku_2 214 rfl rfl
theorem kw_2_215 : (Jvm.Cond.code ({ cls := "LeafMatches$Face", name := "leastTop", desc := "()I" } : Jvm.MethodName) prog_2_method_9_code (6 : Nat) (Option.some Jvm.ClassFile.FieldType.int)) ∈ wA := ku_2 215 rfl rfl
theorem kw_2_216 : (Jvm.Cond.methodLink "LeafMatches$Face" (80 : Nat) ({ cls := "java/lang/Math", name := "min", desc := "(II)I" } : Jvm.MethodName)) ∈ wA := ku_2 216 rfl rfl
theorem kw_2_217 : (Jvm.Cond.static ({ cls := "java/lang/Math", name := "min", desc := "(II)I" } : Jvm.MethodName)) ∈ wA := ku_2 217 rfl rfl
theorem kw_2_218 : (Jvm.Cond.code ({ cls := "java/lang/Math", name := "min", desc := "(II)I" } : Jvm.MethodName) prog_15_method_69_code (2 : Nat) (Option.some Jvm.ClassFile.FieldType.int)) ∈ wA := ku_2 218 rfl rfl
theorem kw_2_227 : (Jvm.Cond.instanceMethod ({ cls := "LeafMatches$Face", name := "sizeAcross", desc := "()I" } : Jvm.MethodName)) ∈ wA := ku_2 227 rfl rfl
theorem kw_2_228 : (Jvm.Cond.selects "LeafMatches$Face" ({ cls := "LeafMatches$Face", name := "sizeAcross", desc := "()I" } : Jvm.MethodName) ({ cls := "LeafMatches$Face", name := "sizeAcross", desc := "()I" } : Jvm.MethodName)) ∈ wA := ku_2 228 rfl rfl
theorem kw_2_229 : (Jvm.Cond.code ({ cls := "LeafMatches$Face", name := "sizeAcross", desc := "()I" } : Jvm.MethodName) prog_2_method_8_code (6 : Nat) (Option.some Jvm.ClassFile.FieldType.int)) ∈ wA := ku_2 229 rfl rfl
theorem kw_2_230 : (Jvm.Cond.methodLink "LeafMatches$Face" (77 : Nat) ({ cls := "java/lang/Math", name := "max", desc := "(II)I" } : Jvm.MethodName)) ∈ wA := ku_2 230 rfl rfl
theorem kw_2_231 : (Jvm.Cond.static ({ cls := "java/lang/Math", name := "max", desc := "(II)I" } : Jvm.MethodName)) ∈ wA := ku_2 231 rfl rfl
theorem kw_2_232 : (Jvm.Cond.code ({ cls := "java/lang/Math", name := "max", desc := "(II)I" } : Jvm.MethodName) prog_15_method_65_code (2 : Nat) (Option.some Jvm.ClassFile.FieldType.int)) ∈ wA := ku_2 232 rfl rfl
theorem kw_3_39 : (Jvm.Cond.methodLink "LeafMatches$Face" (86 : Nat) ({ cls := "LeafMatches$Face", name := "sizeAcross", desc := "()I" } : Jvm.MethodName)) ∈ wA := ku_3 39 rfl rfl
theorem d_Face_hasPiece_0 : decode b_Face_hasPiece 0 = .ok (.iload_n 1, 1) := by decide +kernel
theorem d_Face_hasPiece_1 : decode b_Face_hasPiece 1 = .ok (.iconst 0, 1) := by decide +kernel
theorem d_Face_hasPiece_2 : decode b_Face_hasPiece 2 = .ok (.aload_n 0, 1) := by decide +kernel
theorem d_Face_hasPiece_3 : decode b_Face_hasPiece 3 = .ok (.getfield 17, 3) := by decide +kernel
theorem d_Face_hasPiece_6 : decode b_Face_hasPiece 6 = .ok (.arraylength, 1) := by decide +kernel
theorem d_Face_hasPiece_7 : decode b_Face_hasPiece 7 = .ok (.iconst 1, 1) := by decide +kernel
theorem d_Face_hasPiece_8 : decode b_Face_hasPiece 8 = .ok (.isub, 1) := by decide +kernel
theorem d_Face_hasPiece_9 : decode b_Face_hasPiece 9 = .ok (.invokestatic 34, 3) := by decide +kernel
theorem d_Face_hasPiece_12 : decode b_Face_hasPiece 12 = .ok (.ireturn, 1) := by decide +kernel
def f_Face_hasPiece (w : Mp) (h0 : Nat) (x1 : Int32) : Option (Int32) := (gR w (some h0) 3 1).bind fun v_1 => (aL w v_1 3).bind fun v_2 => (f_LM_isWithin w x1 (0 : Int32) (v_2 - (1 : Int32))).bind fun q_3 => if vp_nar .boolean q_3 = q_3 then some q_3 else none
set_option maxHeartbeats 4000000 in
set_option maxRecDepth 100000 in
theorem c_Face_hasPiece (l : Launch) (G : Gx) (w : Mp) (sz : Nat) (h0 : Nat) (x1 : Int32) (res : Int32) (hf : f_Face_hasPiece w h0 x1 = some res) : Met l y_Face_hasPiece (xws y_Face_hasPiece b_Face_hasPiece 2 (some .boolean)) { frames := 1, cells := 0, slots := 0, locals := 22 } (xPc G vwCl xaty w sz [va_rf (some h0), .int x1]) (qP (some (.int res))) (0) (0) (fun _ => False) := by
  refine Met.ofW (cc := b_Face_hasPiece) (maxL := 2) (ret := (some .boolean)) (by decide) rfl ?_
  intro p e s m args below meth c s₁ B hml hv
  obtain ⟨ha, hE, hH, hz⟩ := hv
  have C0 : CallFix p m c b_Face_hasPiece 2 s args wA R_Face := ⟨B.exec, B.bytes, hml, findClass_of_methodNamed B.named, fun w hw => atoms_spec (ws := xws y_Face_hasPiece b_Face_hasPiece 2 (some .boolean)) B.pre w (List.mem_cons_of_mem _ hw)⟩
  have hr := B.returns
  have hlocks := B.notSynchronized
  obtain ⟨R, hR⟩ : ∃ R, R = (headSpec (xws y_Face_hasPiece b_Face_hasPiece 2 (some .boolean)) { frames := 1, cells := 0, slots := 0, locals := 22 }).room := ⟨_, rfl⟩
  have hR1 : 1 ≤ R.frames := by rw [hR]; exact Nat.le_of_ble_eq_true rfl
  have hR2 : 22 ≤ R.locals := by rw [hR]; exact Nat.le_of_ble_eq_true rfl
  have hR3 : 0 ≤ R.cells := by rw [hR]; exact Nat.le_refl _
  have hR4 : 0 ≤ R.slots := by rw [hR]; exact Nat.le_refl _
  rw [← hR]
  obtain ⟨Q, hQ⟩ : ∃ Q, Q = MQ below (qP (some (.int res))) args s (0) (0) (fun _ => False) := ⟨_, rfl⟩
  rw [← hQ]
  have hS : xS G s s.heap [] := va_S.rf
  obtain ⟨ls, he, hl⟩ := x_entry m [.inr (.inl (some h0)), .inl x1] 2 (Nat.le_of_ble_eq_true rfl)
  rw [show entryFrame m args 2 = F0 m 0 ls [] by rw [ha]; exact he]
  have hl : xL ls 2 [(0, .inr (.inl (some h0))), (1, .inl x1)] := hl
  have h := hf
  unfold f_Face_hasPiece at h
  suffices hmain : ∀ (H : Heap) (locs : List Loc), xhd G vwCl w H → xS G s H locs → H.size = sz → (H = s.heap ∧ locs = []) → W p l e R s m args below meth c H locs 0 0 Q (F0 m 0 ls []) from hmain _ _ hH hS hz ⟨rfl, rfl⟩
  clear hH hS hz
  intro H locs hH hS hz hP0
  refine x_iload_n C0 hl 1 d_Face_hasPiece_0 rfl rfl ?_
  refine lv_iconst (v := 0) C0.1 C0.2.1 d_Face_hasPiece_1 (by decide) ?_
  refine x_aload_n C0 hl 0 d_Face_hasPiece_2 rfl rfl ?_
  refine x_getR C0 hE hH (ci := 3) rfl i_Face 1 (by decide) kw_2_130 d_Face_hasPiece_3 h (fun v_1 h => ?_)
  refine x_alen C0 hE hH (t := 3) rfl d_Face_hasPiece_6 h (fun v_2 h => ?_)
  refine lv_iconst (v := 1) C0.1 C0.2.1 d_Face_hasPiece_7 (by decide) ?_
  refine lv_isub C0.1 C0.2.1 d_Face_hasPiece_8 ?_
  obtain ⟨q_3, e9, h⟩ := Option.bind_eq_some_iff.mp h
  refine x_callP (va_runSN (As := [.int x1, .int (0 : Int32), .int (v_2 - (1 : Int32))]) (rest := []) C0 (c_LM_isWithin l G w _ x1 (0 : Int32) (v_2 - (1 : Int32)) q_3 e9) (x_cnS (host := "LeafMatches") 3 C0 (hE.2.2.1 _ (List.mem_of_getElem? (i := 9) rfl)) kw_1_186 kw_1_1 kw_1_185 (by decide +kernel) (x_rm hR1 hR2 (Nat.le_of_ble_eq_true rfl) (Nat.le_of_ble_eq_true rfl))) (x_preS hE hH hS) rfl rfl hl.1 rfl (lv_room (by first | exact Nat.le_of_ble_eq_true rfl | simp only [List.map_cons, List.map_nil, List.sum_cons, List.sum_nil, va_rf_cat, x_catI, x_catL, x_catA] <;> decide)) d_Face_hasPiece_9 (x_le0 hR3 hR4)) ?_
  obtain ⟨hn9, h⟩ := x_ifs h
  cases h
  rw [hQ]
  exact x_zretP C0 hr hlocks hP0 (x_nar (fun _ => ⟨_, rfl⟩) hn9) d_Face_hasPiece_12
theorem d_Face_hasSeam_0 : decode b_Face_hasSeam 0 = .ok (.aload_n 0, 1) := by decide +kernel
theorem d_Face_hasSeam_1 : decode b_Face_hasSeam 1 = .ok (.getfield 9, 3) := by decide +kernel
theorem d_Face_hasSeam_4 : decode b_Face_hasSeam 4 = .ok (.iconst 3, 1) := by decide +kernel
theorem d_Face_hasSeam_5 : decode b_Face_hasSeam 5 = .ok (.if_icmp .ne 7, 3) := by decide +kernel
theorem d_Face_hasSeam_8 : decode b_Face_hasSeam 8 = .ok (.iconst 2, 1) := by decide +kernel
theorem d_Face_hasSeam_9 : decode b_Face_hasSeam 9 = .ok (.goto 10, 3) := by decide +kernel
theorem d_Face_hasSeam_12 : decode b_Face_hasSeam 12 = .ok (.aload_n 0, 1) := by decide +kernel
theorem d_Face_hasSeam_13 : decode b_Face_hasSeam 13 = .ok (.getfield 17, 3) := by decide +kernel
theorem d_Face_hasSeam_16 : decode b_Face_hasSeam 16 = .ok (.arraylength, 1) := by decide +kernel
theorem d_Face_hasSeam_17 : decode b_Face_hasSeam 17 = .ok (.iconst 1, 1) := by decide +kernel
theorem d_Face_hasSeam_18 : decode b_Face_hasSeam 18 = .ok (.isub, 1) := by decide +kernel
theorem d_Face_hasSeam_19 : decode b_Face_hasSeam 19 = .ok (.istore_n 2, 1) := by decide +kernel
theorem d_Face_hasSeam_20 : decode b_Face_hasSeam 20 = .ok (.iload_n 1, 1) := by decide +kernel
theorem d_Face_hasSeam_21 : decode b_Face_hasSeam 21 = .ok (.iconst 0, 1) := by decide +kernel
theorem d_Face_hasSeam_22 : decode b_Face_hasSeam 22 = .ok (.iload_n 2, 1) := by decide +kernel
theorem d_Face_hasSeam_23 : decode b_Face_hasSeam 23 = .ok (.iconst 1, 1) := by decide +kernel
theorem d_Face_hasSeam_24 : decode b_Face_hasSeam 24 = .ok (.isub, 1) := by decide +kernel
theorem d_Face_hasSeam_25 : decode b_Face_hasSeam 25 = .ok (.invokestatic 34, 3) := by decide +kernel
theorem d_Face_hasSeam_28 : decode b_Face_hasSeam 28 = .ok (.ireturn, 1) := by decide +kernel
def f_Face_hasSeam (w : Mp) (h0 : Nat) (x1 : Int32) : Option (Int32) := (gI w (some h0) 3 0).bind fun v_1 => xJ1 (fun (x_2 : Int32) => (f_LM_isWithin w x1 (0 : Int32) (x_2 - (1 : Int32))).bind fun q_4 => if vp_nar .boolean q_4 = q_4 then some q_4 else none) fun J_3 => if v_1 = (3 : Int32) then (J_3 (2 : Int32)) else ((gR w (some h0) 3 1).bind fun v_5 => (aL w v_5 3).bind fun v_6 => J_3 (v_6 - (1 : Int32)))
set_option maxHeartbeats 4000000 in
set_option maxRecDepth 100000 in
theorem c_Face_hasSeam (l : Launch) (G : Gx) (w : Mp) (sz : Nat) (h0 : Nat) (x1 : Int32) (res : Int32) (hf : f_Face_hasSeam w h0 x1 = some res) : Met l y_Face_hasSeam (xws y_Face_hasSeam b_Face_hasSeam 3 (some .boolean)) { frames := 1, cells := 0, slots := 0, locals := 22 } (xPc G vwCl xaty w sz [va_rf (some h0), .int x1]) (qP (some (.int res))) (0) (0) (fun _ => False) := by
  refine Met.ofW (cc := b_Face_hasSeam) (maxL := 3) (ret := (some .boolean)) (by decide) rfl ?_
  intro p e s m args below meth c s₁ B hml hv
  obtain ⟨ha, hE, hH, hz⟩ := hv
  have C0 : CallFix p m c b_Face_hasSeam 3 s args wA R_Face := ⟨B.exec, B.bytes, hml, findClass_of_methodNamed B.named, fun w hw => atoms_spec (ws := xws y_Face_hasSeam b_Face_hasSeam 3 (some .boolean)) B.pre w (List.mem_cons_of_mem _ hw)⟩
  have hr := B.returns
  have hlocks := B.notSynchronized
  obtain ⟨R, hR⟩ : ∃ R, R = (headSpec (xws y_Face_hasSeam b_Face_hasSeam 3 (some .boolean)) { frames := 1, cells := 0, slots := 0, locals := 22 }).room := ⟨_, rfl⟩
  have hR1 : 1 ≤ R.frames := by rw [hR]; exact Nat.le_of_ble_eq_true rfl
  have hR2 : 22 ≤ R.locals := by rw [hR]; exact Nat.le_of_ble_eq_true rfl
  have hR3 : 0 ≤ R.cells := by rw [hR]; exact Nat.le_refl _
  have hR4 : 0 ≤ R.slots := by rw [hR]; exact Nat.le_refl _
  rw [← hR]
  obtain ⟨Q, hQ⟩ : ∃ Q, Q = MQ below (qP (some (.int res))) args s (0) (0) (fun _ => False) := ⟨_, rfl⟩
  rw [← hQ]
  have hS : xS G s s.heap [] := va_S.rf
  obtain ⟨ls, he, hl⟩ := x_entry m [.inr (.inl (some h0)), .inl x1] 3 (Nat.le_of_ble_eq_true rfl)
  rw [show entryFrame m args 3 = F0 m 0 ls [] by rw [ha]; exact he]
  have hl : xL ls 3 [(0, .inr (.inl (some h0))), (1, .inl x1)] := hl
  have h := hf
  unfold f_Face_hasSeam at h
  suffices hmain : ∀ (H : Heap) (locs : List Loc), xhd G vwCl w H → xS G s H locs → H.size = sz → (H = s.heap ∧ locs = []) → W p l e R s m args below meth c H locs 0 0 Q (F0 m 0 ls []) from hmain _ _ hH hS hz ⟨rfl, rfl⟩
  clear hH hS hz
  intro H locs hH hS hz hP0
  refine x_aload_n C0 hl 0 d_Face_hasSeam_0 rfl rfl ?_
  refine x_getI C0 hE hH (ci := 3) rfl i_Face 0 (by decide) kw_2_128 d_Face_hasSeam_1 h (fun v_1 h => ?_)
  refine lv_iconst (v := 3) C0.1 C0.2.1 d_Face_hasSeam_4 (by decide) ?_
  refine xj1 h (fun J_3 eJ_3 h => ?_)
  have kJ_3 : ∀ (x_2 : Int32) (ls : Array Slot), xL ls 3 [(1, .inl x1)] → J_3 x_2 = some res → W p l e R s m args below meth c H locs 0 0 Q (F0 m 19 ls [.int x_2]) := by
    intro x_2 ls hl h
    rw [eJ_3] at h
    refine x_istore_n (lv' := [(2, .inl x_2), (1, .inl x1)]) C0 hl d_Face_hasSeam_19 rfl (by decide) rfl (fun ls hl => ?_)
    refine x_iload_n C0 hl 1 d_Face_hasSeam_20 rfl rfl ?_
    refine lv_iconst (v := 0) C0.1 C0.2.1 d_Face_hasSeam_21 (by decide) ?_
    refine x_iload_n C0 hl 0 d_Face_hasSeam_22 rfl rfl ?_
    refine lv_iconst (v := 1) C0.1 C0.2.1 d_Face_hasSeam_23 (by decide) ?_
    refine lv_isub C0.1 C0.2.1 d_Face_hasSeam_24 ?_
    obtain ⟨q_4, e9, h⟩ := Option.bind_eq_some_iff.mp h
    refine x_callP (va_runSN (As := [.int x1, .int (0 : Int32), .int (x_2 - (1 : Int32))]) (rest := []) C0 (c_LM_isWithin l G w _ x1 (0 : Int32) (x_2 - (1 : Int32)) q_4 e9) (x_cnS (host := "LeafMatches") 3 C0 (hE.2.2.1 _ (List.mem_of_getElem? (i := 9) rfl)) kw_1_186 kw_1_1 kw_1_185 (by decide +kernel) (x_rm hR1 hR2 (Nat.le_of_ble_eq_true rfl) (Nat.le_of_ble_eq_true rfl))) (x_preS hE hH hS) rfl rfl hl.1 rfl (lv_room (by first | exact Nat.le_of_ble_eq_true rfl | simp only [List.map_cons, List.map_nil, List.sum_cons, List.sum_nil, va_rf_cat, x_catI, x_catL, x_catA] <;> decide)) d_Face_hasSeam_25 (x_le0 hR3 hR4)) ?_
    obtain ⟨hn9, h⟩ := x_ifs h
    cases h
    rw [hQ]
    exact x_zretP C0 hr hlocks hP0 (x_nar (fun _ => ⟨_, rfl⟩) hn9) d_Face_hasSeam_28
  refine x_icmp_ne C0 12 d_Face_hasSeam_5 (by decide) h (fun h => ?_) (fun h => ?_)
  · refine x_aload_n C0 hl 0 d_Face_hasSeam_12 rfl rfl ?_
    refine x_getR C0 hE hH (ci := 3) rfl i_Face 1 (by decide) kw_2_130 d_Face_hasSeam_13 h (fun v_5 h => ?_)
    refine x_alen C0 hE hH (t := 3) rfl d_Face_hasSeam_16 h (fun v_6 h => ?_)
    refine lv_iconst (v := 1) C0.1 C0.2.1 d_Face_hasSeam_17 (by decide) ?_
    refine lv_isub C0.1 C0.2.1 d_Face_hasSeam_18 ?_
    exact kJ_3 _ ls (x_sub hl [1] rfl) h
  · refine lv_iconst (v := 2) C0.1 C0.2.1 d_Face_hasSeam_8 (by decide) ?_
    refine x_goto C0 19 d_Face_hasSeam_9 (by decide) ?_
    exact kJ_3 _ ls (x_sub hl [1] rfl) h
theorem d_Face_differenceAt_0 : decode b_Face_differenceAt 0 = .ok (.aload_n 0, 1) := by decide +kernel
theorem d_Face_differenceAt_1 : decode b_Face_differenceAt 1 = .ok (.getfield 9, 3) := by decide +kernel
theorem d_Face_differenceAt_4 : decode b_Face_differenceAt 4 = .ok (.iconst 3, 1) := by decide +kernel
theorem d_Face_differenceAt_5 : decode b_Face_differenceAt 5 = .ok (.if_icmp .ne 9, 3) := by decide +kernel
theorem d_Face_differenceAt_8 : decode b_Face_differenceAt 8 = .ok (.iconst 2, 1) := by decide +kernel
theorem d_Face_differenceAt_9 : decode b_Face_differenceAt 9 = .ok (.iload_n 1, 1) := by decide +kernel
theorem d_Face_differenceAt_10 : decode b_Face_differenceAt 10 = .ok (.imul, 1) := by decide +kernel
theorem d_Face_differenceAt_11 : decode b_Face_differenceAt 11 = .ok (.goto 4, 3) := by decide +kernel
theorem d_Face_differenceAt_14 : decode b_Face_differenceAt 14 = .ok (.iload_n 1, 1) := by decide +kernel
theorem d_Face_differenceAt_15 : decode b_Face_differenceAt 15 = .ok (.istore_n 3, 1) := by decide +kernel
theorem d_Face_differenceAt_16 : decode b_Face_differenceAt 16 = .ok (.aload_n 0, 1) := by decide +kernel
theorem d_Face_differenceAt_17 : decode b_Face_differenceAt 17 = .ok (.getfield 17, 3) := by decide +kernel
theorem d_Face_differenceAt_20 : decode b_Face_differenceAt 20 = .ok (.iload_n 3, 1) := by decide +kernel
theorem d_Face_differenceAt_21 : decode b_Face_differenceAt 21 = .ok (.aaload, 1) := by decide +kernel
theorem d_Face_differenceAt_22 : decode b_Face_differenceAt 22 = .ok (.astore 4, 2) := by decide +kernel
theorem d_Face_differenceAt_24 : decode b_Face_differenceAt 24 = .ok (.aload_n 0, 1) := by decide +kernel
theorem d_Face_differenceAt_25 : decode b_Face_differenceAt 25 = .ok (.getfield 17, 3) := by decide +kernel
theorem d_Face_differenceAt_28 : decode b_Face_differenceAt 28 = .ok (.iload_n 3, 1) := by decide +kernel
theorem d_Face_differenceAt_29 : decode b_Face_differenceAt 29 = .ok (.iconst 1, 1) := by decide +kernel
theorem d_Face_differenceAt_30 : decode b_Face_differenceAt 30 = .ok (.iadd, 1) := by decide +kernel
theorem d_Face_differenceAt_31 : decode b_Face_differenceAt 31 = .ok (.aaload, 1) := by decide +kernel
theorem d_Face_differenceAt_32 : decode b_Face_differenceAt 32 = .ok (.astore 5, 2) := by decide +kernel
theorem d_Face_differenceAt_34 : decode b_Face_differenceAt 34 = .ok (.iconst 0, 1) := by decide +kernel
theorem d_Face_differenceAt_35 : decode b_Face_differenceAt 35 = .ok (.istore 6, 2) := by decide +kernel
theorem d_Face_differenceAt_37 : decode b_Face_differenceAt 37 = .ok (.iconst 0, 1) := by decide +kernel
theorem d_Face_differenceAt_38 : decode b_Face_differenceAt 38 = .ok (.istore 7, 2) := by decide +kernel
theorem d_Face_differenceAt_40 : decode b_Face_differenceAt 40 = .ok (.iload 7, 2) := by decide +kernel
theorem d_Face_differenceAt_42 : decode b_Face_differenceAt 42 = .ok (.aload 4, 2) := by decide +kernel
theorem d_Face_differenceAt_44 : decode b_Face_differenceAt 44 = .ok (.getfield 24, 3) := by decide +kernel
theorem d_Face_differenceAt_47 : decode b_Face_differenceAt 47 = .ok (.getfield 55, 3) := by decide +kernel
theorem d_Face_differenceAt_50 : decode b_Face_differenceAt 50 = .ok (.if_icmp .ge 65, 3) := by decide +kernel
theorem d_Face_differenceAt_53 : decode b_Face_differenceAt 53 = .ok (.aload 4, 2) := by decide +kernel
theorem d_Face_differenceAt_55 : decode b_Face_differenceAt 55 = .ok (.aload 4, 2) := by decide +kernel
theorem d_Face_differenceAt_57 : decode b_Face_differenceAt 57 = .ok (.getfield 24, 3) := by decide +kernel
theorem d_Face_differenceAt_60 : decode b_Face_differenceAt 60 = .ok (.getfield 58, 3) := by decide +kernel
theorem d_Face_differenceAt_63 : decode b_Face_differenceAt 63 = .ok (.iconst 1, 1) := by decide +kernel
theorem d_Face_differenceAt_64 : decode b_Face_differenceAt 64 = .ok (.isub, 1) := by decide +kernel
theorem d_Face_differenceAt_65 : decode b_Face_differenceAt 65 = .ok (.iload 7, 2) := by decide +kernel
theorem d_Face_differenceAt_67 : decode b_Face_differenceAt 67 = .ok (.invokevirtual 61, 3) := by decide +kernel
theorem d_Face_differenceAt_70 : decode b_Face_differenceAt 70 = .ok (.istore 8, 2) := by decide +kernel
theorem d_Face_differenceAt_72 : decode b_Face_differenceAt 72 = .ok (.aload 5, 2) := by decide +kernel
theorem d_Face_differenceAt_74 : decode b_Face_differenceAt 74 = .ok (.iconst 0, 1) := by decide +kernel
theorem d_Face_differenceAt_75 : decode b_Face_differenceAt 75 = .ok (.iload 7, 2) := by decide +kernel
theorem d_Face_differenceAt_77 : decode b_Face_differenceAt 77 = .ok (.iload_n 2, 1) := by decide +kernel
theorem d_Face_differenceAt_78 : decode b_Face_differenceAt 78 = .ok (.isub, 1) := by decide +kernel
theorem d_Face_differenceAt_79 : decode b_Face_differenceAt 79 = .ok (.invokevirtual 61, 3) := by decide +kernel
theorem d_Face_differenceAt_82 : decode b_Face_differenceAt 82 = .ok (.istore 9, 2) := by decide +kernel
theorem d_Face_differenceAt_84 : decode b_Face_differenceAt 84 = .ok (.iload 6, 2) := by decide +kernel
theorem d_Face_differenceAt_86 : decode b_Face_differenceAt 86 = .ok (.iload 9, 2) := by decide +kernel
theorem d_Face_differenceAt_88 : decode b_Face_differenceAt 88 = .ok (.iconst (-1), 1) := by decide +kernel
theorem d_Face_differenceAt_89 : decode b_Face_differenceAt 89 = .ok (.if_icmp .ne 9, 3) := by decide +kernel
theorem d_Face_differenceAt_92 : decode b_Face_differenceAt 92 = .ok (.sipush 255, 3) := by decide +kernel
theorem d_Face_differenceAt_95 : decode b_Face_differenceAt 95 = .ok (.goto 11, 3) := by decide +kernel
theorem d_Face_differenceAt_98 : decode b_Face_differenceAt 98 = .ok (.iload 8, 2) := by decide +kernel
theorem d_Face_differenceAt_100 : decode b_Face_differenceAt 100 = .ok (.iload 9, 2) := by decide +kernel
theorem d_Face_differenceAt_102 : decode b_Face_differenceAt 102 = .ok (.isub, 1) := by decide +kernel
theorem d_Face_differenceAt_103 : decode b_Face_differenceAt 103 = .ok (.invokestatic 65, 3) := by decide +kernel
theorem d_Face_differenceAt_106 : decode b_Face_differenceAt 106 = .ok (.iadd, 1) := by decide +kernel
theorem d_Face_differenceAt_107 : decode b_Face_differenceAt 107 = .ok (.istore 6, 2) := by decide +kernel
theorem d_Face_differenceAt_109 : decode b_Face_differenceAt 109 = .ok (.iinc 7 1, 3) := by decide +kernel
theorem d_Face_differenceAt_112 : decode b_Face_differenceAt 112 = .ok (.goto (-72), 3) := by decide +kernel
theorem d_Face_differenceAt_115 : decode b_Face_differenceAt 115 = .ok (.iload 6, 2) := by decide +kernel
theorem d_Face_differenceAt_117 : decode b_Face_differenceAt 117 = .ok (.ireturn, 1) := by decide +kernel
def f_Face_differenceAt_L40 (w : Mp) (x2 : Int32) (r4 : Option Nat) (r5 : Option Nat) : Nat → Int32 → Int32 → Option (Nat × Int32 × Int32)
  | 0, _, _ => none
  | n + 1, x6, x7 => (gR w r4 2 0).bind fun v_8 => (gI w v_8 1 4).bind fun v_9 => if v_9 ≤ x7 then (some (0, x6, x7)) else ((gR w r4 2 0).bind fun v_10 => (gI w v_10 1 3).bind fun v_11 => (xo w r4 2).bind fun b_13 => (f_Piece_greyShown w b_13 (v_11 - (1 : Int32)) x7).bind fun q_12 => (xo w r5 2).bind fun b_15 => (f_Piece_greyShown w b_15 (0 : Int32) (x7 - x2)).bind fun q_14 => if q_14 = (-1 : Int32) then (f_Face_differenceAt_L40 w x2 r4 r5 n (x6 + (255 : Int32)) (x7 + 1)) else (f_Face_differenceAt_L40 w x2 r4 r5 n (x6 + (if 0 ≤ (q_12 - q_14) then (q_12 - q_14) else 0 - (q_12 - q_14))) (x7 + 1)))
set_option maxHeartbeats 4000000 in
set_option maxRecDepth 100000 in
theorem w_Face_differenceAt_L40 {p : Program} {l : Launch} {e : Env} {R : Room} {s : State} {m : MethodId} {args : Array Value} {below : List Frame} {meth : Method} {c : Code} {Q : State → Prop} {cells slots sz : Nat} {G : Gx} {x2 : Int32} {r4 : Option Nat} {r5 : Option Nat} (C0 : CallFix p m c b_Face_differenceAt 10 s args wA R_Face) (hE : xE G vwCl xaty s) (hR1 : 3 ≤ R.frames) (hR2 : 68 ≤ R.locals) (hR3 : cells ≤ R.cells) (hR4 : slots ≤ R.slots) {w : Mp} {H : Heap} {locs : List Loc} (hH : xhd G vwCl w H) (hS : xS G s H locs) (hz : H.size = sz) : ∀ (n : Nat) (x6 : Int32) (x7 : Int32) (q : Nat × Int32 × Int32) (ls : Array Slot), xL ls 10 [(2, .inl x2), (4, .inr (.inl r4)), (5, .inr (.inl r5)), (6, .inl x6), (7, .inl x7)] → f_Face_differenceAt_L40 w x2 r4 r5 n x6 x7 = some q → (∀ (ls : Array Slot), xL ls 10 [(2, .inl x2), (4, .inr (.inl r4)), (5, .inr (.inl r5)), (6, .inl q.2.1), (7, .inl q.2.2)] → W p l e R s m args below meth c H locs cells slots Q (F0 m 115 ls [])) → W p l e R s m args below meth c H locs cells slots Q (F0 m 40 ls []) := by
  intro n
  induction n with
  | zero => intro _ _ q ls hl h; cases h
  | succ n ih =>
    intro x6 x7 q ls hl h K
    rw [f_Face_differenceAt_L40] at h
    refine x_iload C0 hl 4 d_Face_differenceAt_40 rfl ?_
    refine x_aload C0 hl 1 d_Face_differenceAt_42 rfl ?_
    refine x_getR C0 hE hH (ci := 2) rfl i_Piece 0 (by decide) kw_2_105 d_Face_differenceAt_44 h (fun v_8 h => ?_)
    refine x_getI C0 hE hH (ci := 1) rfl i_Leaf 4 (by decide) kw_1_222 d_Face_differenceAt_47 h (fun v_9 h => ?_)
    refine x_icmp_ge C0 115 d_Face_differenceAt_50 (by decide) h (fun h => ?_) (fun h => ?_)
    · cases h
      exact K ls (x_sub hl [0, 1, 2, 3, 4] rfl)
    · refine x_aload C0 hl 1 d_Face_differenceAt_53 rfl ?_
      refine x_aload C0 hl 1 d_Face_differenceAt_55 rfl ?_
      refine x_getR C0 hE hH (ci := 2) rfl i_Piece 0 (by decide) kw_2_105 d_Face_differenceAt_57 h (fun v_10 h => ?_)
      refine x_getI C0 hE hH (ci := 1) rfl i_Leaf 3 (by decide) kw_1_218 d_Face_differenceAt_60 h (fun v_11 h => ?_)
      refine lv_iconst (v := 1) C0.1 C0.2.1 d_Face_differenceAt_63 (by decide) ?_
      refine lv_isub C0.1 C0.2.1 d_Face_differenceAt_64 ?_
      refine x_iload C0 hl 4 d_Face_differenceAt_65 rfl ?_
      obtain ⟨b_13, e9, h⟩ := Option.bind_eq_some_iff.mp h
      obtain ⟨e8, fs9, hb9⟩ := xo_inv e9
      obtain ⟨q_12, e9, h⟩ := Option.bind_eq_some_iff.mp h
      refine x_callP (va_runV (As := [.int (v_11 - (1 : Int32)), .int x7]) (rest := []) C0 (c_Piece_greyShown l G w _ b_13 (v_11 - (1 : Int32)) x7 q_12 e9) (x_cwV 2 C0 kw_2_188 kw_2_191 kw_1_12 kw_2_189 kw_2_190 (by decide +kernel) (x_rm hR1 hR2 (Nat.le_of_ble_eq_true rfl) (Nat.le_of_ble_eq_true rfl))) (x_preV hE hH hS (ci := 2) rfl hb9) rfl rfl hl.1 (by rw [e8]; rfl) (lv_room (by first | exact Nat.le_of_ble_eq_true rfl | simp only [List.map_cons, List.map_nil, List.sum_cons, List.sum_nil, va_rf_cat, x_catI, x_catL, x_catA] <;> decide)) d_Face_differenceAt_67 (x_le0 hR3 hR4)) ?_
      refine x_istore (lv' := [(8, .inl q_12), (2, .inl x2), (4, .inr (.inl r4)), (5, .inr (.inl r5)), (6, .inl x6), (7, .inl x7)]) C0 hl d_Face_differenceAt_70 (by decide) rfl (fun ls hl => ?_)
      refine x_aload C0 hl 3 d_Face_differenceAt_72 rfl ?_
      refine lv_iconst (v := 0) C0.1 C0.2.1 d_Face_differenceAt_74 (by decide) ?_
      refine x_iload C0 hl 5 d_Face_differenceAt_75 rfl ?_
      refine x_iload_n C0 hl 1 d_Face_differenceAt_77 rfl rfl ?_
      refine lv_isub C0.1 C0.2.1 d_Face_differenceAt_78 ?_
      obtain ⟨b_15, e9, h⟩ := Option.bind_eq_some_iff.mp h
      obtain ⟨e8, fs9, hb9⟩ := xo_inv e9
      obtain ⟨q_14, e9, h⟩ := Option.bind_eq_some_iff.mp h
      refine x_callP (va_runV (As := [.int (0 : Int32), .int (x7 - x2)]) (rest := []) C0 (c_Piece_greyShown l G w _ b_15 (0 : Int32) (x7 - x2) q_14 e9) (x_cwV 2 C0 kw_2_188 kw_2_191 kw_1_12 kw_2_189 kw_2_190 (by decide +kernel) (x_rm hR1 hR2 (Nat.le_of_ble_eq_true rfl) (Nat.le_of_ble_eq_true rfl))) (x_preV hE hH hS (ci := 2) rfl hb9) rfl rfl hl.1 (by rw [e8]; rfl) (lv_room (by first | exact Nat.le_of_ble_eq_true rfl | simp only [List.map_cons, List.map_nil, List.sum_cons, List.sum_nil, va_rf_cat, x_catI, x_catL, x_catA] <;> decide)) d_Face_differenceAt_79 (x_le0 hR3 hR4)) ?_
      refine x_istore (lv' := [(9, .inl q_14), (8, .inl q_12), (2, .inl x2), (4, .inr (.inl r4)), (5, .inr (.inl r5)), (6, .inl x6), (7, .inl x7)]) C0 hl d_Face_differenceAt_82 (by decide) rfl (fun ls hl => ?_)
      refine x_iload C0 hl 5 d_Face_differenceAt_84 rfl ?_
      refine x_iload C0 hl 0 d_Face_differenceAt_86 rfl ?_
      refine lv_iconst (v := -1) C0.1 C0.2.1 d_Face_differenceAt_88 (by decide) ?_
      refine x_icmp_ne C0 98 d_Face_differenceAt_89 (by decide) h (fun h => ?_) (fun h => ?_)
      · refine x_iload C0 hl 1 d_Face_differenceAt_98 rfl ?_
        refine x_iload C0 hl 0 d_Face_differenceAt_100 rfl ?_
        refine lv_isub C0.1 C0.2.1 d_Face_differenceAt_102 ?_
        refine va_mabs C0.1 C0.2.1 (C0.2.2.1.trans hl.1.symm) C0.2.2.2.1 (C0.2.2.2.2 _ kw_2_197) (C0.2.2.2.2 _ kw_2_198) (C0.2.2.2.2 _ kw_1_13) (C0.2.2.2.2 _ kw_2_199) (Nat.le_trans (by decide) hR1) (Nat.le_trans (by first | exact Nat.le_of_ble_eq_true rfl | simp only [List.map_cons, List.map_nil, List.sum_cons, List.sum_nil, va_rf_cat, x_catI, x_catL, x_catA] <;> decide) hR2) hR3 hR4 d_Face_differenceAt_103 ?_
        refine lv_iadd C0.1 C0.2.1 d_Face_differenceAt_106 ?_
        refine x_istore (lv' := [(6, .inl (x6 + (if 0 ≤ (q_12 - q_14) then (q_12 - q_14) else 0 - (q_12 - q_14)))), (9, .inl q_14), (8, .inl q_12), (2, .inl x2), (4, .inr (.inl r4)), (5, .inr (.inl r5)), (7, .inl x7)]) C0 hl d_Face_differenceAt_107 (by decide) rfl (fun ls hl => ?_)
        refine x_iinc (v := 1) (lv' := [(7, .inl (x7 + 1)), (6, .inl (x6 + (if 0 ≤ (q_12 - q_14) then (q_12 - q_14) else 0 - (q_12 - q_14)))), (9, .inl q_14), (8, .inl q_12), (2, .inl x2), (4, .inr (.inl r4)), (5, .inr (.inl r5))]) C0 hl 6 d_Face_differenceAt_109 rfl (by decide) (by decide) rfl (fun ls hl => ?_)
        refine x_goto C0 40 d_Face_differenceAt_112 (by decide) ?_
        exact ih _ _ q ls (x_sub hl [4, 5, 6, 1, 0] rfl) h K
      · refine lv_sipush (v := 255) C0.1 C0.2.1 d_Face_differenceAt_92 (by decide) ?_
        refine x_goto C0 106 d_Face_differenceAt_95 (by decide) ?_
        refine lv_iadd C0.1 C0.2.1 d_Face_differenceAt_106 ?_
        refine x_istore (lv' := [(6, .inl (x6 + (255 : Int32))), (9, .inl q_14), (8, .inl q_12), (2, .inl x2), (4, .inr (.inl r4)), (5, .inr (.inl r5)), (7, .inl x7)]) C0 hl d_Face_differenceAt_107 (by decide) rfl (fun ls hl => ?_)
        refine x_iinc (v := 1) (lv' := [(7, .inl (x7 + 1)), (6, .inl (x6 + (255 : Int32))), (9, .inl q_14), (8, .inl q_12), (2, .inl x2), (4, .inr (.inl r4)), (5, .inr (.inl r5))]) C0 hl 6 d_Face_differenceAt_109 rfl (by decide) (by decide) rfl (fun ls hl => ?_)
        refine x_goto C0 40 d_Face_differenceAt_112 (by decide) ?_
        exact ih _ _ q ls (x_sub hl [4, 5, 6, 1, 0] rfl) h K
def f_Face_differenceAt (w : Mp) (h0 : Nat) (x1 : Int32) (x2 : Int32) : Option (Int32) := (gI w (some h0) 3 0).bind fun v_1 => xJ1 (fun (x_2 : Int32) => (gR w (some h0) 3 1).bind fun v_4 => (aR w v_4 3 x_2).bind fun v_5 => (gR w (some h0) 3 1).bind fun v_6 => (aR w v_6 3 (x_2 + (1 : Int32))).bind fun v_7 => (f_Face_differenceAt_L40 w x2 v_5 v_7 100000 (0 : Int32) (0 : Int32)).bind fun q_16 => some q_16.2.1) fun J_3 => if v_1 = (3 : Int32) then (J_3 ((2 : Int32) * x1)) else (J_3 x1)
set_option maxHeartbeats 4000000 in
set_option maxRecDepth 100000 in
theorem c_Face_differenceAt (l : Launch) (G : Gx) (w : Mp) (sz : Nat) (h0 : Nat) (x1 : Int32) (x2 : Int32) (res : Int32) (hf : f_Face_differenceAt w h0 x1 x2 = some res) : Met l y_Face_differenceAt (xws y_Face_differenceAt b_Face_differenceAt 10 (some .int)) { frames := 3, cells := 0, slots := 0, locals := 68 } (xPc G vwCl xaty w sz [va_rf (some h0), .int x1, .int x2]) (qP (some (.int res))) (0) (0) (fun _ => False) := by
  refine Met.ofW (cc := b_Face_differenceAt) (maxL := 10) (ret := (some .int)) (by decide) rfl ?_
  intro p e s m args below meth c s₁ B hml hv
  obtain ⟨ha, hE, hH, hz⟩ := hv
  have C0 : CallFix p m c b_Face_differenceAt 10 s args wA R_Face := ⟨B.exec, B.bytes, hml, findClass_of_methodNamed B.named, fun w hw => atoms_spec (ws := xws y_Face_differenceAt b_Face_differenceAt 10 (some .int)) B.pre w (List.mem_cons_of_mem _ hw)⟩
  have hr := B.returns
  have hlocks := B.notSynchronized
  obtain ⟨R, hR⟩ : ∃ R, R = (headSpec (xws y_Face_differenceAt b_Face_differenceAt 10 (some .int)) { frames := 3, cells := 0, slots := 0, locals := 68 }).room := ⟨_, rfl⟩
  have hR1 : 3 ≤ R.frames := by rw [hR]; exact Nat.le_of_ble_eq_true rfl
  have hR2 : 68 ≤ R.locals := by rw [hR]; exact Nat.le_of_ble_eq_true rfl
  have hR3 : 0 ≤ R.cells := by rw [hR]; exact Nat.le_refl _
  have hR4 : 0 ≤ R.slots := by rw [hR]; exact Nat.le_refl _
  rw [← hR]
  obtain ⟨Q, hQ⟩ : ∃ Q, Q = MQ below (qP (some (.int res))) args s (0) (0) (fun _ => False) := ⟨_, rfl⟩
  rw [← hQ]
  have hS : xS G s s.heap [] := va_S.rf
  obtain ⟨ls, he, hl⟩ := x_entry m [.inr (.inl (some h0)), .inl x1, .inl x2] 10 (Nat.le_of_ble_eq_true rfl)
  rw [show entryFrame m args 10 = F0 m 0 ls [] by rw [ha]; exact he]
  have hl : xL ls 10 [(0, .inr (.inl (some h0))), (1, .inl x1), (2, .inl x2)] := hl
  have h := hf
  unfold f_Face_differenceAt at h
  suffices hmain : ∀ (H : Heap) (locs : List Loc), xhd G vwCl w H → xS G s H locs → H.size = sz → (H = s.heap ∧ locs = []) → W p l e R s m args below meth c H locs 0 0 Q (F0 m 0 ls []) from hmain _ _ hH hS hz ⟨rfl, rfl⟩
  clear hH hS hz
  intro H locs hH hS hz hP0
  refine x_aload_n C0 hl 0 d_Face_differenceAt_0 rfl rfl ?_
  refine x_getI C0 hE hH (ci := 3) rfl i_Face 0 (by decide) kw_2_128 d_Face_differenceAt_1 h (fun v_1 h => ?_)
  refine lv_iconst (v := 3) C0.1 C0.2.1 d_Face_differenceAt_4 (by decide) ?_
  refine xj1 h (fun J_3 eJ_3 h => ?_)
  have kJ_3 : ∀ (x_2 : Int32) (ls : Array Slot), xL ls 10 [(0, .inr (.inl (some h0))), (2, .inl x2)] → J_3 x_2 = some res → W p l e R s m args below meth c H locs 0 0 Q (F0 m 15 ls [.int x_2]) := by
    intro x_2 ls hl h
    rw [eJ_3] at h
    refine x_istore_n (lv' := [(3, .inl x_2), (0, .inr (.inl (some h0))), (2, .inl x2)]) C0 hl d_Face_differenceAt_15 rfl (by decide) rfl (fun ls hl => ?_)
    refine x_aload_n C0 hl 1 d_Face_differenceAt_16 rfl rfl ?_
    refine x_getR C0 hE hH (ci := 3) rfl i_Face 1 (by decide) kw_2_130 d_Face_differenceAt_17 h (fun v_4 h => ?_)
    refine x_iload_n C0 hl 0 d_Face_differenceAt_20 rfl rfl ?_
    refine x_aald C0 hE hH (t := 3) rfl d_Face_differenceAt_21 h (fun v_5 h => ?_)
    refine x_astore (lv' := [(4, .inr (.inl v_5)), (3, .inl x_2), (0, .inr (.inl (some h0))), (2, .inl x2)]) C0 hl d_Face_differenceAt_22 (by decide) rfl (fun ls hl => ?_)
    refine x_aload_n C0 hl 2 d_Face_differenceAt_24 rfl rfl ?_
    refine x_getR C0 hE hH (ci := 3) rfl i_Face 1 (by decide) kw_2_130 d_Face_differenceAt_25 h (fun v_6 h => ?_)
    refine x_iload_n C0 hl 1 d_Face_differenceAt_28 rfl rfl ?_
    refine lv_iconst (v := 1) C0.1 C0.2.1 d_Face_differenceAt_29 (by decide) ?_
    refine lv_iadd C0.1 C0.2.1 d_Face_differenceAt_30 ?_
    refine x_aald C0 hE hH (t := 3) rfl d_Face_differenceAt_31 h (fun v_7 h => ?_)
    refine x_astore (lv' := [(5, .inr (.inl v_7)), (4, .inr (.inl v_5)), (3, .inl x_2), (0, .inr (.inl (some h0))), (2, .inl x2)]) C0 hl d_Face_differenceAt_32 (by decide) rfl (fun ls hl => ?_)
    refine lv_iconst (v := 0) C0.1 C0.2.1 d_Face_differenceAt_34 (by decide) ?_
    refine x_istore (lv' := [(6, .inl (0 : Int32)), (5, .inr (.inl v_7)), (4, .inr (.inl v_5)), (3, .inl x_2), (0, .inr (.inl (some h0))), (2, .inl x2)]) C0 hl d_Face_differenceAt_35 (by decide) rfl (fun ls hl => ?_)
    refine lv_iconst (v := 0) C0.1 C0.2.1 d_Face_differenceAt_37 (by decide) ?_
    refine x_istore (lv' := [(7, .inl (0 : Int32)), (6, .inl (0 : Int32)), (5, .inr (.inl v_7)), (4, .inr (.inl v_5)), (3, .inl x_2), (0, .inr (.inl (some h0))), (2, .inl x2)]) C0 hl d_Face_differenceAt_38 (by decide) rfl (fun ls hl => ?_)
    obtain ⟨q_16, e9, h⟩ := Option.bind_eq_some_iff.mp h
    refine w_Face_differenceAt_L40 C0 hE hR1 hR2 hR3 hR4 hH hS hz 100000 _ _ q_16 ls (x_sub hl [6, 3, 2, 1, 0] rfl) e9 (fun ls hl => ?_)
    refine x_iload C0 hl 3 d_Face_differenceAt_115 rfl ?_
    cases h
    rw [hQ]
    exact x_iretP C0 hr hlocks hP0 d_Face_differenceAt_117
  refine x_icmp_ne C0 14 d_Face_differenceAt_5 (by decide) h (fun h => ?_) (fun h => ?_)
  · refine x_iload_n C0 hl 1 d_Face_differenceAt_14 rfl rfl ?_
    exact kJ_3 _ ls (x_sub hl [0, 2] rfl) h
  · refine lv_iconst (v := 2) C0.1 C0.2.1 d_Face_differenceAt_8 (by decide) ?_
    refine x_iload_n C0 hl 1 d_Face_differenceAt_9 rfl rfl ?_
    refine lv_imul C0.1 C0.2.1 d_Face_differenceAt_10 ?_
    refine x_goto C0 15 d_Face_differenceAt_11 (by decide) ?_
    exact kJ_3 _ ls (x_sub hl [0, 2] rfl) h
theorem d_Face_bestShift_0 : decode b_Face_bestShift 0 = .ok (.getstatic 70, 3) := by decide +kernel
theorem d_Face_bestShift_3 : decode b_Face_bestShift 3 = .ok (.iconst 0, 1) := by decide +kernel
theorem d_Face_bestShift_4 : decode b_Face_bestShift 4 = .ok (.iaload, 1) := by decide +kernel
theorem d_Face_bestShift_5 : decode b_Face_bestShift 5 = .ok (.istore_n 2, 1) := by decide +kernel
theorem d_Face_bestShift_6 : decode b_Face_bestShift 6 = .ok (.aload_n 0, 1) := by decide +kernel
theorem d_Face_bestShift_7 : decode b_Face_bestShift 7 = .ok (.iload_n 1, 1) := by decide +kernel
theorem d_Face_bestShift_8 : decode b_Face_bestShift 8 = .ok (.iload_n 2, 1) := by decide +kernel
theorem d_Face_bestShift_9 : decode b_Face_bestShift 9 = .ok (.invokevirtual 74, 3) := by decide +kernel
theorem d_Face_bestShift_12 : decode b_Face_bestShift 12 = .ok (.istore_n 3, 1) := by decide +kernel
theorem d_Face_bestShift_13 : decode b_Face_bestShift 13 = .ok (.iconst 1, 1) := by decide +kernel
theorem d_Face_bestShift_14 : decode b_Face_bestShift 14 = .ok (.istore 4, 2) := by decide +kernel
theorem d_Face_bestShift_16 : decode b_Face_bestShift 16 = .ok (.iload 4, 2) := by decide +kernel
theorem d_Face_bestShift_18 : decode b_Face_bestShift 18 = .ok (.getstatic 70, 3) := by decide +kernel
theorem d_Face_bestShift_21 : decode b_Face_bestShift 21 = .ok (.arraylength, 1) := by decide +kernel
theorem d_Face_bestShift_22 : decode b_Face_bestShift 22 = .ok (.if_icmp .ge 38, 3) := by decide +kernel
theorem d_Face_bestShift_25 : decode b_Face_bestShift 25 = .ok (.aload_n 0, 1) := by decide +kernel
theorem d_Face_bestShift_26 : decode b_Face_bestShift 26 = .ok (.iload_n 1, 1) := by decide +kernel
theorem d_Face_bestShift_27 : decode b_Face_bestShift 27 = .ok (.getstatic 70, 3) := by decide +kernel
theorem d_Face_bestShift_30 : decode b_Face_bestShift 30 = .ok (.iload 4, 2) := by decide +kernel
theorem d_Face_bestShift_32 : decode b_Face_bestShift 32 = .ok (.iaload, 1) := by decide +kernel
theorem d_Face_bestShift_33 : decode b_Face_bestShift 33 = .ok (.invokevirtual 74, 3) := by decide +kernel
theorem d_Face_bestShift_36 : decode b_Face_bestShift 36 = .ok (.istore 5, 2) := by decide +kernel
theorem d_Face_bestShift_38 : decode b_Face_bestShift 38 = .ok (.iload 5, 2) := by decide +kernel
theorem d_Face_bestShift_40 : decode b_Face_bestShift 40 = .ok (.iload_n 3, 1) := by decide +kernel
theorem d_Face_bestShift_41 : decode b_Face_bestShift 41 = .ok (.if_icmp .ge 13, 3) := by decide +kernel
theorem d_Face_bestShift_44 : decode b_Face_bestShift 44 = .ok (.iload 5, 2) := by decide +kernel
theorem d_Face_bestShift_46 : decode b_Face_bestShift 46 = .ok (.istore_n 3, 1) := by decide +kernel
theorem d_Face_bestShift_47 : decode b_Face_bestShift 47 = .ok (.getstatic 70, 3) := by decide +kernel
theorem d_Face_bestShift_50 : decode b_Face_bestShift 50 = .ok (.iload 4, 2) := by decide +kernel
theorem d_Face_bestShift_52 : decode b_Face_bestShift 52 = .ok (.iaload, 1) := by decide +kernel
theorem d_Face_bestShift_53 : decode b_Face_bestShift 53 = .ok (.istore_n 2, 1) := by decide +kernel
theorem d_Face_bestShift_54 : decode b_Face_bestShift 54 = .ok (.iinc 4 1, 3) := by decide +kernel
theorem d_Face_bestShift_57 : decode b_Face_bestShift 57 = .ok (.goto (-41), 3) := by decide +kernel
theorem d_Face_bestShift_60 : decode b_Face_bestShift 60 = .ok (.iload_n 2, 1) := by decide +kernel
theorem d_Face_bestShift_61 : decode b_Face_bestShift 61 = .ok (.ireturn, 1) := by decide +kernel
def f_Face_bestShift_L16 (w : Mp) (h0 : Nat) (x1 : Int32) : Nat → Int32 → Int32 → Int32 → Option (Nat × Int32 × Int32 × Int32)
  | 0, _, _, _ => none
  | n + 1, x2, x3, x4 => if (7 : Int32) ≤ x4 then (some (0, x2, x3, x4)) else ((xtab x4).bind fun v_4 => (xo w (some h0) 3).bind fun b_6 => (f_Face_differenceAt w b_6 x1 v_4).bind fun q_5 => if x3 ≤ q_5 then (f_Face_bestShift_L16 w h0 x1 n x2 x3 (x4 + 1)) else ((xtab x4).bind fun v_7 => f_Face_bestShift_L16 w h0 x1 n v_7 q_5 (x4 + 1)))
set_option maxHeartbeats 4000000 in
set_option maxRecDepth 100000 in
theorem w_Face_bestShift_L16 {p : Program} {l : Launch} {e : Env} {R : Room} {s : State} {m : MethodId} {args : Array Value} {below : List Frame} {meth : Method} {c : Code} {Q : State → Prop} {cells slots sz : Nat} {G : Gx} {h0 : Nat} {x1 : Int32} (C0 : CallFix p m c b_Face_bestShift 6 s args wA R_Face) (hE : xE G vwCl xaty s) (hR1 : 4 ≤ R.frames) (hR2 : 97 ≤ R.locals) (hR3 : cells ≤ R.cells) (hR4 : slots ≤ R.slots) {w : Mp} {H : Heap} {locs : List Loc} (hH : xhd G vwCl w H) (hS : xS G s H locs) (hz : H.size = sz) : ∀ (n : Nat) (x2 : Int32) (x3 : Int32) (x4 : Int32) (q : Nat × Int32 × Int32 × Int32) (ls : Array Slot), xL ls 6 [(0, .inr (.inl (some h0))), (1, .inl x1), (2, .inl x2), (3, .inl x3), (4, .inl x4)] → f_Face_bestShift_L16 w h0 x1 n x2 x3 x4 = some q → (∀ (ls : Array Slot), xL ls 6 [(0, .inr (.inl (some h0))), (1, .inl x1), (2, .inl q.2.1), (3, .inl q.2.2.1), (4, .inl q.2.2.2)] → W p l e R s m args below meth c H locs cells slots Q (F0 m 60 ls [])) → W p l e R s m args below meth c H locs cells slots Q (F0 m 16 ls []) := by
  intro n
  induction n with
  | zero => intro _ _ _ q ls hl h; cases h
  | succ n ih =>
    intro x2 x3 x4 q ls hl h K
    rw [f_Face_bestShift_L16] at h
    refine x_iload C0 hl 4 d_Face_bestShift_16 rfl ?_
    refine x_shifts C0 hE hS (List.mem_of_getElem? (i := 10) rfl) d_Face_bestShift_18 ?_
    refine x_tlen C0 hE hS d_Face_bestShift_21 ?_
    refine x_icmp_ge C0 60 d_Face_bestShift_22 (by decide) h (fun h => ?_) (fun h => ?_)
    · cases h
      exact K ls (x_sub hl [0, 1, 2, 3, 4] rfl)
    · refine x_aload_n C0 hl 0 d_Face_bestShift_25 rfl rfl ?_
      refine x_iload_n C0 hl 1 d_Face_bestShift_26 rfl rfl ?_
      refine x_shifts C0 hE hS (List.mem_of_getElem? (i := 10) rfl) d_Face_bestShift_27 ?_
      refine x_iload C0 hl 4 d_Face_bestShift_30 rfl ?_
      refine x_tald C0 hE hS d_Face_bestShift_32 h (fun v_4 h => ?_)
      obtain ⟨b_6, e9, h⟩ := Option.bind_eq_some_iff.mp h
      obtain ⟨e8, fs9, hb9⟩ := xo_inv e9
      obtain ⟨q_5, e9, h⟩ := Option.bind_eq_some_iff.mp h
      refine x_callP (va_runV (As := [.int x1, .int v_4]) (rest := []) C0 (c_Face_differenceAt l G w _ b_6 x1 v_4 q_5 e9) (x_cwV 2 C0 kw_2_184 kw_2_187 kw_1_11 kw_2_185 kw_2_186 (by decide +kernel) (x_rm hR1 hR2 (Nat.le_of_ble_eq_true rfl) (Nat.le_of_ble_eq_true rfl))) (x_preV hE hH hS (ci := 3) rfl hb9) rfl rfl hl.1 (by rw [e8]; rfl) (lv_room (by first | exact Nat.le_of_ble_eq_true rfl | simp only [List.map_cons, List.map_nil, List.sum_cons, List.sum_nil, va_rf_cat, x_catI, x_catL, x_catA] <;> decide)) d_Face_bestShift_33 (x_le0 hR3 hR4)) ?_
      refine x_istore (lv' := [(5, .inl q_5), (0, .inr (.inl (some h0))), (1, .inl x1), (2, .inl x2), (3, .inl x3), (4, .inl x4)]) C0 hl d_Face_bestShift_36 (by decide) rfl (fun ls hl => ?_)
      refine x_iload C0 hl 0 d_Face_bestShift_38 rfl ?_
      refine x_iload_n C0 hl 4 d_Face_bestShift_40 rfl rfl ?_
      refine x_icmp_ge C0 54 d_Face_bestShift_41 (by decide) h (fun h => ?_) (fun h => ?_)
      · refine x_iinc (v := 1) (lv' := [(4, .inl (x4 + 1)), (5, .inl q_5), (0, .inr (.inl (some h0))), (1, .inl x1), (2, .inl x2), (3, .inl x3)]) C0 hl 5 d_Face_bestShift_54 rfl (by decide) (by decide) rfl (fun ls hl => ?_)
        refine x_goto C0 16 d_Face_bestShift_57 (by decide) ?_
        exact ih _ _ _ q ls (x_sub hl [2, 3, 4, 5, 0] rfl) h K
      · refine x_iload C0 hl 0 d_Face_bestShift_44 rfl ?_
        refine x_istore_n (lv' := [(3, .inl q_5), (5, .inl q_5), (0, .inr (.inl (some h0))), (1, .inl x1), (2, .inl x2), (4, .inl x4)]) C0 hl d_Face_bestShift_46 rfl (by decide) rfl (fun ls hl => ?_)
        refine x_shifts C0 hE hS (List.mem_of_getElem? (i := 10) rfl) d_Face_bestShift_47 ?_
        refine x_iload C0 hl 5 d_Face_bestShift_50 rfl ?_
        refine x_tald C0 hE hS d_Face_bestShift_52 h (fun v_7 h => ?_)
        refine x_istore_n (lv' := [(2, .inl v_7), (3, .inl q_5), (5, .inl q_5), (0, .inr (.inl (some h0))), (1, .inl x1), (4, .inl x4)]) C0 hl d_Face_bestShift_53 rfl (by decide) rfl (fun ls hl => ?_)
        refine x_iinc (v := 1) (lv' := [(4, .inl (x4 + 1)), (2, .inl v_7), (3, .inl q_5), (5, .inl q_5), (0, .inr (.inl (some h0))), (1, .inl x1)]) C0 hl 5 d_Face_bestShift_54 rfl (by decide) (by decide) rfl (fun ls hl => ?_)
        refine x_goto C0 16 d_Face_bestShift_57 (by decide) ?_
        exact ih _ _ _ q ls (x_sub hl [4, 5, 1, 2, 0] rfl) h K
def f_Face_bestShift (w : Mp) (h0 : Nat) (x1 : Int32) : Option (Int32) := (xtab (0 : Int32)).bind fun v_1 => (xo w (some h0) 3).bind fun b_3 => (f_Face_differenceAt w b_3 x1 v_1).bind fun q_2 => (f_Face_bestShift_L16 w h0 x1 100000 v_1 q_2 (1 : Int32)).bind fun q_8 => some q_8.2.1
set_option maxHeartbeats 4000000 in
set_option maxRecDepth 100000 in
theorem c_Face_bestShift (l : Launch) (G : Gx) (w : Mp) (sz : Nat) (h0 : Nat) (x1 : Int32) (res : Int32) (hf : f_Face_bestShift w h0 x1 = some res) : Met l y_Face_bestShift (xws y_Face_bestShift b_Face_bestShift 6 (some .int)) { frames := 4, cells := 0, slots := 0, locals := 97 } (xPc G vwCl xaty w sz [va_rf (some h0), .int x1]) (qP (some (.int res))) (0) (0) (fun _ => False) := by
  refine Met.ofW (cc := b_Face_bestShift) (maxL := 6) (ret := (some .int)) (by decide) rfl ?_
  intro p e s m args below meth c s₁ B hml hv
  obtain ⟨ha, hE, hH, hz⟩ := hv
  have C0 : CallFix p m c b_Face_bestShift 6 s args wA R_Face := ⟨B.exec, B.bytes, hml, findClass_of_methodNamed B.named, fun w hw => atoms_spec (ws := xws y_Face_bestShift b_Face_bestShift 6 (some .int)) B.pre w (List.mem_cons_of_mem _ hw)⟩
  have hr := B.returns
  have hlocks := B.notSynchronized
  obtain ⟨R, hR⟩ : ∃ R, R = (headSpec (xws y_Face_bestShift b_Face_bestShift 6 (some .int)) { frames := 4, cells := 0, slots := 0, locals := 97 }).room := ⟨_, rfl⟩
  have hR1 : 4 ≤ R.frames := by rw [hR]; exact Nat.le_of_ble_eq_true rfl
  have hR2 : 97 ≤ R.locals := by rw [hR]; exact Nat.le_of_ble_eq_true rfl
  have hR3 : 0 ≤ R.cells := by rw [hR]; exact Nat.le_refl _
  have hR4 : 0 ≤ R.slots := by rw [hR]; exact Nat.le_refl _
  rw [← hR]
  obtain ⟨Q, hQ⟩ : ∃ Q, Q = MQ below (qP (some (.int res))) args s (0) (0) (fun _ => False) := ⟨_, rfl⟩
  rw [← hQ]
  have hS : xS G s s.heap [] := va_S.rf
  obtain ⟨ls, he, hl⟩ := x_entry m [.inr (.inl (some h0)), .inl x1] 6 (Nat.le_of_ble_eq_true rfl)
  rw [show entryFrame m args 6 = F0 m 0 ls [] by rw [ha]; exact he]
  have hl : xL ls 6 [(0, .inr (.inl (some h0))), (1, .inl x1)] := hl
  have h := hf
  unfold f_Face_bestShift at h
  suffices hmain : ∀ (H : Heap) (locs : List Loc), xhd G vwCl w H → xS G s H locs → H.size = sz → (H = s.heap ∧ locs = []) → W p l e R s m args below meth c H locs 0 0 Q (F0 m 0 ls []) from hmain _ _ hH hS hz ⟨rfl, rfl⟩
  clear hH hS hz
  intro H locs hH hS hz hP0
  refine x_shifts C0 hE hS (List.mem_of_getElem? (i := 10) rfl) d_Face_bestShift_0 ?_
  refine lv_iconst (v := 0) C0.1 C0.2.1 d_Face_bestShift_3 (by decide) ?_
  refine x_tald C0 hE hS d_Face_bestShift_4 h (fun v_1 h => ?_)
  refine x_istore_n (lv' := [(2, .inl v_1), (0, .inr (.inl (some h0))), (1, .inl x1)]) C0 hl d_Face_bestShift_5 rfl (by decide) rfl (fun ls hl => ?_)
  refine x_aload_n C0 hl 1 d_Face_bestShift_6 rfl rfl ?_
  refine x_iload_n C0 hl 2 d_Face_bestShift_7 rfl rfl ?_
  refine x_iload_n C0 hl 0 d_Face_bestShift_8 rfl rfl ?_
  obtain ⟨b_3, e9, h⟩ := Option.bind_eq_some_iff.mp h
  obtain ⟨e8, fs9, hb9⟩ := xo_inv e9
  obtain ⟨q_2, e9, h⟩ := Option.bind_eq_some_iff.mp h
  refine x_callP (va_runV (As := [.int x1, .int v_1]) (rest := []) C0 (c_Face_differenceAt l G w _ b_3 x1 v_1 q_2 e9) (x_cwV 2 C0 kw_2_184 kw_2_187 kw_1_11 kw_2_185 kw_2_186 (by decide +kernel) (x_rm hR1 hR2 (Nat.le_of_ble_eq_true rfl) (Nat.le_of_ble_eq_true rfl))) (x_preV hE hH hS (ci := 3) rfl hb9) rfl rfl hl.1 (by rw [e8]; rfl) (lv_room (by first | exact Nat.le_of_ble_eq_true rfl | simp only [List.map_cons, List.map_nil, List.sum_cons, List.sum_nil, va_rf_cat, x_catI, x_catL, x_catA] <;> decide)) d_Face_bestShift_9 (x_le0 hR3 hR4)) ?_
  refine x_istore_n (lv' := [(3, .inl q_2), (2, .inl v_1), (0, .inr (.inl (some h0))), (1, .inl x1)]) C0 hl d_Face_bestShift_12 rfl (by decide) rfl (fun ls hl => ?_)
  refine lv_iconst (v := 1) C0.1 C0.2.1 d_Face_bestShift_13 (by decide) ?_
  refine x_istore (lv' := [(4, .inl (1 : Int32)), (3, .inl q_2), (2, .inl v_1), (0, .inr (.inl (some h0))), (1, .inl x1)]) C0 hl d_Face_bestShift_14 (by decide) rfl (fun ls hl => ?_)
  obtain ⟨q_8, e9, h⟩ := Option.bind_eq_some_iff.mp h
  refine w_Face_bestShift_L16 C0 hE hR1 hR2 hR3 hR4 hH hS hz 100000 _ _ _ q_8 ls (x_sub hl [3, 4, 2, 1, 0] rfl) e9 (fun ls hl => ?_)
  refine x_iload_n C0 hl 2 d_Face_bestShift_60 rfl rfl ?_
  cases h
  rw [hQ]
  exact x_iretP C0 hr hlocks hP0 d_Face_bestShift_61
theorem d_Face_sizeAcross_0 : decode b_Face_sizeAcross 0 = .ok (.iconst 0, 1) := by decide +kernel
theorem d_Face_sizeAcross_1 : decode b_Face_sizeAcross 1 = .ok (.istore_n 1, 1) := by decide +kernel
theorem d_Face_sizeAcross_2 : decode b_Face_sizeAcross 2 = .ok (.aload_n 0, 1) := by decide +kernel
theorem d_Face_sizeAcross_3 : decode b_Face_sizeAcross 3 = .ok (.getfield 17, 3) := by decide +kernel
theorem d_Face_sizeAcross_6 : decode b_Face_sizeAcross 6 = .ok (.astore_n 2, 1) := by decide +kernel
theorem d_Face_sizeAcross_7 : decode b_Face_sizeAcross 7 = .ok (.aload_n 2, 1) := by decide +kernel
theorem d_Face_sizeAcross_8 : decode b_Face_sizeAcross 8 = .ok (.arraylength, 1) := by decide +kernel
theorem d_Face_sizeAcross_9 : decode b_Face_sizeAcross 9 = .ok (.istore_n 3, 1) := by decide +kernel
theorem d_Face_sizeAcross_10 : decode b_Face_sizeAcross 10 = .ok (.iconst 0, 1) := by decide +kernel
theorem d_Face_sizeAcross_11 : decode b_Face_sizeAcross 11 = .ok (.istore 4, 2) := by decide +kernel
theorem d_Face_sizeAcross_13 : decode b_Face_sizeAcross 13 = .ok (.iload 4, 2) := by decide +kernel
theorem d_Face_sizeAcross_15 : decode b_Face_sizeAcross 15 = .ok (.iload_n 3, 1) := by decide +kernel
theorem d_Face_sizeAcross_16 : decode b_Face_sizeAcross 16 = .ok (.if_icmp .ge 25, 3) := by decide +kernel
theorem d_Face_sizeAcross_19 : decode b_Face_sizeAcross 19 = .ok (.aload_n 2, 1) := by decide +kernel
theorem d_Face_sizeAcross_20 : decode b_Face_sizeAcross 20 = .ok (.iload 4, 2) := by decide +kernel
theorem d_Face_sizeAcross_22 : decode b_Face_sizeAcross 22 = .ok (.aaload, 1) := by decide +kernel
theorem d_Face_sizeAcross_23 : decode b_Face_sizeAcross 23 = .ok (.astore 5, 2) := by decide +kernel
theorem d_Face_sizeAcross_25 : decode b_Face_sizeAcross 25 = .ok (.iload_n 1, 1) := by decide +kernel
theorem d_Face_sizeAcross_26 : decode b_Face_sizeAcross 26 = .ok (.aload 5, 2) := by decide +kernel
theorem d_Face_sizeAcross_28 : decode b_Face_sizeAcross 28 = .ok (.invokevirtual 38, 3) := by decide +kernel
theorem d_Face_sizeAcross_31 : decode b_Face_sizeAcross 31 = .ok (.invokestatic 77, 3) := by decide +kernel
theorem d_Face_sizeAcross_34 : decode b_Face_sizeAcross 34 = .ok (.istore_n 1, 1) := by decide +kernel
theorem d_Face_sizeAcross_35 : decode b_Face_sizeAcross 35 = .ok (.iinc 4 1, 3) := by decide +kernel
theorem d_Face_sizeAcross_38 : decode b_Face_sizeAcross 38 = .ok (.goto (-25), 3) := by decide +kernel
theorem d_Face_sizeAcross_41 : decode b_Face_sizeAcross 41 = .ok (.iload_n 1, 1) := by decide +kernel
theorem d_Face_sizeAcross_42 : decode b_Face_sizeAcross 42 = .ok (.ireturn, 1) := by decide +kernel
def f_Face_sizeAcross_L13 (w : Mp) (r2 : Option Nat) (x3 : Int32) : Nat → Int32 → Int32 → Option (Nat × Int32 × Int32)
  | 0, _, _ => none
  | n + 1, x1, x4 => if x3 ≤ x4 then (some (0, x1, x4)) else ((aR w r2 3 x4).bind fun v_3 => (xo w v_3 2).bind fun b_5 => (f_Piece_end w b_5).bind fun q_4 => f_Face_sizeAcross_L13 w r2 x3 n (if x1 < q_4 then q_4 else x1) (x4 + 1))
set_option maxHeartbeats 4000000 in
set_option maxRecDepth 100000 in
theorem w_Face_sizeAcross_L13 {p : Program} {l : Launch} {e : Env} {R : Room} {s : State} {m : MethodId} {args : Array Value} {below : List Frame} {meth : Method} {c : Code} {Q : State → Prop} {cells slots sz : Nat} {G : Gx} {r2 : Option Nat} {x3 : Int32} (C0 : CallFix p m c b_Face_sizeAcross 6 s args wA R_Face) (hE : xE G vwCl xaty s) (hR1 : 1 ≤ R.frames) (hR2 : 24 ≤ R.locals) (hR3 : cells ≤ R.cells) (hR4 : slots ≤ R.slots) {w : Mp} {H : Heap} {locs : List Loc} (hH : xhd G vwCl w H) (hS : xS G s H locs) (hz : H.size = sz) : ∀ (n : Nat) (x1 : Int32) (x4 : Int32) (q : Nat × Int32 × Int32) (ls : Array Slot), xL ls 6 [(1, .inl x1), (2, .inr (.inl r2)), (3, .inl x3), (4, .inl x4)] → f_Face_sizeAcross_L13 w r2 x3 n x1 x4 = some q → (∀ (ls : Array Slot), xL ls 6 [(1, .inl q.2.1), (2, .inr (.inl r2)), (3, .inl x3), (4, .inl q.2.2)] → W p l e R s m args below meth c H locs cells slots Q (F0 m 41 ls [])) → W p l e R s m args below meth c H locs cells slots Q (F0 m 13 ls []) := by
  intro n
  induction n with
  | zero => intro _ _ q ls hl h; cases h
  | succ n ih =>
    intro x1 x4 q ls hl h K
    rw [f_Face_sizeAcross_L13] at h
    refine x_iload C0 hl 3 d_Face_sizeAcross_13 rfl ?_
    refine x_iload_n C0 hl 2 d_Face_sizeAcross_15 rfl rfl ?_
    refine x_icmp_ge C0 41 d_Face_sizeAcross_16 (by decide) h (fun h => ?_) (fun h => ?_)
    · cases h
      exact K ls (x_sub hl [0, 1, 2, 3] rfl)
    · refine x_aload_n C0 hl 1 d_Face_sizeAcross_19 rfl rfl ?_
      refine x_iload C0 hl 3 d_Face_sizeAcross_20 rfl ?_
      refine x_aald C0 hE hH (t := 3) rfl d_Face_sizeAcross_22 h (fun v_3 h => ?_)
      refine x_astore (lv' := [(5, .inr (.inl v_3)), (1, .inl x1), (2, .inr (.inl r2)), (3, .inl x3), (4, .inl x4)]) C0 hl d_Face_sizeAcross_23 (by decide) rfl (fun ls hl => ?_)
      refine x_iload_n C0 hl 1 d_Face_sizeAcross_25 rfl rfl ?_
      refine x_aload C0 hl 0 d_Face_sizeAcross_26 rfl ?_
      obtain ⟨b_5, e9, h⟩ := Option.bind_eq_some_iff.mp h
      obtain ⟨e8, fs9, hb9⟩ := xo_inv e9
      obtain ⟨q_4, e9, h⟩ := Option.bind_eq_some_iff.mp h
      refine x_callP (va_runV (As := []) (rest := [.int x1]) C0 (c_Piece_end l G w _ b_5 q_4 e9) (x_cwV 0 C0 kw_2_170 kw_2_173 kw_1_12 kw_2_171 kw_2_172 (by decide +kernel) (x_rm hR1 hR2 (Nat.le_of_ble_eq_true rfl) (Nat.le_of_ble_eq_true rfl))) (x_preV hE hH hS (ci := 2) rfl hb9) rfl rfl hl.1 (by rw [e8]; rfl) (lv_room (by first | exact Nat.le_of_ble_eq_true rfl | simp only [List.map_cons, List.map_nil, List.sum_cons, List.sum_nil, va_rf_cat, x_catI, x_catL, x_catA] <;> decide)) d_Face_sizeAcross_28 (x_le0 hR3 hR4)) ?_
      refine va_mmax C0.1 C0.2.1 (C0.2.2.1.trans hl.1.symm) C0.2.2.2.1 (C0.2.2.2.2 _ kw_2_230) (C0.2.2.2.2 _ kw_2_231) (C0.2.2.2.2 _ kw_1_13) (C0.2.2.2.2 _ kw_2_232) (Nat.le_trans (by decide) hR1) (Nat.le_trans (by first | exact Nat.le_of_ble_eq_true rfl | simp only [List.map_cons, List.map_nil, List.sum_cons, List.sum_nil, va_rf_cat, x_catI, x_catL, x_catA] <;> decide) hR2) hR3 hR4 d_Face_sizeAcross_31 ?_
      refine x_istore_n (lv' := [(1, .inl (if x1 < q_4 then q_4 else x1)), (5, .inr (.inl v_3)), (2, .inr (.inl r2)), (3, .inl x3), (4, .inl x4)]) C0 hl d_Face_sizeAcross_34 rfl (by decide) rfl (fun ls hl => ?_)
      refine x_iinc (v := 1) (lv' := [(4, .inl (x4 + 1)), (1, .inl (if x1 < q_4 then q_4 else x1)), (5, .inr (.inl v_3)), (2, .inr (.inl r2)), (3, .inl x3)]) C0 hl 4 d_Face_sizeAcross_35 rfl (by decide) (by decide) rfl (fun ls hl => ?_)
      refine x_goto C0 13 d_Face_sizeAcross_38 (by decide) ?_
      exact ih _ _ q ls (x_sub hl [1, 3, 4, 0] rfl) h K
def f_Face_sizeAcross (w : Mp) (h0 : Nat) : Option (Int32) := (gR w (some h0) 3 1).bind fun v_1 => (aL w v_1 3).bind fun v_2 => (f_Face_sizeAcross_L13 w v_1 v_2 100000 (0 : Int32) (0 : Int32)).bind fun q_6 => some q_6.2.1
set_option maxHeartbeats 4000000 in
set_option maxRecDepth 100000 in
theorem c_Face_sizeAcross (l : Launch) (G : Gx) (w : Mp) (sz : Nat) (h0 : Nat) (res : Int32) (hf : f_Face_sizeAcross w h0 = some res) : Met l y_Face_sizeAcross (xws y_Face_sizeAcross b_Face_sizeAcross 6 (some .int)) { frames := 1, cells := 0, slots := 0, locals := 24 } (xPc G vwCl xaty w sz [va_rf (some h0)]) (qP (some (.int res))) (0) (0) (fun _ => False) := by
  refine Met.ofW (cc := b_Face_sizeAcross) (maxL := 6) (ret := (some .int)) (by decide) rfl ?_
  intro p e s m args below meth c s₁ B hml hv
  obtain ⟨ha, hE, hH, hz⟩ := hv
  have C0 : CallFix p m c b_Face_sizeAcross 6 s args wA R_Face := ⟨B.exec, B.bytes, hml, findClass_of_methodNamed B.named, fun w hw => atoms_spec (ws := xws y_Face_sizeAcross b_Face_sizeAcross 6 (some .int)) B.pre w (List.mem_cons_of_mem _ hw)⟩
  have hr := B.returns
  have hlocks := B.notSynchronized
  obtain ⟨R, hR⟩ : ∃ R, R = (headSpec (xws y_Face_sizeAcross b_Face_sizeAcross 6 (some .int)) { frames := 1, cells := 0, slots := 0, locals := 24 }).room := ⟨_, rfl⟩
  have hR1 : 1 ≤ R.frames := by rw [hR]; exact Nat.le_of_ble_eq_true rfl
  have hR2 : 24 ≤ R.locals := by rw [hR]; exact Nat.le_of_ble_eq_true rfl
  have hR3 : 0 ≤ R.cells := by rw [hR]; exact Nat.le_refl _
  have hR4 : 0 ≤ R.slots := by rw [hR]; exact Nat.le_refl _
  rw [← hR]
  obtain ⟨Q, hQ⟩ : ∃ Q, Q = MQ below (qP (some (.int res))) args s (0) (0) (fun _ => False) := ⟨_, rfl⟩
  rw [← hQ]
  have hS : xS G s s.heap [] := va_S.rf
  obtain ⟨ls, he, hl⟩ := x_entry m [.inr (.inl (some h0))] 6 (Nat.le_of_ble_eq_true rfl)
  rw [show entryFrame m args 6 = F0 m 0 ls [] by rw [ha]; exact he]
  have hl : xL ls 6 [(0, .inr (.inl (some h0)))] := hl
  have h := hf
  unfold f_Face_sizeAcross at h
  suffices hmain : ∀ (H : Heap) (locs : List Loc), xhd G vwCl w H → xS G s H locs → H.size = sz → (H = s.heap ∧ locs = []) → W p l e R s m args below meth c H locs 0 0 Q (F0 m 0 ls []) from hmain _ _ hH hS hz ⟨rfl, rfl⟩
  clear hH hS hz
  intro H locs hH hS hz hP0
  refine lv_iconst (v := 0) C0.1 C0.2.1 d_Face_sizeAcross_0 (by decide) ?_
  refine x_istore_n (lv' := [(1, .inl (0 : Int32)), (0, .inr (.inl (some h0)))]) C0 hl d_Face_sizeAcross_1 rfl (by decide) rfl (fun ls hl => ?_)
  refine x_aload_n C0 hl 1 d_Face_sizeAcross_2 rfl rfl ?_
  refine x_getR C0 hE hH (ci := 3) rfl i_Face 1 (by decide) kw_2_130 d_Face_sizeAcross_3 h (fun v_1 h => ?_)
  refine x_astore_n (lv' := [(2, .inr (.inl v_1)), (1, .inl (0 : Int32)), (0, .inr (.inl (some h0)))]) C0 hl d_Face_sizeAcross_6 rfl (by decide) rfl (fun ls hl => ?_)
  refine x_aload_n C0 hl 0 d_Face_sizeAcross_7 rfl rfl ?_
  refine x_alen C0 hE hH (t := 3) rfl d_Face_sizeAcross_8 h (fun v_2 h => ?_)
  refine x_istore_n (lv' := [(3, .inl v_2), (2, .inr (.inl v_1)), (1, .inl (0 : Int32)), (0, .inr (.inl (some h0)))]) C0 hl d_Face_sizeAcross_9 rfl (by decide) rfl (fun ls hl => ?_)
  refine lv_iconst (v := 0) C0.1 C0.2.1 d_Face_sizeAcross_10 (by decide) ?_
  refine x_istore (lv' := [(4, .inl (0 : Int32)), (3, .inl v_2), (2, .inr (.inl v_1)), (1, .inl (0 : Int32)), (0, .inr (.inl (some h0)))]) C0 hl d_Face_sizeAcross_11 (by decide) rfl (fun ls hl => ?_)
  obtain ⟨q_6, e9, h⟩ := Option.bind_eq_some_iff.mp h
  refine w_Face_sizeAcross_L13 C0 hE hR1 hR2 hR3 hR4 hH hS hz 100000 _ _ q_6 ls (x_sub hl [3, 2, 1, 0] rfl) e9 (fun ls hl => ?_)
  refine x_iload_n C0 hl 0 d_Face_sizeAcross_41 rfl rfl ?_
  cases h
  rw [hQ]
  exact x_iretP C0 hr hlocks hP0 d_Face_sizeAcross_42
theorem d_Face_leastTop_0 : decode b_Face_leastTop 0 = .ok (.aload_n 0, 1) := by decide +kernel
theorem d_Face_leastTop_1 : decode b_Face_leastTop 1 = .ok (.getfield 17, 3) := by decide +kernel
theorem d_Face_leastTop_4 : decode b_Face_leastTop 4 = .ok (.iconst 0, 1) := by decide +kernel
theorem d_Face_leastTop_5 : decode b_Face_leastTop 5 = .ok (.aaload, 1) := by decide +kernel
theorem d_Face_leastTop_6 : decode b_Face_leastTop 6 = .ok (.getfield 48, 3) := by decide +kernel
theorem d_Face_leastTop_9 : decode b_Face_leastTop 9 = .ok (.istore_n 1, 1) := by decide +kernel
theorem d_Face_leastTop_10 : decode b_Face_leastTop 10 = .ok (.aload_n 0, 1) := by decide +kernel
theorem d_Face_leastTop_11 : decode b_Face_leastTop 11 = .ok (.getfield 17, 3) := by decide +kernel
theorem d_Face_leastTop_14 : decode b_Face_leastTop 14 = .ok (.astore_n 2, 1) := by decide +kernel
theorem d_Face_leastTop_15 : decode b_Face_leastTop 15 = .ok (.aload_n 2, 1) := by decide +kernel
theorem d_Face_leastTop_16 : decode b_Face_leastTop 16 = .ok (.arraylength, 1) := by decide +kernel
theorem d_Face_leastTop_17 : decode b_Face_leastTop 17 = .ok (.istore_n 3, 1) := by decide +kernel
theorem d_Face_leastTop_18 : decode b_Face_leastTop 18 = .ok (.iconst 0, 1) := by decide +kernel
theorem d_Face_leastTop_19 : decode b_Face_leastTop 19 = .ok (.istore 4, 2) := by decide +kernel
theorem d_Face_leastTop_21 : decode b_Face_leastTop 21 = .ok (.iload 4, 2) := by decide +kernel
theorem d_Face_leastTop_23 : decode b_Face_leastTop 23 = .ok (.iload_n 3, 1) := by decide +kernel
theorem d_Face_leastTop_24 : decode b_Face_leastTop 24 = .ok (.if_icmp .ge 25, 3) := by decide +kernel
theorem d_Face_leastTop_27 : decode b_Face_leastTop 27 = .ok (.aload_n 2, 1) := by decide +kernel
theorem d_Face_leastTop_28 : decode b_Face_leastTop 28 = .ok (.iload 4, 2) := by decide +kernel
theorem d_Face_leastTop_30 : decode b_Face_leastTop 30 = .ok (.aaload, 1) := by decide +kernel
theorem d_Face_leastTop_31 : decode b_Face_leastTop 31 = .ok (.astore 5, 2) := by decide +kernel
theorem d_Face_leastTop_33 : decode b_Face_leastTop 33 = .ok (.iload_n 1, 1) := by decide +kernel
theorem d_Face_leastTop_34 : decode b_Face_leastTop 34 = .ok (.aload 5, 2) := by decide +kernel
theorem d_Face_leastTop_36 : decode b_Face_leastTop 36 = .ok (.getfield 48, 3) := by decide +kernel
theorem d_Face_leastTop_39 : decode b_Face_leastTop 39 = .ok (.invokestatic 80, 3) := by decide +kernel
theorem d_Face_leastTop_42 : decode b_Face_leastTop 42 = .ok (.istore_n 1, 1) := by decide +kernel
theorem d_Face_leastTop_43 : decode b_Face_leastTop 43 = .ok (.iinc 4 1, 3) := by decide +kernel
theorem d_Face_leastTop_46 : decode b_Face_leastTop 46 = .ok (.goto (-25), 3) := by decide +kernel
theorem d_Face_leastTop_49 : decode b_Face_leastTop 49 = .ok (.iload_n 1, 1) := by decide +kernel
theorem d_Face_leastTop_50 : decode b_Face_leastTop 50 = .ok (.ireturn, 1) := by decide +kernel
def f_Face_leastTop_L21 (w : Mp) (r2 : Option Nat) (x3 : Int32) : Nat → Int32 → Int32 → Option (Nat × Int32 × Int32)
  | 0, _, _ => none
  | n + 1, x1, x4 => if x3 ≤ x4 then (some (0, x1, x4)) else ((aR w r2 3 x4).bind fun v_6 => (gI w v_6 2 4).bind fun v_7 => f_Face_leastTop_L21 w r2 x3 n (if v_7 < x1 then v_7 else x1) (x4 + 1))
set_option maxHeartbeats 4000000 in
set_option maxRecDepth 100000 in
theorem w_Face_leastTop_L21 {p : Program} {l : Launch} {e : Env} {R : Room} {s : State} {m : MethodId} {args : Array Value} {below : List Frame} {meth : Method} {c : Code} {Q : State → Prop} {cells slots sz : Nat} {G : Gx} {r2 : Option Nat} {x3 : Int32} (C0 : CallFix p m c b_Face_leastTop 6 s args wA R_Face) (hE : xE G vwCl xaty s) (hR1 : 1 ≤ R.frames) (hR2 : 24 ≤ R.locals) (hR3 : cells ≤ R.cells) (hR4 : slots ≤ R.slots) {w : Mp} {H : Heap} {locs : List Loc} (hH : xhd G vwCl w H) (hS : xS G s H locs) (hz : H.size = sz) : ∀ (n : Nat) (x1 : Int32) (x4 : Int32) (q : Nat × Int32 × Int32) (ls : Array Slot), xL ls 6 [(1, .inl x1), (2, .inr (.inl r2)), (3, .inl x3), (4, .inl x4)] → f_Face_leastTop_L21 w r2 x3 n x1 x4 = some q → (∀ (ls : Array Slot), xL ls 6 [(1, .inl q.2.1), (2, .inr (.inl r2)), (3, .inl x3), (4, .inl q.2.2)] → W p l e R s m args below meth c H locs cells slots Q (F0 m 49 ls [])) → W p l e R s m args below meth c H locs cells slots Q (F0 m 21 ls []) := by
  intro n
  induction n with
  | zero => intro _ _ q ls hl h; cases h
  | succ n ih =>
    intro x1 x4 q ls hl h K
    rw [f_Face_leastTop_L21] at h
    refine x_iload C0 hl 3 d_Face_leastTop_21 rfl ?_
    refine x_iload_n C0 hl 2 d_Face_leastTop_23 rfl rfl ?_
    refine x_icmp_ge C0 49 d_Face_leastTop_24 (by decide) h (fun h => ?_) (fun h => ?_)
    · cases h
      exact K ls (x_sub hl [0, 1, 2, 3] rfl)
    · refine x_aload_n C0 hl 1 d_Face_leastTop_27 rfl rfl ?_
      refine x_iload C0 hl 3 d_Face_leastTop_28 rfl ?_
      refine x_aald C0 hE hH (t := 3) rfl d_Face_leastTop_30 h (fun v_6 h => ?_)
      refine x_astore (lv' := [(5, .inr (.inl v_6)), (1, .inl x1), (2, .inr (.inl r2)), (3, .inl x3), (4, .inl x4)]) C0 hl d_Face_leastTop_31 (by decide) rfl (fun ls hl => ?_)
      refine x_iload_n C0 hl 1 d_Face_leastTop_33 rfl rfl ?_
      refine x_aload C0 hl 0 d_Face_leastTop_34 rfl ?_
      refine x_getI C0 hE hH (ci := 2) rfl i_Piece 4 (by decide) kw_2_115 d_Face_leastTop_36 h (fun v_7 h => ?_)
      refine va_mmin C0.1 C0.2.1 (C0.2.2.1.trans hl.1.symm) C0.2.2.2.1 (C0.2.2.2.2 _ kw_2_216) (C0.2.2.2.2 _ kw_2_217) (C0.2.2.2.2 _ kw_1_13) (C0.2.2.2.2 _ kw_2_218) (Nat.le_trans (by decide) hR1) (Nat.le_trans (by first | exact Nat.le_of_ble_eq_true rfl | simp only [List.map_cons, List.map_nil, List.sum_cons, List.sum_nil, va_rf_cat, x_catI, x_catL, x_catA] <;> decide) hR2) hR3 hR4 d_Face_leastTop_39 ?_
      refine x_istore_n (lv' := [(1, .inl (if v_7 < x1 then v_7 else x1)), (5, .inr (.inl v_6)), (2, .inr (.inl r2)), (3, .inl x3), (4, .inl x4)]) C0 hl d_Face_leastTop_42 rfl (by decide) rfl (fun ls hl => ?_)
      refine x_iinc (v := 1) (lv' := [(4, .inl (x4 + 1)), (1, .inl (if v_7 < x1 then v_7 else x1)), (5, .inr (.inl v_6)), (2, .inr (.inl r2)), (3, .inl x3)]) C0 hl 4 d_Face_leastTop_43 rfl (by decide) (by decide) rfl (fun ls hl => ?_)
      refine x_goto C0 21 d_Face_leastTop_46 (by decide) ?_
      exact ih _ _ q ls (x_sub hl [1, 3, 4, 0] rfl) h K
def f_Face_leastTop (w : Mp) (h0 : Nat) : Option (Int32) := (gR w (some h0) 3 1).bind fun v_1 => (aR w v_1 3 (0 : Int32)).bind fun v_2 => (gI w v_2 2 4).bind fun v_3 => (gR w (some h0) 3 1).bind fun v_4 => (aL w v_4 3).bind fun v_5 => (f_Face_leastTop_L21 w v_4 v_5 100000 v_3 (0 : Int32)).bind fun q_8 => some q_8.2.1
set_option maxHeartbeats 4000000 in
set_option maxRecDepth 100000 in
theorem c_Face_leastTop (l : Launch) (G : Gx) (w : Mp) (sz : Nat) (h0 : Nat) (res : Int32) (hf : f_Face_leastTop w h0 = some res) : Met l y_Face_leastTop (xws y_Face_leastTop b_Face_leastTop 6 (some .int)) { frames := 1, cells := 0, slots := 0, locals := 24 } (xPc G vwCl xaty w sz [va_rf (some h0)]) (qP (some (.int res))) (0) (0) (fun _ => False) := by
  refine Met.ofW (cc := b_Face_leastTop) (maxL := 6) (ret := (some .int)) (by decide) rfl ?_
  intro p e s m args below meth c s₁ B hml hv
  obtain ⟨ha, hE, hH, hz⟩ := hv
  have C0 : CallFix p m c b_Face_leastTop 6 s args wA R_Face := ⟨B.exec, B.bytes, hml, findClass_of_methodNamed B.named, fun w hw => atoms_spec (ws := xws y_Face_leastTop b_Face_leastTop 6 (some .int)) B.pre w (List.mem_cons_of_mem _ hw)⟩
  have hr := B.returns
  have hlocks := B.notSynchronized
  obtain ⟨R, hR⟩ : ∃ R, R = (headSpec (xws y_Face_leastTop b_Face_leastTop 6 (some .int)) { frames := 1, cells := 0, slots := 0, locals := 24 }).room := ⟨_, rfl⟩
  have hR1 : 1 ≤ R.frames := by rw [hR]; exact Nat.le_of_ble_eq_true rfl
  have hR2 : 24 ≤ R.locals := by rw [hR]; exact Nat.le_of_ble_eq_true rfl
  have hR3 : 0 ≤ R.cells := by rw [hR]; exact Nat.le_refl _
  have hR4 : 0 ≤ R.slots := by rw [hR]; exact Nat.le_refl _
  rw [← hR]
  obtain ⟨Q, hQ⟩ : ∃ Q, Q = MQ below (qP (some (.int res))) args s (0) (0) (fun _ => False) := ⟨_, rfl⟩
  rw [← hQ]
  have hS : xS G s s.heap [] := va_S.rf
  obtain ⟨ls, he, hl⟩ := x_entry m [.inr (.inl (some h0))] 6 (Nat.le_of_ble_eq_true rfl)
  rw [show entryFrame m args 6 = F0 m 0 ls [] by rw [ha]; exact he]
  have hl : xL ls 6 [(0, .inr (.inl (some h0)))] := hl
  have h := hf
  unfold f_Face_leastTop at h
  suffices hmain : ∀ (H : Heap) (locs : List Loc), xhd G vwCl w H → xS G s H locs → H.size = sz → (H = s.heap ∧ locs = []) → W p l e R s m args below meth c H locs 0 0 Q (F0 m 0 ls []) from hmain _ _ hH hS hz ⟨rfl, rfl⟩
  clear hH hS hz
  intro H locs hH hS hz hP0
  refine x_aload_n C0 hl 0 d_Face_leastTop_0 rfl rfl ?_
  refine x_getR C0 hE hH (ci := 3) rfl i_Face 1 (by decide) kw_2_130 d_Face_leastTop_1 h (fun v_1 h => ?_)
  refine lv_iconst (v := 0) C0.1 C0.2.1 d_Face_leastTop_4 (by decide) ?_
  refine x_aald C0 hE hH (t := 3) rfl d_Face_leastTop_5 h (fun v_2 h => ?_)
  refine x_getI C0 hE hH (ci := 2) rfl i_Piece 4 (by decide) kw_2_115 d_Face_leastTop_6 h (fun v_3 h => ?_)
  refine x_istore_n (lv' := [(1, .inl v_3), (0, .inr (.inl (some h0)))]) C0 hl d_Face_leastTop_9 rfl (by decide) rfl (fun ls hl => ?_)
  refine x_aload_n C0 hl 1 d_Face_leastTop_10 rfl rfl ?_
  refine x_getR C0 hE hH (ci := 3) rfl i_Face 1 (by decide) kw_2_130 d_Face_leastTop_11 h (fun v_4 h => ?_)
  refine x_astore_n (lv' := [(2, .inr (.inl v_4)), (1, .inl v_3), (0, .inr (.inl (some h0)))]) C0 hl d_Face_leastTop_14 rfl (by decide) rfl (fun ls hl => ?_)
  refine x_aload_n C0 hl 0 d_Face_leastTop_15 rfl rfl ?_
  refine x_alen C0 hE hH (t := 3) rfl d_Face_leastTop_16 h (fun v_5 h => ?_)
  refine x_istore_n (lv' := [(3, .inl v_5), (2, .inr (.inl v_4)), (1, .inl v_3), (0, .inr (.inl (some h0)))]) C0 hl d_Face_leastTop_17 rfl (by decide) rfl (fun ls hl => ?_)
  refine lv_iconst (v := 0) C0.1 C0.2.1 d_Face_leastTop_18 (by decide) ?_
  refine x_istore (lv' := [(4, .inl (0 : Int32)), (3, .inl v_5), (2, .inr (.inl v_4)), (1, .inl v_3), (0, .inr (.inl (some h0)))]) C0 hl d_Face_leastTop_19 (by decide) rfl (fun ls hl => ?_)
  obtain ⟨q_8, e9, h⟩ := Option.bind_eq_some_iff.mp h
  refine w_Face_leastTop_L21 C0 hE hR1 hR2 hR3 hR4 hH hS hz 100000 _ _ q_8 ls (x_sub hl [3, 2, 1, 0] rfl) e9 (fun ls hl => ?_)
  refine x_iload_n C0 hl 0 d_Face_leastTop_49 rfl rfl ?_
  cases h
  rw [hQ]
  exact x_iretP C0 hr hlocks hP0 d_Face_leastTop_50
theorem d_Face_greatestBottom_0 : decode b_Face_greatestBottom 0 = .ok (.aload_n 0, 1) := by decide +kernel
theorem d_Face_greatestBottom_1 : decode b_Face_greatestBottom 1 = .ok (.getfield 17, 3) := by decide +kernel
theorem d_Face_greatestBottom_4 : decode b_Face_greatestBottom 4 = .ok (.iconst 0, 1) := by decide +kernel
theorem d_Face_greatestBottom_5 : decode b_Face_greatestBottom 5 = .ok (.aaload, 1) := by decide +kernel
theorem d_Face_greatestBottom_6 : decode b_Face_greatestBottom 6 = .ok (.invokevirtual 45, 3) := by decide +kernel
theorem d_Face_greatestBottom_9 : decode b_Face_greatestBottom 9 = .ok (.istore_n 1, 1) := by decide +kernel
theorem d_Face_greatestBottom_10 : decode b_Face_greatestBottom 10 = .ok (.aload_n 0, 1) := by decide +kernel
theorem d_Face_greatestBottom_11 : decode b_Face_greatestBottom 11 = .ok (.getfield 17, 3) := by decide +kernel
theorem d_Face_greatestBottom_14 : decode b_Face_greatestBottom 14 = .ok (.astore_n 2, 1) := by decide +kernel
theorem d_Face_greatestBottom_15 : decode b_Face_greatestBottom 15 = .ok (.aload_n 2, 1) := by decide +kernel
theorem d_Face_greatestBottom_16 : decode b_Face_greatestBottom 16 = .ok (.arraylength, 1) := by decide +kernel
theorem d_Face_greatestBottom_17 : decode b_Face_greatestBottom 17 = .ok (.istore_n 3, 1) := by decide +kernel
theorem d_Face_greatestBottom_18 : decode b_Face_greatestBottom 18 = .ok (.iconst 0, 1) := by decide +kernel
theorem d_Face_greatestBottom_19 : decode b_Face_greatestBottom 19 = .ok (.istore 4, 2) := by decide +kernel
theorem d_Face_greatestBottom_21 : decode b_Face_greatestBottom 21 = .ok (.iload 4, 2) := by decide +kernel
theorem d_Face_greatestBottom_23 : decode b_Face_greatestBottom 23 = .ok (.iload_n 3, 1) := by decide +kernel
theorem d_Face_greatestBottom_24 : decode b_Face_greatestBottom 24 = .ok (.if_icmp .ge 25, 3) := by decide +kernel
theorem d_Face_greatestBottom_27 : decode b_Face_greatestBottom 27 = .ok (.aload_n 2, 1) := by decide +kernel
theorem d_Face_greatestBottom_28 : decode b_Face_greatestBottom 28 = .ok (.iload 4, 2) := by decide +kernel
theorem d_Face_greatestBottom_30 : decode b_Face_greatestBottom 30 = .ok (.aaload, 1) := by decide +kernel
theorem d_Face_greatestBottom_31 : decode b_Face_greatestBottom 31 = .ok (.astore 5, 2) := by decide +kernel
theorem d_Face_greatestBottom_33 : decode b_Face_greatestBottom 33 = .ok (.iload_n 1, 1) := by decide +kernel
theorem d_Face_greatestBottom_34 : decode b_Face_greatestBottom 34 = .ok (.aload 5, 2) := by decide +kernel
theorem d_Face_greatestBottom_36 : decode b_Face_greatestBottom 36 = .ok (.invokevirtual 45, 3) := by decide +kernel
theorem d_Face_greatestBottom_39 : decode b_Face_greatestBottom 39 = .ok (.invokestatic 77, 3) := by decide +kernel
theorem d_Face_greatestBottom_42 : decode b_Face_greatestBottom 42 = .ok (.istore_n 1, 1) := by decide +kernel
theorem d_Face_greatestBottom_43 : decode b_Face_greatestBottom 43 = .ok (.iinc 4 1, 3) := by decide +kernel
theorem d_Face_greatestBottom_46 : decode b_Face_greatestBottom 46 = .ok (.goto (-25), 3) := by decide +kernel
theorem d_Face_greatestBottom_49 : decode b_Face_greatestBottom 49 = .ok (.iload_n 1, 1) := by decide +kernel
theorem d_Face_greatestBottom_50 : decode b_Face_greatestBottom 50 = .ok (.ireturn, 1) := by decide +kernel
def f_Face_greatestBottom_L21 (w : Mp) (r2 : Option Nat) (x3 : Int32) : Nat → Int32 → Int32 → Option (Nat × Int32 × Int32)
  | 0, _, _ => none
  | n + 1, x1, x4 => if x3 ≤ x4 then (some (0, x1, x4)) else ((aR w r2 3 x4).bind fun v_7 => (xo w v_7 2).bind fun b_9 => (f_Piece_bottom w b_9).bind fun q_8 => f_Face_greatestBottom_L21 w r2 x3 n (if x1 < q_8 then q_8 else x1) (x4 + 1))
set_option maxHeartbeats 4000000 in
set_option maxRecDepth 100000 in
theorem w_Face_greatestBottom_L21 {p : Program} {l : Launch} {e : Env} {R : Room} {s : State} {m : MethodId} {args : Array Value} {below : List Frame} {meth : Method} {c : Code} {Q : State → Prop} {cells slots sz : Nat} {G : Gx} {r2 : Option Nat} {x3 : Int32} (C0 : CallFix p m c b_Face_greatestBottom 6 s args wA R_Face) (hE : xE G vwCl xaty s) (hR1 : 1 ≤ R.frames) (hR2 : 24 ≤ R.locals) (hR3 : cells ≤ R.cells) (hR4 : slots ≤ R.slots) {w : Mp} {H : Heap} {locs : List Loc} (hH : xhd G vwCl w H) (hS : xS G s H locs) (hz : H.size = sz) : ∀ (n : Nat) (x1 : Int32) (x4 : Int32) (q : Nat × Int32 × Int32) (ls : Array Slot), xL ls 6 [(1, .inl x1), (2, .inr (.inl r2)), (3, .inl x3), (4, .inl x4)] → f_Face_greatestBottom_L21 w r2 x3 n x1 x4 = some q → (∀ (ls : Array Slot), xL ls 6 [(1, .inl q.2.1), (2, .inr (.inl r2)), (3, .inl x3), (4, .inl q.2.2)] → W p l e R s m args below meth c H locs cells slots Q (F0 m 49 ls [])) → W p l e R s m args below meth c H locs cells slots Q (F0 m 21 ls []) := by
  intro n
  induction n with
  | zero => intro _ _ q ls hl h; cases h
  | succ n ih =>
    intro x1 x4 q ls hl h K
    rw [f_Face_greatestBottom_L21] at h
    refine x_iload C0 hl 3 d_Face_greatestBottom_21 rfl ?_
    refine x_iload_n C0 hl 2 d_Face_greatestBottom_23 rfl rfl ?_
    refine x_icmp_ge C0 49 d_Face_greatestBottom_24 (by decide) h (fun h => ?_) (fun h => ?_)
    · cases h
      exact K ls (x_sub hl [0, 1, 2, 3] rfl)
    · refine x_aload_n C0 hl 1 d_Face_greatestBottom_27 rfl rfl ?_
      refine x_iload C0 hl 3 d_Face_greatestBottom_28 rfl ?_
      refine x_aald C0 hE hH (t := 3) rfl d_Face_greatestBottom_30 h (fun v_7 h => ?_)
      refine x_astore (lv' := [(5, .inr (.inl v_7)), (1, .inl x1), (2, .inr (.inl r2)), (3, .inl x3), (4, .inl x4)]) C0 hl d_Face_greatestBottom_31 (by decide) rfl (fun ls hl => ?_)
      refine x_iload_n C0 hl 1 d_Face_greatestBottom_33 rfl rfl ?_
      refine x_aload C0 hl 0 d_Face_greatestBottom_34 rfl ?_
      obtain ⟨b_9, e9, h⟩ := Option.bind_eq_some_iff.mp h
      obtain ⟨e8, fs9, hb9⟩ := xo_inv e9
      obtain ⟨q_8, e9, h⟩ := Option.bind_eq_some_iff.mp h
      refine x_callP (va_runV (As := []) (rest := [.int x1]) C0 (c_Piece_bottom l G w _ b_9 q_8 e9) (x_cwV 0 C0 kw_2_174 kw_2_177 kw_1_12 kw_2_175 kw_2_176 (by decide +kernel) (x_rm hR1 hR2 (Nat.le_of_ble_eq_true rfl) (Nat.le_of_ble_eq_true rfl))) (x_preV hE hH hS (ci := 2) rfl hb9) rfl rfl hl.1 (by rw [e8]; rfl) (lv_room (by first | exact Nat.le_of_ble_eq_true rfl | simp only [List.map_cons, List.map_nil, List.sum_cons, List.sum_nil, va_rf_cat, x_catI, x_catL, x_catA] <;> decide)) d_Face_greatestBottom_36 (x_le0 hR3 hR4)) ?_
      refine va_mmax C0.1 C0.2.1 (C0.2.2.1.trans hl.1.symm) C0.2.2.2.1 (C0.2.2.2.2 _ kw_2_230) (C0.2.2.2.2 _ kw_2_231) (C0.2.2.2.2 _ kw_1_13) (C0.2.2.2.2 _ kw_2_232) (Nat.le_trans (by decide) hR1) (Nat.le_trans (by first | exact Nat.le_of_ble_eq_true rfl | simp only [List.map_cons, List.map_nil, List.sum_cons, List.sum_nil, va_rf_cat, x_catI, x_catL, x_catA] <;> decide) hR2) hR3 hR4 d_Face_greatestBottom_39 ?_
      refine x_istore_n (lv' := [(1, .inl (if x1 < q_8 then q_8 else x1)), (5, .inr (.inl v_7)), (2, .inr (.inl r2)), (3, .inl x3), (4, .inl x4)]) C0 hl d_Face_greatestBottom_42 rfl (by decide) rfl (fun ls hl => ?_)
      refine x_iinc (v := 1) (lv' := [(4, .inl (x4 + 1)), (1, .inl (if x1 < q_8 then q_8 else x1)), (5, .inr (.inl v_7)), (2, .inr (.inl r2)), (3, .inl x3)]) C0 hl 4 d_Face_greatestBottom_43 rfl (by decide) (by decide) rfl (fun ls hl => ?_)
      refine x_goto C0 21 d_Face_greatestBottom_46 (by decide) ?_
      exact ih _ _ q ls (x_sub hl [1, 3, 4, 0] rfl) h K
def f_Face_greatestBottom (w : Mp) (h0 : Nat) : Option (Int32) := (gR w (some h0) 3 1).bind fun v_1 => (aR w v_1 3 (0 : Int32)).bind fun v_2 => (xo w v_2 2).bind fun b_4 => (f_Piece_bottom w b_4).bind fun q_3 => (gR w (some h0) 3 1).bind fun v_5 => (aL w v_5 3).bind fun v_6 => (f_Face_greatestBottom_L21 w v_5 v_6 100000 q_3 (0 : Int32)).bind fun q_10 => some q_10.2.1
set_option maxHeartbeats 4000000 in
set_option maxRecDepth 100000 in
theorem c_Face_greatestBottom (l : Launch) (G : Gx) (w : Mp) (sz : Nat) (h0 : Nat) (res : Int32) (hf : f_Face_greatestBottom w h0 = some res) : Met l y_Face_greatestBottom (xws y_Face_greatestBottom b_Face_greatestBottom 6 (some .int)) { frames := 1, cells := 0, slots := 0, locals := 24 } (xPc G vwCl xaty w sz [va_rf (some h0)]) (qP (some (.int res))) (0) (0) (fun _ => False) := by
  refine Met.ofW (cc := b_Face_greatestBottom) (maxL := 6) (ret := (some .int)) (by decide) rfl ?_
  intro p e s m args below meth c s₁ B hml hv
  obtain ⟨ha, hE, hH, hz⟩ := hv
  have C0 : CallFix p m c b_Face_greatestBottom 6 s args wA R_Face := ⟨B.exec, B.bytes, hml, findClass_of_methodNamed B.named, fun w hw => atoms_spec (ws := xws y_Face_greatestBottom b_Face_greatestBottom 6 (some .int)) B.pre w (List.mem_cons_of_mem _ hw)⟩
  have hr := B.returns
  have hlocks := B.notSynchronized
  obtain ⟨R, hR⟩ : ∃ R, R = (headSpec (xws y_Face_greatestBottom b_Face_greatestBottom 6 (some .int)) { frames := 1, cells := 0, slots := 0, locals := 24 }).room := ⟨_, rfl⟩
  have hR1 : 1 ≤ R.frames := by rw [hR]; exact Nat.le_of_ble_eq_true rfl
  have hR2 : 24 ≤ R.locals := by rw [hR]; exact Nat.le_of_ble_eq_true rfl
  have hR3 : 0 ≤ R.cells := by rw [hR]; exact Nat.le_refl _
  have hR4 : 0 ≤ R.slots := by rw [hR]; exact Nat.le_refl _
  rw [← hR]
  obtain ⟨Q, hQ⟩ : ∃ Q, Q = MQ below (qP (some (.int res))) args s (0) (0) (fun _ => False) := ⟨_, rfl⟩
  rw [← hQ]
  have hS : xS G s s.heap [] := va_S.rf
  obtain ⟨ls, he, hl⟩ := x_entry m [.inr (.inl (some h0))] 6 (Nat.le_of_ble_eq_true rfl)
  rw [show entryFrame m args 6 = F0 m 0 ls [] by rw [ha]; exact he]
  have hl : xL ls 6 [(0, .inr (.inl (some h0)))] := hl
  have h := hf
  unfold f_Face_greatestBottom at h
  suffices hmain : ∀ (H : Heap) (locs : List Loc), xhd G vwCl w H → xS G s H locs → H.size = sz → (H = s.heap ∧ locs = []) → W p l e R s m args below meth c H locs 0 0 Q (F0 m 0 ls []) from hmain _ _ hH hS hz ⟨rfl, rfl⟩
  clear hH hS hz
  intro H locs hH hS hz hP0
  refine x_aload_n C0 hl 0 d_Face_greatestBottom_0 rfl rfl ?_
  refine x_getR C0 hE hH (ci := 3) rfl i_Face 1 (by decide) kw_2_130 d_Face_greatestBottom_1 h (fun v_1 h => ?_)
  refine lv_iconst (v := 0) C0.1 C0.2.1 d_Face_greatestBottom_4 (by decide) ?_
  refine x_aald C0 hE hH (t := 3) rfl d_Face_greatestBottom_5 h (fun v_2 h => ?_)
  obtain ⟨b_4, e9, h⟩ := Option.bind_eq_some_iff.mp h
  obtain ⟨e8, fs9, hb9⟩ := xo_inv e9
  obtain ⟨q_3, e9, h⟩ := Option.bind_eq_some_iff.mp h
  refine x_callP (va_runV (As := []) (rest := []) C0 (c_Piece_bottom l G w _ b_4 q_3 e9) (x_cwV 0 C0 kw_2_174 kw_2_177 kw_1_12 kw_2_175 kw_2_176 (by decide +kernel) (x_rm hR1 hR2 (Nat.le_of_ble_eq_true rfl) (Nat.le_of_ble_eq_true rfl))) (x_preV hE hH hS (ci := 2) rfl hb9) rfl rfl hl.1 (by rw [e8]; rfl) (lv_room (by first | exact Nat.le_of_ble_eq_true rfl | simp only [List.map_cons, List.map_nil, List.sum_cons, List.sum_nil, va_rf_cat, x_catI, x_catL, x_catA] <;> decide)) d_Face_greatestBottom_6 (x_le0 hR3 hR4)) ?_
  refine x_istore_n (lv' := [(1, .inl q_3), (0, .inr (.inl (some h0)))]) C0 hl d_Face_greatestBottom_9 rfl (by decide) rfl (fun ls hl => ?_)
  refine x_aload_n C0 hl 1 d_Face_greatestBottom_10 rfl rfl ?_
  refine x_getR C0 hE hH (ci := 3) rfl i_Face 1 (by decide) kw_2_130 d_Face_greatestBottom_11 h (fun v_5 h => ?_)
  refine x_astore_n (lv' := [(2, .inr (.inl v_5)), (1, .inl q_3), (0, .inr (.inl (some h0)))]) C0 hl d_Face_greatestBottom_14 rfl (by decide) rfl (fun ls hl => ?_)
  refine x_aload_n C0 hl 0 d_Face_greatestBottom_15 rfl rfl ?_
  refine x_alen C0 hE hH (t := 3) rfl d_Face_greatestBottom_16 h (fun v_6 h => ?_)
  refine x_istore_n (lv' := [(3, .inl v_6), (2, .inr (.inl v_5)), (1, .inl q_3), (0, .inr (.inl (some h0)))]) C0 hl d_Face_greatestBottom_17 rfl (by decide) rfl (fun ls hl => ?_)
  refine lv_iconst (v := 0) C0.1 C0.2.1 d_Face_greatestBottom_18 (by decide) ?_
  refine x_istore (lv' := [(4, .inl (0 : Int32)), (3, .inl v_6), (2, .inr (.inl v_5)), (1, .inl q_3), (0, .inr (.inl (some h0)))]) C0 hl d_Face_greatestBottom_19 (by decide) rfl (fun ls hl => ?_)
  obtain ⟨q_10, e9, h⟩ := Option.bind_eq_some_iff.mp h
  refine w_Face_greatestBottom_L21 C0 hE hR1 hR2 hR3 hR4 hH hS hz 100000 _ _ q_10 ls (x_sub hl [3, 2, 1, 0] rfl) e9 (fun ls hl => ?_)
  refine x_iload_n C0 hl 0 d_Face_greatestBottom_49 rfl rfl ?_
  cases h
  rw [hQ]
  exact x_iretP C0 hr hlocks hP0 d_Face_greatestBottom_50
theorem d_Face_greySeen_0 : decode b_Face_greySeen 0 = .ok (.iload_n 1, 1) := by decide +kernel
theorem d_Face_greySeen_1 : decode b_Face_greySeen 1 = .ok (.ifCond .lt 7, 3) := by decide +kernel
theorem d_Face_greySeen_4 : decode b_Face_greySeen 4 = .ok (.iload_n 2, 1) := by decide +kernel
theorem d_Face_greySeen_5 : decode b_Face_greySeen 5 = .ok (.ifCond .ge 5, 3) := by decide +kernel
theorem d_Face_greySeen_8 : decode b_Face_greySeen 8 = .ok (.iconst (-1), 1) := by decide +kernel
theorem d_Face_greySeen_9 : decode b_Face_greySeen 9 = .ok (.ireturn, 1) := by decide +kernel
theorem d_Face_greySeen_10 : decode b_Face_greySeen 10 = .ok (.iload_n 2, 1) := by decide +kernel
theorem d_Face_greySeen_11 : decode b_Face_greySeen 11 = .ok (.aload_n 0, 1) := by decide +kernel
theorem d_Face_greySeen_12 : decode b_Face_greySeen 12 = .ok (.invokevirtual 83, 3) := by decide +kernel
theorem d_Face_greySeen_15 : decode b_Face_greySeen 15 = .ok (.iadd, 1) := by decide +kernel
theorem d_Face_greySeen_16 : decode b_Face_greySeen 16 = .ok (.istore_n 3, 1) := by decide +kernel
theorem d_Face_greySeen_17 : decode b_Face_greySeen 17 = .ok (.aload_n 0, 1) := by decide +kernel
theorem d_Face_greySeen_18 : decode b_Face_greySeen 18 = .ok (.getfield 17, 3) := by decide +kernel
theorem d_Face_greySeen_21 : decode b_Face_greySeen 21 = .ok (.astore 4, 2) := by decide +kernel
theorem d_Face_greySeen_23 : decode b_Face_greySeen 23 = .ok (.aload 4, 2) := by decide +kernel
theorem d_Face_greySeen_25 : decode b_Face_greySeen 25 = .ok (.arraylength, 1) := by decide +kernel
theorem d_Face_greySeen_26 : decode b_Face_greySeen 26 = .ok (.istore 5, 2) := by decide +kernel
theorem d_Face_greySeen_28 : decode b_Face_greySeen 28 = .ok (.iconst 0, 1) := by decide +kernel
theorem d_Face_greySeen_29 : decode b_Face_greySeen 29 = .ok (.istore 6, 2) := by decide +kernel
theorem d_Face_greySeen_31 : decode b_Face_greySeen 31 = .ok (.iload 6, 2) := by decide +kernel
theorem d_Face_greySeen_33 : decode b_Face_greySeen 33 = .ok (.iload 5, 2) := by decide +kernel
theorem d_Face_greySeen_35 : decode b_Face_greySeen 35 = .ok (.if_icmp .ge 46, 3) := by decide +kernel
theorem d_Face_greySeen_38 : decode b_Face_greySeen 38 = .ok (.aload 4, 2) := by decide +kernel
theorem d_Face_greySeen_40 : decode b_Face_greySeen 40 = .ok (.iload 6, 2) := by decide +kernel
theorem d_Face_greySeen_42 : decode b_Face_greySeen 42 = .ok (.aaload, 1) := by decide +kernel
theorem d_Face_greySeen_43 : decode b_Face_greySeen 43 = .ok (.astore 7, 2) := by decide +kernel
theorem d_Face_greySeen_45 : decode b_Face_greySeen 45 = .ok (.aload 7, 2) := by decide +kernel
theorem d_Face_greySeen_47 : decode b_Face_greySeen 47 = .ok (.iload_n 1, 1) := by decide +kernel
theorem d_Face_greySeen_48 : decode b_Face_greySeen 48 = .ok (.aload 7, 2) := by decide +kernel
theorem d_Face_greySeen_50 : decode b_Face_greySeen 50 = .ok (.getfield 42, 3) := by decide +kernel
theorem d_Face_greySeen_53 : decode b_Face_greySeen 53 = .ok (.isub, 1) := by decide +kernel
theorem d_Face_greySeen_54 : decode b_Face_greySeen 54 = .ok (.iload_n 3, 1) := by decide +kernel
theorem d_Face_greySeen_55 : decode b_Face_greySeen 55 = .ok (.aload 7, 2) := by decide +kernel
theorem d_Face_greySeen_57 : decode b_Face_greySeen 57 = .ok (.getfield 48, 3) := by decide +kernel
theorem d_Face_greySeen_60 : decode b_Face_greySeen 60 = .ok (.isub, 1) := by decide +kernel
theorem d_Face_greySeen_61 : decode b_Face_greySeen 61 = .ok (.invokevirtual 61, 3) := by decide +kernel
theorem d_Face_greySeen_64 : decode b_Face_greySeen 64 = .ok (.istore 8, 2) := by decide +kernel
theorem d_Face_greySeen_66 : decode b_Face_greySeen 66 = .ok (.iload 8, 2) := by decide +kernel
theorem d_Face_greySeen_68 : decode b_Face_greySeen 68 = .ok (.iconst (-1), 1) := by decide +kernel
theorem d_Face_greySeen_69 : decode b_Face_greySeen 69 = .ok (.if_icmp .eq 6, 3) := by decide +kernel
theorem d_Face_greySeen_72 : decode b_Face_greySeen 72 = .ok (.iload 8, 2) := by decide +kernel
theorem d_Face_greySeen_74 : decode b_Face_greySeen 74 = .ok (.ireturn, 1) := by decide +kernel
theorem d_Face_greySeen_75 : decode b_Face_greySeen 75 = .ok (.iinc 6 1, 3) := by decide +kernel
theorem d_Face_greySeen_78 : decode b_Face_greySeen 78 = .ok (.goto (-47), 3) := by decide +kernel
theorem d_Face_greySeen_81 : decode b_Face_greySeen 81 = .ok (.iconst (-1), 1) := by decide +kernel
theorem d_Face_greySeen_82 : decode b_Face_greySeen 82 = .ok (.ireturn, 1) := by decide +kernel
def f_Face_greySeen_L31 (w : Mp) (x1 : Int32) (x3 : Int32) (r4 : Option Nat) (x5 : Int32) : Nat → Int32 → Option (Nat × Int32 × Int32)
  | 0, _ => none
  | n + 1, x6 => if x5 ≤ x6 then (some (0, x6, 0)) else ((aR w r4 3 x6).bind fun v_5 => (gI w v_5 2 3).bind fun v_6 => (gI w v_5 2 4).bind fun v_7 => (xo w v_5 2).bind fun b_9 => (f_Piece_greyShown w b_9 (x1 - v_6) (x3 - v_7)).bind fun q_8 => if q_8 = (-1 : Int32) then (f_Face_greySeen_L31 w x1 x3 r4 x5 n (x6 + 1)) else (some (1, x6, q_8)))
set_option maxHeartbeats 4000000 in
set_option maxRecDepth 100000 in
theorem w_Face_greySeen_L31 {p : Program} {l : Launch} {e : Env} {R : Room} {s : State} {m : MethodId} {args : Array Value} {below : List Frame} {meth : Method} {c : Code} {Q : State → Prop} {cells slots sz : Nat} {G : Gx} {x1 : Int32} {x3 : Int32} {r4 : Option Nat} {x5 : Int32} (C0 : CallFix p m c b_Face_greySeen 9 s args wA R_Face) (hE : xE G vwCl xaty s) (hR1 : 3 ≤ R.frames) (hR2 : 68 ≤ R.locals) (hR3 : cells ≤ R.cells) (hR4 : slots ≤ R.slots) {w : Mp} {H : Heap} {locs : List Loc} (hH : xhd G vwCl w H) (hS : xS G s H locs) (hz : H.size = sz) : ∀ (n : Nat) (x6 : Int32) (q : Nat × Int32 × Int32) (ls : Array Slot), xL ls 9 [(1, .inl x1), (3, .inl x3), (4, .inr (.inl r4)), (5, .inl x5), (6, .inl x6)] → f_Face_greySeen_L31 w x1 x3 r4 x5 n x6 = some q → ((q.1 = 0 → ∀ (ls : Array Slot), xL ls 9 [(1, .inl x1), (3, .inl x3), (4, .inr (.inl r4)), (5, .inl x5), (6, .inl q.2.1)] → W p l e R s m args below meth c H locs cells slots Q (F0 m 81 ls [])) ∧ (q.1 = 1 → ∀ (ls : Array Slot), xL ls 9 [(1, .inl x1), (3, .inl x3), (4, .inr (.inl r4)), (5, .inl x5), (6, .inl q.2.1), (8, .inl q.2.2)] → W p l e R s m args below meth c H locs cells slots Q (F0 m 72 ls []))) → W p l e R s m args below meth c H locs cells slots Q (F0 m 31 ls []) := by
  intro n
  induction n with
  | zero => intro _ q ls hl h; cases h
  | succ n ih =>
    intro x6 q ls hl h K
    rw [f_Face_greySeen_L31] at h
    refine x_iload C0 hl 4 d_Face_greySeen_31 rfl ?_
    refine x_iload C0 hl 3 d_Face_greySeen_33 rfl ?_
    refine x_icmp_ge C0 81 d_Face_greySeen_35 (by decide) h (fun h => ?_) (fun h => ?_)
    · cases h
      exact K.1 rfl ls (x_sub hl [0, 1, 2, 3, 4] rfl)
    · refine x_aload C0 hl 2 d_Face_greySeen_38 rfl ?_
      refine x_iload C0 hl 4 d_Face_greySeen_40 rfl ?_
      refine x_aald C0 hE hH (t := 3) rfl d_Face_greySeen_42 h (fun v_5 h => ?_)
      refine x_astore (lv' := [(7, .inr (.inl v_5)), (1, .inl x1), (3, .inl x3), (4, .inr (.inl r4)), (5, .inl x5), (6, .inl x6)]) C0 hl d_Face_greySeen_43 (by decide) rfl (fun ls hl => ?_)
      refine x_aload C0 hl 0 d_Face_greySeen_45 rfl ?_
      refine x_iload_n C0 hl 1 d_Face_greySeen_47 rfl rfl ?_
      refine x_aload C0 hl 0 d_Face_greySeen_48 rfl ?_
      refine x_getI C0 hE hH (ci := 2) rfl i_Piece 3 (by decide) kw_2_112 d_Face_greySeen_50 h (fun v_6 h => ?_)
      refine lv_isub C0.1 C0.2.1 d_Face_greySeen_53 ?_
      refine x_iload_n C0 hl 2 d_Face_greySeen_54 rfl rfl ?_
      refine x_aload C0 hl 0 d_Face_greySeen_55 rfl ?_
      refine x_getI C0 hE hH (ci := 2) rfl i_Piece 4 (by decide) kw_2_115 d_Face_greySeen_57 h (fun v_7 h => ?_)
      refine lv_isub C0.1 C0.2.1 d_Face_greySeen_60 ?_
      obtain ⟨b_9, e9, h⟩ := Option.bind_eq_some_iff.mp h
      obtain ⟨e8, fs9, hb9⟩ := xo_inv e9
      obtain ⟨q_8, e9, h⟩ := Option.bind_eq_some_iff.mp h
      refine x_callP (va_runV (As := [.int (x1 - v_6), .int (x3 - v_7)]) (rest := []) C0 (c_Piece_greyShown l G w _ b_9 (x1 - v_6) (x3 - v_7) q_8 e9) (x_cwV 2 C0 kw_2_188 kw_2_191 kw_1_12 kw_2_189 kw_2_190 (by decide +kernel) (x_rm hR1 hR2 (Nat.le_of_ble_eq_true rfl) (Nat.le_of_ble_eq_true rfl))) (x_preV hE hH hS (ci := 2) rfl hb9) rfl rfl hl.1 (by rw [e8]; rfl) (lv_room (by first | exact Nat.le_of_ble_eq_true rfl | simp only [List.map_cons, List.map_nil, List.sum_cons, List.sum_nil, va_rf_cat, x_catI, x_catL, x_catA] <;> decide)) d_Face_greySeen_61 (x_le0 hR3 hR4)) ?_
      refine x_istore (lv' := [(8, .inl q_8), (7, .inr (.inl v_5)), (1, .inl x1), (3, .inl x3), (4, .inr (.inl r4)), (5, .inl x5), (6, .inl x6)]) C0 hl d_Face_greySeen_64 (by decide) rfl (fun ls hl => ?_)
      refine x_iload C0 hl 0 d_Face_greySeen_66 rfl ?_
      refine lv_iconst (v := -1) C0.1 C0.2.1 d_Face_greySeen_68 (by decide) ?_
      refine x_icmp_eq C0 75 d_Face_greySeen_69 (by decide) h (fun h => ?_) (fun h => ?_)
      · refine x_iinc (v := 1) (lv' := [(6, .inl (x6 + 1)), (8, .inl q_8), (7, .inr (.inl v_5)), (1, .inl x1), (3, .inl x3), (4, .inr (.inl r4)), (5, .inl x5)]) C0 hl 6 d_Face_greySeen_75 rfl (by decide) (by decide) rfl (fun ls hl => ?_)
        refine x_goto C0 31 d_Face_greySeen_78 (by decide) ?_
        exact ih _ q ls (x_sub hl [3, 4, 5, 6, 0] rfl) h K
      · cases h
        exact K.2 rfl ls (x_sub hl [2, 3, 4, 5, 6, 0] rfl)
def f_Face_greySeen (w : Mp) (h0 : Nat) (x1 : Int32) (x2 : Int32) : Option (Int32) := if x1 < 0 then (some (-1 : Int32)) else (if 0 ≤ x2 then ((xo w (some h0) 3).bind fun b_2 => (f_Face_leastTop w b_2).bind fun q_1 => (gR w (some h0) 3 1).bind fun v_3 => (aL w v_3 3).bind fun v_4 => (f_Face_greySeen_L31 w x1 (x2 + q_1) v_3 v_4 100000 (0 : Int32)).bind fun q_10 => if q_10.1 = 0 then (some (-1 : Int32)) else (if q_10.1 = 1 then (some q_10.2.2) else (none))) else (some (-1 : Int32)))
set_option maxHeartbeats 4000000 in
set_option maxRecDepth 100000 in
theorem c_Face_greySeen (l : Launch) (G : Gx) (w : Mp) (sz : Nat) (h0 : Nat) (x1 : Int32) (x2 : Int32) (res : Int32) (hf : f_Face_greySeen w h0 x1 x2 = some res) : Met l y_Face_greySeen (xws y_Face_greySeen b_Face_greySeen 9 (some .int)) { frames := 3, cells := 0, slots := 0, locals := 68 } (xPc G vwCl xaty w sz [va_rf (some h0), .int x1, .int x2]) (qP (some (.int res))) (0) (0) (fun _ => False) := by
  refine Met.ofW (cc := b_Face_greySeen) (maxL := 9) (ret := (some .int)) (by decide) rfl ?_
  intro p e s m args below meth c s₁ B hml hv
  obtain ⟨ha, hE, hH, hz⟩ := hv
  have C0 : CallFix p m c b_Face_greySeen 9 s args wA R_Face := ⟨B.exec, B.bytes, hml, findClass_of_methodNamed B.named, fun w hw => atoms_spec (ws := xws y_Face_greySeen b_Face_greySeen 9 (some .int)) B.pre w (List.mem_cons_of_mem _ hw)⟩
  have hr := B.returns
  have hlocks := B.notSynchronized
  obtain ⟨R, hR⟩ : ∃ R, R = (headSpec (xws y_Face_greySeen b_Face_greySeen 9 (some .int)) { frames := 3, cells := 0, slots := 0, locals := 68 }).room := ⟨_, rfl⟩
  have hR1 : 3 ≤ R.frames := by rw [hR]; exact Nat.le_of_ble_eq_true rfl
  have hR2 : 68 ≤ R.locals := by rw [hR]; exact Nat.le_of_ble_eq_true rfl
  have hR3 : 0 ≤ R.cells := by rw [hR]; exact Nat.le_refl _
  have hR4 : 0 ≤ R.slots := by rw [hR]; exact Nat.le_refl _
  rw [← hR]
  obtain ⟨Q, hQ⟩ : ∃ Q, Q = MQ below (qP (some (.int res))) args s (0) (0) (fun _ => False) := ⟨_, rfl⟩
  rw [← hQ]
  have hS : xS G s s.heap [] := va_S.rf
  obtain ⟨ls, he, hl⟩ := x_entry m [.inr (.inl (some h0)), .inl x1, .inl x2] 9 (Nat.le_of_ble_eq_true rfl)
  rw [show entryFrame m args 9 = F0 m 0 ls [] by rw [ha]; exact he]
  have hl : xL ls 9 [(0, .inr (.inl (some h0))), (1, .inl x1), (2, .inl x2)] := hl
  have h := hf
  unfold f_Face_greySeen at h
  suffices hmain : ∀ (H : Heap) (locs : List Loc), xhd G vwCl w H → xS G s H locs → H.size = sz → (H = s.heap ∧ locs = []) → W p l e R s m args below meth c H locs 0 0 Q (F0 m 0 ls []) from hmain _ _ hH hS hz ⟨rfl, rfl⟩
  clear hH hS hz
  intro H locs hH hS hz hP0
  refine x_iload_n C0 hl 1 d_Face_greySeen_0 rfl rfl ?_
  refine x_if_lt C0 8 d_Face_greySeen_1 (by decide) h (fun h => ?_) (fun h => ?_)
  · refine lv_iconst (v := -1) C0.1 C0.2.1 d_Face_greySeen_8 (by decide) ?_
    cases h
    rw [hQ]
    exact x_iretP C0 hr hlocks hP0 d_Face_greySeen_9
  · refine x_iload_n C0 hl 2 d_Face_greySeen_4 rfl rfl ?_
    refine x_if_ge C0 10 d_Face_greySeen_5 (by decide) h (fun h => ?_) (fun h => ?_)
    · refine x_iload_n C0 hl 2 d_Face_greySeen_10 rfl rfl ?_
      refine x_aload_n C0 hl 0 d_Face_greySeen_11 rfl rfl ?_
      obtain ⟨b_2, e9, h⟩ := Option.bind_eq_some_iff.mp h
      obtain ⟨e8, fs9, hb9⟩ := xo_inv e9
      obtain ⟨q_1, e9, h⟩ := Option.bind_eq_some_iff.mp h
      refine x_callP (va_runV (As := []) (rest := [.int x2]) C0 (c_Face_leastTop l G w _ b_2 q_1 e9) (x_cwV 0 C0 kw_2_212 kw_2_215 kw_1_11 kw_2_213 kw_2_214 (by decide +kernel) (x_rm hR1 hR2 (Nat.le_of_ble_eq_true rfl) (Nat.le_of_ble_eq_true rfl))) (x_preV hE hH hS (ci := 3) rfl hb9) rfl rfl hl.1 (by rw [e8]; rfl) (lv_room (by first | exact Nat.le_of_ble_eq_true rfl | simp only [List.map_cons, List.map_nil, List.sum_cons, List.sum_nil, va_rf_cat, x_catI, x_catL, x_catA] <;> decide)) d_Face_greySeen_12 (x_le0 hR3 hR4)) ?_
      refine lv_iadd C0.1 C0.2.1 d_Face_greySeen_15 ?_
      refine x_istore_n (lv' := [(3, .inl (x2 + q_1)), (0, .inr (.inl (some h0))), (1, .inl x1), (2, .inl x2)]) C0 hl d_Face_greySeen_16 rfl (by decide) rfl (fun ls hl => ?_)
      refine x_aload_n C0 hl 1 d_Face_greySeen_17 rfl rfl ?_
      refine x_getR C0 hE hH (ci := 3) rfl i_Face 1 (by decide) kw_2_130 d_Face_greySeen_18 h (fun v_3 h => ?_)
      refine x_astore (lv' := [(4, .inr (.inl v_3)), (3, .inl (x2 + q_1)), (0, .inr (.inl (some h0))), (1, .inl x1), (2, .inl x2)]) C0 hl d_Face_greySeen_21 (by decide) rfl (fun ls hl => ?_)
      refine x_aload C0 hl 0 d_Face_greySeen_23 rfl ?_
      refine x_alen C0 hE hH (t := 3) rfl d_Face_greySeen_25 h (fun v_4 h => ?_)
      refine x_istore (lv' := [(5, .inl v_4), (4, .inr (.inl v_3)), (3, .inl (x2 + q_1)), (0, .inr (.inl (some h0))), (1, .inl x1), (2, .inl x2)]) C0 hl d_Face_greySeen_26 (by decide) rfl (fun ls hl => ?_)
      refine lv_iconst (v := 0) C0.1 C0.2.1 d_Face_greySeen_28 (by decide) ?_
      refine x_istore (lv' := [(6, .inl (0 : Int32)), (5, .inl v_4), (4, .inr (.inl v_3)), (3, .inl (x2 + q_1)), (0, .inr (.inl (some h0))), (1, .inl x1), (2, .inl x2)]) C0 hl d_Face_greySeen_29 (by decide) rfl (fun ls hl => ?_)
      obtain ⟨q_10, e9, h⟩ := Option.bind_eq_some_iff.mp h
      refine w_Face_greySeen_L31 C0 hE hR1 hR2 hR3 hR4 hH hS hz 100000 _ q_10 ls (x_sub hl [5, 3, 2, 1, 0] rfl) e9 ⟨fun z9 ls hl => ?_, fun z9 ls hl => ?_⟩
      · rw [if_pos z9] at h
        refine lv_iconst (v := -1) C0.1 C0.2.1 d_Face_greySeen_81 (by decide) ?_
        cases h
        rw [hQ]
        exact x_iretP C0 hr hlocks hP0 d_Face_greySeen_82
      · rw [if_neg (by rw [z9]; decide), if_pos z9] at h
        refine x_iload C0 hl 5 d_Face_greySeen_72 rfl ?_
        cases h
        rw [hQ]
        exact x_iretP C0 hr hlocks hP0 d_Face_greySeen_74
    · refine lv_iconst (v := -1) C0.1 C0.2.1 d_Face_greySeen_8 (by decide) ?_
      cases h
      rw [hQ]
      exact x_iretP C0 hr hlocks hP0 d_Face_greySeen_9
theorem d_Face_isBalanced_0 : decode b_Face_isBalanced 0 = .ok (.aload_n 0, 1) := by decide +kernel
theorem d_Face_isBalanced_1 : decode b_Face_isBalanced 1 = .ok (.invokevirtual 86, 3) := by decide +kernel
theorem d_Face_isBalanced_4 : decode b_Face_isBalanced 4 = .ok (.istore_n 1, 1) := by decide +kernel
theorem d_Face_isBalanced_5 : decode b_Face_isBalanced 5 = .ok (.aload_n 0, 1) := by decide +kernel
theorem d_Face_isBalanced_6 : decode b_Face_isBalanced 6 = .ok (.getfield 17, 3) := by decide +kernel
theorem d_Face_isBalanced_9 : decode b_Face_isBalanced 9 = .ok (.astore_n 2, 1) := by decide +kernel
theorem d_Face_isBalanced_10 : decode b_Face_isBalanced 10 = .ok (.aload_n 2, 1) := by decide +kernel
theorem d_Face_isBalanced_11 : decode b_Face_isBalanced 11 = .ok (.arraylength, 1) := by decide +kernel
theorem d_Face_isBalanced_12 : decode b_Face_isBalanced 12 = .ok (.istore_n 3, 1) := by decide +kernel
theorem d_Face_isBalanced_13 : decode b_Face_isBalanced 13 = .ok (.iconst 0, 1) := by decide +kernel
theorem d_Face_isBalanced_14 : decode b_Face_isBalanced 14 = .ok (.istore 4, 2) := by decide +kernel
theorem d_Face_isBalanced_16 : decode b_Face_isBalanced 16 = .ok (.iload 4, 2) := by decide +kernel
theorem d_Face_isBalanced_18 : decode b_Face_isBalanced 18 = .ok (.iload_n 3, 1) := by decide +kernel
theorem d_Face_isBalanced_19 : decode b_Face_isBalanced 19 = .ok (.if_icmp .ge 43, 3) := by decide +kernel
theorem d_Face_isBalanced_22 : decode b_Face_isBalanced 22 = .ok (.aload_n 2, 1) := by decide +kernel
theorem d_Face_isBalanced_23 : decode b_Face_isBalanced 23 = .ok (.iload 4, 2) := by decide +kernel
theorem d_Face_isBalanced_25 : decode b_Face_isBalanced 25 = .ok (.aaload, 1) := by decide +kernel
theorem d_Face_isBalanced_26 : decode b_Face_isBalanced 26 = .ok (.astore 5, 2) := by decide +kernel
theorem d_Face_isBalanced_28 : decode b_Face_isBalanced 28 = .ok (.iconst 2, 1) := by decide +kernel
theorem d_Face_isBalanced_29 : decode b_Face_isBalanced 29 = .ok (.aload 5, 2) := by decide +kernel
theorem d_Face_isBalanced_31 : decode b_Face_isBalanced 31 = .ok (.getfield 42, 3) := by decide +kernel
theorem d_Face_isBalanced_34 : decode b_Face_isBalanced 34 = .ok (.imul, 1) := by decide +kernel
theorem d_Face_isBalanced_35 : decode b_Face_isBalanced 35 = .ok (.iload_n 1, 1) := by decide +kernel
theorem d_Face_isBalanced_36 : decode b_Face_isBalanced 36 = .ok (.if_icmp .eq 18, 3) := by decide +kernel
theorem d_Face_isBalanced_39 : decode b_Face_isBalanced 39 = .ok (.aload 5, 2) := by decide +kernel
theorem d_Face_isBalanced_41 : decode b_Face_isBalanced 41 = .ok (.getfield 42, 3) := by decide +kernel
theorem d_Face_isBalanced_44 : decode b_Face_isBalanced 44 = .ok (.aload 5, 2) := by decide +kernel
theorem d_Face_isBalanced_46 : decode b_Face_isBalanced 46 = .ok (.invokevirtual 38, 3) := by decide +kernel
theorem d_Face_isBalanced_49 : decode b_Face_isBalanced 49 = .ok (.iadd, 1) := by decide +kernel
theorem d_Face_isBalanced_50 : decode b_Face_isBalanced 50 = .ok (.iload_n 1, 1) := by decide +kernel
theorem d_Face_isBalanced_51 : decode b_Face_isBalanced 51 = .ok (.if_icmp .ne 5, 3) := by decide +kernel
theorem d_Face_isBalanced_54 : decode b_Face_isBalanced 54 = .ok (.iconst 1, 1) := by decide +kernel
theorem d_Face_isBalanced_55 : decode b_Face_isBalanced 55 = .ok (.ireturn, 1) := by decide +kernel
theorem d_Face_isBalanced_56 : decode b_Face_isBalanced 56 = .ok (.iinc 4 1, 3) := by decide +kernel
theorem d_Face_isBalanced_59 : decode b_Face_isBalanced 59 = .ok (.goto (-43), 3) := by decide +kernel
theorem d_Face_isBalanced_62 : decode b_Face_isBalanced 62 = .ok (.iconst 0, 1) := by decide +kernel
theorem d_Face_isBalanced_63 : decode b_Face_isBalanced 63 = .ok (.ireturn, 1) := by decide +kernel
def f_Face_isBalanced_L16 (w : Mp) (x1 : Int32) (r2 : Option Nat) (x3 : Int32) : Nat → Int32 → Option (Nat × Int32)
  | 0, _ => none
  | n + 1, x4 => if x3 ≤ x4 then (some (0, x4)) else ((aR w r2 3 x4).bind fun v_5 => (gI w v_5 2 3).bind fun v_6 => if ((2 : Int32) * v_6) = x1 then (some (1, x4)) else ((gI w v_5 2 3).bind fun v_7 => (xo w v_5 2).bind fun b_9 => (f_Piece_end w b_9).bind fun q_8 => if (v_7 + q_8) = x1 then (some (1, x4)) else (f_Face_isBalanced_L16 w x1 r2 x3 n (x4 + 1))))
set_option maxHeartbeats 4000000 in
set_option maxRecDepth 100000 in
theorem w_Face_isBalanced_L16 {p : Program} {l : Launch} {e : Env} {R : Room} {s : State} {m : MethodId} {args : Array Value} {below : List Frame} {meth : Method} {c : Code} {Q : State → Prop} {cells slots sz : Nat} {G : Gx} {x1 : Int32} {r2 : Option Nat} {x3 : Int32} (C0 : CallFix p m c b_Face_isBalanced 6 s args wA R_Face) (hE : xE G vwCl xaty s) (hR1 : 2 ≤ R.frames) (hR2 : 49 ≤ R.locals) (hR3 : cells ≤ R.cells) (hR4 : slots ≤ R.slots) {w : Mp} {H : Heap} {locs : List Loc} (hH : xhd G vwCl w H) (hS : xS G s H locs) (hz : H.size = sz) : ∀ (n : Nat) (x4 : Int32) (q : Nat × Int32) (ls : Array Slot), xL ls 6 [(1, .inl x1), (2, .inr (.inl r2)), (3, .inl x3), (4, .inl x4)] → f_Face_isBalanced_L16 w x1 r2 x3 n x4 = some q → ((q.1 = 0 → ∀ (ls : Array Slot), xL ls 6 [(1, .inl x1), (2, .inr (.inl r2)), (3, .inl x3), (4, .inl q.2)] → W p l e R s m args below meth c H locs cells slots Q (F0 m 62 ls [])) ∧ (q.1 = 1 → ∀ (ls : Array Slot), xL ls 6 [(1, .inl x1), (2, .inr (.inl r2)), (3, .inl x3), (4, .inl q.2)] → W p l e R s m args below meth c H locs cells slots Q (F0 m 54 ls []))) → W p l e R s m args below meth c H locs cells slots Q (F0 m 16 ls []) := by
  intro n
  induction n with
  | zero => intro _ q ls hl h; cases h
  | succ n ih =>
    intro x4 q ls hl h K
    rw [f_Face_isBalanced_L16] at h
    refine x_iload C0 hl 3 d_Face_isBalanced_16 rfl ?_
    refine x_iload_n C0 hl 2 d_Face_isBalanced_18 rfl rfl ?_
    refine x_icmp_ge C0 62 d_Face_isBalanced_19 (by decide) h (fun h => ?_) (fun h => ?_)
    · cases h
      exact K.1 rfl ls (x_sub hl [0, 1, 2, 3] rfl)
    · refine x_aload_n C0 hl 1 d_Face_isBalanced_22 rfl rfl ?_
      refine x_iload C0 hl 3 d_Face_isBalanced_23 rfl ?_
      refine x_aald C0 hE hH (t := 3) rfl d_Face_isBalanced_25 h (fun v_5 h => ?_)
      refine x_astore (lv' := [(5, .inr (.inl v_5)), (1, .inl x1), (2, .inr (.inl r2)), (3, .inl x3), (4, .inl x4)]) C0 hl d_Face_isBalanced_26 (by decide) rfl (fun ls hl => ?_)
      refine lv_iconst (v := 2) C0.1 C0.2.1 d_Face_isBalanced_28 (by decide) ?_
      refine x_aload C0 hl 0 d_Face_isBalanced_29 rfl ?_
      refine x_getI C0 hE hH (ci := 2) rfl i_Piece 3 (by decide) kw_2_112 d_Face_isBalanced_31 h (fun v_6 h => ?_)
      refine lv_imul C0.1 C0.2.1 d_Face_isBalanced_34 ?_
      refine x_iload_n C0 hl 1 d_Face_isBalanced_35 rfl rfl ?_
      refine x_icmp_eq C0 54 d_Face_isBalanced_36 (by decide) h (fun h => ?_) (fun h => ?_)
      · cases h
        exact K.2 rfl ls (x_sub hl [1, 2, 3, 4] rfl)
      · refine x_aload C0 hl 0 d_Face_isBalanced_39 rfl ?_
        refine x_getI C0 hE hH (ci := 2) rfl i_Piece 3 (by decide) kw_2_112 d_Face_isBalanced_41 h (fun v_7 h => ?_)
        refine x_aload C0 hl 0 d_Face_isBalanced_44 rfl ?_
        obtain ⟨b_9, e9, h⟩ := Option.bind_eq_some_iff.mp h
        obtain ⟨e8, fs9, hb9⟩ := xo_inv e9
        obtain ⟨q_8, e9, h⟩ := Option.bind_eq_some_iff.mp h
        refine x_callP (va_runV (As := []) (rest := [.int v_7]) C0 (c_Piece_end l G w _ b_9 q_8 e9) (x_cwV 0 C0 kw_2_170 kw_2_173 kw_1_12 kw_2_171 kw_2_172 (by decide +kernel) (x_rm hR1 hR2 (Nat.le_of_ble_eq_true rfl) (Nat.le_of_ble_eq_true rfl))) (x_preV hE hH hS (ci := 2) rfl hb9) rfl rfl hl.1 (by rw [e8]; rfl) (lv_room (by first | exact Nat.le_of_ble_eq_true rfl | simp only [List.map_cons, List.map_nil, List.sum_cons, List.sum_nil, va_rf_cat, x_catI, x_catL, x_catA] <;> decide)) d_Face_isBalanced_46 (x_le0 hR3 hR4)) ?_
        refine lv_iadd C0.1 C0.2.1 d_Face_isBalanced_49 ?_
        refine x_iload_n C0 hl 1 d_Face_isBalanced_50 rfl rfl ?_
        refine x_icmp_ne C0 56 d_Face_isBalanced_51 (by decide) h (fun h => ?_) (fun h => ?_)
        · refine x_iinc (v := 1) (lv' := [(4, .inl (x4 + 1)), (5, .inr (.inl v_5)), (1, .inl x1), (2, .inr (.inl r2)), (3, .inl x3)]) C0 hl 4 d_Face_isBalanced_56 rfl (by decide) (by decide) rfl (fun ls hl => ?_)
          refine x_goto C0 16 d_Face_isBalanced_59 (by decide) ?_
          exact ih _ q ls (x_sub hl [2, 3, 4, 0] rfl) h K
        · cases h
          exact K.2 rfl ls (x_sub hl [1, 2, 3, 4] rfl)
def f_Face_isBalanced (w : Mp) (h0 : Nat) : Option (Int32) := (xo w (some h0) 3).bind fun b_2 => (f_Face_sizeAcross w b_2).bind fun q_1 => (gR w (some h0) 3 1).bind fun v_3 => (aL w v_3 3).bind fun v_4 => (f_Face_isBalanced_L16 w q_1 v_3 v_4 100000 (0 : Int32)).bind fun q_10 => if q_10.1 = 0 then (some (0 : Int32)) else (if q_10.1 = 1 then (some (1 : Int32)) else (none))
set_option maxHeartbeats 4000000 in
set_option maxRecDepth 100000 in
theorem c_Face_isBalanced (l : Launch) (G : Gx) (w : Mp) (sz : Nat) (h0 : Nat) (res : Int32) (hf : f_Face_isBalanced w h0 = some res) : Met l y_Face_isBalanced (xws y_Face_isBalanced b_Face_isBalanced 6 (some .boolean)) { frames := 2, cells := 0, slots := 0, locals := 49 } (xPc G vwCl xaty w sz [va_rf (some h0)]) (qP (some (.int res))) (0) (0) (fun _ => False) := by
  refine Met.ofW (cc := b_Face_isBalanced) (maxL := 6) (ret := (some .boolean)) (by decide) rfl ?_
  intro p e s m args below meth c s₁ B hml hv
  obtain ⟨ha, hE, hH, hz⟩ := hv
  have C0 : CallFix p m c b_Face_isBalanced 6 s args wA R_Face := ⟨B.exec, B.bytes, hml, findClass_of_methodNamed B.named, fun w hw => atoms_spec (ws := xws y_Face_isBalanced b_Face_isBalanced 6 (some .boolean)) B.pre w (List.mem_cons_of_mem _ hw)⟩
  have hr := B.returns
  have hlocks := B.notSynchronized
  obtain ⟨R, hR⟩ : ∃ R, R = (headSpec (xws y_Face_isBalanced b_Face_isBalanced 6 (some .boolean)) { frames := 2, cells := 0, slots := 0, locals := 49 }).room := ⟨_, rfl⟩
  have hR1 : 2 ≤ R.frames := by rw [hR]; exact Nat.le_of_ble_eq_true rfl
  have hR2 : 49 ≤ R.locals := by rw [hR]; exact Nat.le_of_ble_eq_true rfl
  have hR3 : 0 ≤ R.cells := by rw [hR]; exact Nat.le_refl _
  have hR4 : 0 ≤ R.slots := by rw [hR]; exact Nat.le_refl _
  rw [← hR]
  obtain ⟨Q, hQ⟩ : ∃ Q, Q = MQ below (qP (some (.int res))) args s (0) (0) (fun _ => False) := ⟨_, rfl⟩
  rw [← hQ]
  have hS : xS G s s.heap [] := va_S.rf
  obtain ⟨ls, he, hl⟩ := x_entry m [.inr (.inl (some h0))] 6 (Nat.le_of_ble_eq_true rfl)
  rw [show entryFrame m args 6 = F0 m 0 ls [] by rw [ha]; exact he]
  have hl : xL ls 6 [(0, .inr (.inl (some h0)))] := hl
  have h := hf
  unfold f_Face_isBalanced at h
  suffices hmain : ∀ (H : Heap) (locs : List Loc), xhd G vwCl w H → xS G s H locs → H.size = sz → (H = s.heap ∧ locs = []) → W p l e R s m args below meth c H locs 0 0 Q (F0 m 0 ls []) from hmain _ _ hH hS hz ⟨rfl, rfl⟩
  clear hH hS hz
  intro H locs hH hS hz hP0
  refine x_aload_n C0 hl 0 d_Face_isBalanced_0 rfl rfl ?_
  obtain ⟨b_2, e9, h⟩ := Option.bind_eq_some_iff.mp h
  obtain ⟨e8, fs9, hb9⟩ := xo_inv e9
  obtain ⟨q_1, e9, h⟩ := Option.bind_eq_some_iff.mp h
  refine x_callP (va_runV (As := []) (rest := []) C0 (c_Face_sizeAcross l G w _ b_2 q_1 e9) (x_cwV 0 C0 kw_3_39 kw_2_229 kw_1_11 kw_2_227 kw_2_228 (by decide +kernel) (x_rm hR1 hR2 (Nat.le_of_ble_eq_true rfl) (Nat.le_of_ble_eq_true rfl))) (x_preV hE hH hS (ci := 3) rfl hb9) rfl rfl hl.1 (by rw [e8]; rfl) (lv_room (by first | exact Nat.le_of_ble_eq_true rfl | simp only [List.map_cons, List.map_nil, List.sum_cons, List.sum_nil, va_rf_cat, x_catI, x_catL, x_catA] <;> decide)) d_Face_isBalanced_1 (x_le0 hR3 hR4)) ?_
  refine x_istore_n (lv' := [(1, .inl q_1), (0, .inr (.inl (some h0)))]) C0 hl d_Face_isBalanced_4 rfl (by decide) rfl (fun ls hl => ?_)
  refine x_aload_n C0 hl 1 d_Face_isBalanced_5 rfl rfl ?_
  refine x_getR C0 hE hH (ci := 3) rfl i_Face 1 (by decide) kw_2_130 d_Face_isBalanced_6 h (fun v_3 h => ?_)
  refine x_astore_n (lv' := [(2, .inr (.inl v_3)), (1, .inl q_1), (0, .inr (.inl (some h0)))]) C0 hl d_Face_isBalanced_9 rfl (by decide) rfl (fun ls hl => ?_)
  refine x_aload_n C0 hl 0 d_Face_isBalanced_10 rfl rfl ?_
  refine x_alen C0 hE hH (t := 3) rfl d_Face_isBalanced_11 h (fun v_4 h => ?_)
  refine x_istore_n (lv' := [(3, .inl v_4), (2, .inr (.inl v_3)), (1, .inl q_1), (0, .inr (.inl (some h0)))]) C0 hl d_Face_isBalanced_12 rfl (by decide) rfl (fun ls hl => ?_)
  refine lv_iconst (v := 0) C0.1 C0.2.1 d_Face_isBalanced_13 (by decide) ?_
  refine x_istore (lv' := [(4, .inl (0 : Int32)), (3, .inl v_4), (2, .inr (.inl v_3)), (1, .inl q_1), (0, .inr (.inl (some h0)))]) C0 hl d_Face_isBalanced_14 (by decide) rfl (fun ls hl => ?_)
  obtain ⟨q_10, e9, h⟩ := Option.bind_eq_some_iff.mp h
  refine w_Face_isBalanced_L16 C0 hE hR1 hR2 hR3 hR4 hH hS hz 100000 _ q_10 ls (x_sub hl [3, 2, 1, 0] rfl) e9 ⟨fun z9 ls hl => ?_, fun z9 ls hl => ?_⟩
  · rw [if_pos z9] at h
    refine lv_iconst (v := 0) C0.1 C0.2.1 d_Face_isBalanced_62 (by decide) ?_
    cases h
    rw [hQ]
    exact x_zretP C0 hr hlocks hP0 rfl d_Face_isBalanced_63
  · rw [if_neg (by rw [z9]; decide), if_pos z9] at h
    refine lv_iconst (v := 1) C0.1 C0.2.1 d_Face_isBalanced_54 (by decide) ?_
    cases h
    rw [hQ]
    exact x_zretP C0 hr hlocks hP0 rfl d_Face_isBalanced_55
