theorem kw_0_10 : (Jvm.Cond.selects "LeafMatches$Planner" ({ cls := "LeafMatches$Planner", name := "findRow", desc := "([LLeafMatches$Leaf;III)V" } : Jvm.MethodName) ({ cls := "LeafMatches$Planner", name := "findRow", desc := "([LLeafMatches$Leaf;III)V" } : Jvm.MethodName)) ∈ wA := ku_0 10 rfl rfl
theorem kw_0_12 : (Jvm.Cond.selects "LeafMatches$Planner" ({ cls := "LeafMatches$Planner", name := "lowerByFace", desc := "(II)V" } : Jvm.MethodName) ({ cls := "LeafMatches$Planner", name := "lowerByFace", desc := "(II)V" } : Jvm.MethodName)) ∈ wA := ku_0 12 rfl rfl
theorem kw_0_14 : (Jvm.Cond.selects "LeafMatches$Planner" ({ cls := "LeafMatches$Planner", name := "faceBegunAt", desc := "(II)I" } : Jvm.MethodName) ({ cls := "LeafMatches$Planner", name := "faceBegunAt", desc := "(II)I" } : Jvm.MethodName)) ∈ wA := ku_0 14 rfl rfl
theorem kw_1_2 : (Jvm.Cond.initialized "LeafMatches$Planner") ∈ wA := ku_1 2 rfl rfl
theorem kw_1_30 : (Jvm.Cond.instanceMethod ({ cls := "java/lang/Object", name := "<init>", desc := "()V" } : Jvm.MethodName)) ∈ wA := ku_1 30 rfl rfl
theorem kw_1_31 : (Jvm.Cond.code ({ cls := "java/lang/Object", name := "<init>", desc := "()V" } : Jvm.MethodName) object_method_1_code (1 : Nat) (Option.none : Option Jvm.ClassFile.FieldType)) ∈ wA := ku_1 31 rfl rfl
theorem kw_1_42 : (Jvm.Cond.fieldLink "LeafMatches$Planner" (9 : Nat) "LeafMatches$Planner" "wanted" "[I") ∈ wA := ku_1 42 rfl rfl
theorem kw_1_44 : (Jvm.Cond.fieldLink "LeafMatches" (216 : Nat) "LeafMatches$Planner" "wantedCount" "I") ∈ wA := ku_1 44 rfl rfl
theorem kw_1_45 : (Jvm.Cond.fieldLink "LeafMatches$Planner" (19 : Nat) "LeafMatches$Planner" "isFound" "Z") ∈ wA := ku_1 45 rfl rfl
theorem kw_1_47 : (Jvm.Cond.fieldLink "LeafMatches$Planner" (23 : Nat) "LeafMatches$Planner" "firstLeaf" "[I") ∈ wA := ku_1 47 rfl rfl
theorem kw_1_49 : (Jvm.Cond.fieldLink "LeafMatches$Planner" (26 : Nat) "LeafMatches$Planner" "rowLength" "[I") ∈ wA := ku_1 49 rfl rfl
theorem kw_1_79 : (Jvm.Cond.fieldLink "LeafMatches" (31 : Nat) "LeafMatches" "planner" "LLeafMatches$Planner;") ∈ wA := ku_1 79 rfl rfl
theorem kw_1_98 : (Jvm.Cond.methodLink "LeafMatches" (227 : Nat) ({ cls := "LeafMatches$Planner", name := "dropWanted", desc := "()V" } : Jvm.MethodName)) ∈ wA := ku_1 98 rfl rfl
theorem kw_1_99 : (Jvm.Cond.instanceMethod ({ cls := "LeafMatches$Planner", name := "dropWanted", desc := "()V" } : Jvm.MethodName)) ∈ wA := ku_1 99 rfl rfl
theorem kw_1_100 : (Jvm.Cond.selects "LeafMatches$Planner" ({ cls := "LeafMatches$Planner", name := "dropWanted", desc := "()V" } : Jvm.MethodName) ({ cls := "LeafMatches$Planner", name := "dropWanted", desc := "()V" } : Jvm.MethodName)) ∈ wA := ku_1 100 rfl rfl
theorem kw_1_101 : (Jvm.Cond.code ({ cls := "LeafMatches$Planner", name := "dropWanted", desc := "()V" } : Jvm.MethodName) prog_5_method_4_code (1 : Nat) (Option.none : Option Jvm.ClassFile.FieldType)) ∈ wA := ku_1 101 rfl rfl
theorem kw_1_211 : (Jvm.Cond.fieldLink "LeafMatches$Planner" (89 : Nat) "LeafMatches$Leaf" "index" "I") ∈ wA := ku_1 211 rfl rfl
theorem kw_1_219 : (Jvm.Cond.fieldLink "LeafMatches$Planner" (76 : Nat) "LeafMatches$Leaf" "width" "I") ∈ wA := ku_1 219 rfl rfl
theorem kw_1_227 : (Jvm.Cond.fieldLink "LeafMatches$Face" (28 : Nat) "LeafMatches$Leaf" "used" "Z") ∈ wA := ku_1 227 rfl rfl
theorem kw_2_103 : (Jvm.Cond.methodLink "LeafMatches$Piece" (1 : Nat) ({ cls := "java/lang/Object", name := "<init>", desc := "()V" } : Jvm.MethodName)) ∈ wA := ku_2 103 rfl rfl
theorem kw_2_178 : (Jvm.Cond.methodLink "LeafMatches$Face" (51 : Nat) ({ cls := "LeafMatches$Face", name := "bestShift", desc := "(I)I" } : Jvm.MethodName)) ∈ wA := ku_2 178 rfl rfl
theorem kw_2_179 : (Jvm.Cond.instanceMethod ({ cls := "LeafMatches$Face", name := "bestShift", desc := "(I)I" } : Jvm.MethodName)) ∈ wA := ku_2 179 rfl rfl
theorem kw_2_180 : (Jvm.Cond.selects "LeafMatches$Face" ({ cls := "LeafMatches$Face", name := "bestShift", desc := "(I)I" } : Jvm.MethodName) ({ cls := "LeafMatches$Face", name := "bestShift", desc := "(I)I" } : Jvm.MethodName)) ∈ wA := ku_2 180 rfl rfl
theorem kw_2_181 : (Jvm.Cond.code ({ cls := "LeafMatches$Face", name := "bestShift", desc := "(I)I" } : Jvm.MethodName) prog_2_method_7_code (6 : Nat) (Option.some Jvm.ClassFile.FieldType.int)) ∈ wA := ku_2 181 rfl rfl
theorem kw_4_40 : (Jvm.Cond.methodLink "LeafMatches$Planner" (66 : Nat) ({ cls := "LeafMatches$Planner", name := "findRow", desc := "([LLeafMatches$Leaf;III)V" } : Jvm.MethodName)) ∈ wA := ku_4 40 rfl rfl
theorem kw_4_42 : (Jvm.Cond.instanceMethod ({ cls := "LeafMatches$Planner", name := "findRow", desc := "([LLeafMatches$Leaf;III)V" } : Jvm.MethodName)) ∈ wA := ku_4 42 rfl rfl
theorem kw_4_43 : (Jvm.Cond.code ({ cls := "LeafMatches$Planner", name := "findRow", desc := "([LLeafMatches$Leaf;III)V" } : Jvm.MethodName) prog_5_method_9_code (8 : Nat) (Option.none : Option Jvm.ClassFile.FieldType)) ∈ wA := ku_4 43 rfl rfl
theorem kw_4_44 : (Jvm.Cond.methodLink "LeafMatches$Planner" (70 : Nat) ({ cls := "LeafMatches$Leaf", name := "follows", desc := "(LLeafMatches$Leaf;)Z" } : Jvm.MethodName)) ∈ wA := ku_4 44 rfl rfl
theorem kw_4_49 : (Jvm.Cond.constant "LeafMatches$Planner" (52 : Nat) (1000000 : Int32)) ∈ wA := ku_4 49 rfl rfl
theorem kw_4_50 : (Jvm.Cond.methodLink "LeafMatches$Planner" (79 : Nat) ({ cls := "LeafMatches$Planner", name := "lowerByFace", desc := "(II)V" } : Jvm.MethodName)) ∈ wA := ku_4 50 rfl rfl
theorem kw_4_52 : (Jvm.Cond.instanceMethod ({ cls := "LeafMatches$Planner", name := "lowerByFace", desc := "(II)V" } : Jvm.MethodName)) ∈ wA := ku_4 52 rfl rfl
theorem kw_4_53 : (Jvm.Cond.code ({ cls := "LeafMatches$Planner", name := "lowerByFace", desc := "(II)V" } : Jvm.MethodName) prog_5_method_11_code (8 : Nat) (Option.none : Option Jvm.ClassFile.FieldType)) ∈ wA := ku_4 53 rfl rfl
theorem kw_4_54 : (Jvm.Cond.methodLink "LeafMatches$Planner" (83 : Nat) ({ cls := "java/lang/Math", name := "min", desc := "(II)I" } : Jvm.MethodName)) ∈ wA := ku_4 54 rfl rfl
theorem kw_4_59 : (Jvm.Cond.methodLink "LeafMatches$Planner" (86 : Nat) ({ cls := "LeafMatches$Planner", name := "faceBegunAt", desc := "(II)I" } : Jvm.MethodName)) ∈ wA := ku_4 59 rfl rfl
theorem kw_4_61 : (Jvm.Cond.instanceMethod ({ cls := "LeafMatches$Planner", name := "faceBegunAt", desc := "(II)I" } : Jvm.MethodName)) ∈ wA := ku_4 61 rfl rfl
theorem kw_4_62 : (Jvm.Cond.code ({ cls := "LeafMatches$Planner", name := "faceBegunAt", desc := "(II)I" } : Jvm.MethodName) prog_5_method_13_code (7 : Nat) (Option.some Jvm.ClassFile.FieldType.int)) ∈ wA := ku_4 62 rfl rfl
theorem d_Plan_dropWanted_0 : decode b_Plan_dropWanted 0 = .ok (.aload_n 0, 1) := by decide +kernel
theorem d_Plan_dropWanted_1 : decode b_Plan_dropWanted 1 = .ok (.iconst 0, 1) := by decide +kernel
theorem d_Plan_dropWanted_2 : decode b_Plan_dropWanted 2 = .ok (.putfield 15, 3) := by decide +kernel
theorem d_Plan_dropWanted_5 : decode b_Plan_dropWanted 5 = .ok (.aload_n 0, 1) := by decide +kernel
theorem d_Plan_dropWanted_6 : decode b_Plan_dropWanted 6 = .ok (.iconst 0, 1) := by decide +kernel
theorem d_Plan_dropWanted_7 : decode b_Plan_dropWanted 7 = .ok (.putfield 19, 3) := by decide +kernel
theorem d_Plan_dropWanted_10 : decode b_Plan_dropWanted 10 = .ok (.return_, 1) := by decide +kernel
def f_Plan_dropWanted (w : Mp) (h0 : Nat) : Option (Unit × Mp) := (pF w (some h0) 4 1 (.int (0 : Int32))).bind fun w_1 => (pF w_1 (some h0) 4 2 (.int (0 : Int32))).bind fun w_2 => some ((), w_2)
set_option maxHeartbeats 4000000 in
set_option maxRecDepth 100000 in
theorem c_Plan_dropWanted (l : Launch) (G : Gx) (w : Mp) (sz : Nat) (h0 : Nat) (res : Unit × Mp) (hf : f_Plan_dropWanted w h0 = some res) : Met l y_Plan_dropWanted (xws y_Plan_dropWanted b_Plan_dropWanted 1 none) { frames := 0, cells := 0, slots := 0, locals := 0 } (xPc G vwCl xaty w sz [va_rf (some h0)]) (xQ G vwCl (none) res.2 sz) (0) (0) (xA G) := by
  refine Met.ofW (cc := b_Plan_dropWanted) (maxL := 1) (ret := none) (by decide) rfl ?_
  intro p e s m args below meth c s₁ B hml hv
  obtain ⟨ha, hE, hH, hz⟩ := hv
  have C0 : CallFix p m c b_Plan_dropWanted 1 s args wA R_Plan := ⟨B.exec, B.bytes, hml, findClass_of_methodNamed B.named, fun w hw => atoms_spec (ws := xws y_Plan_dropWanted b_Plan_dropWanted 1 none) B.pre w (List.mem_cons_of_mem _ hw)⟩
  have hr := B.returns
  have hlocks := B.notSynchronized
  obtain ⟨R, hR⟩ : ∃ R, R = (headSpec (xws y_Plan_dropWanted b_Plan_dropWanted 1 none) { frames := 0, cells := 0, slots := 0, locals := 0 }).room := ⟨_, rfl⟩
  have hR1 : 0 ≤ R.frames := by rw [hR]; exact Nat.le_of_ble_eq_true rfl
  have hR2 : 0 ≤ R.locals := by rw [hR]; exact Nat.le_of_ble_eq_true rfl
  have hR3 : 0 ≤ R.cells := by rw [hR]; exact Nat.le_refl _
  have hR4 : 0 ≤ R.slots := by rw [hR]; exact Nat.le_refl _
  rw [← hR]
  obtain ⟨Q, hQ⟩ : ∃ Q, Q = MQ below (xQ G vwCl (none) res.2 sz) args s (0) (0) (xA G) := ⟨_, rfl⟩
  rw [← hQ]
  have hS : xS G s s.heap [] := va_S.rf
  obtain ⟨ls, he, hl⟩ := x_entry m [.inr (.inl (some h0))] 1 (Nat.le_of_ble_eq_true rfl)
  rw [show entryFrame m args 1 = F0 m 0 ls [] by rw [ha]; exact he]
  have hl : xL ls 1 [(0, .inr (.inl (some h0)))] := hl
  have h := hf
  unfold f_Plan_dropWanted at h
  suffices hmain : ∀ (H : Heap) (locs : List Loc), xhd G vwCl w H → xS G s H locs → H.size = sz → (H = s.heap ∧ locs = []) → W p l e R s m args below meth c H locs 0 0 Q (F0 m 0 ls []) from hmain _ _ hH hS hz ⟨rfl, rfl⟩
  clear hH hS hz
  intro H locs hH hS hz hP0
  refine x_aload_n C0 hl 0 d_Plan_dropWanted_0 rfl rfl ?_
  refine lv_iconst (v := 0) C0.1 C0.2.1 d_Plan_dropWanted_1 (by decide) ?_
  refine x_put C0 hE hH hS (ci := 4) rfl i_Plan t_Plan t_Plan_ok n_Plan 1 (by decide) kw_1_43 rfl rfl rfl d_Plan_dropWanted_2 h (fun w_1 H locs hH hS hz9 h => ?_)
  have hz := hz9.trans hz
  refine x_aload_n C0 hl 0 d_Plan_dropWanted_5 rfl rfl ?_
  refine lv_iconst (v := 0) C0.1 C0.2.1 d_Plan_dropWanted_6 (by decide) ?_
  refine x_put C0 hE hH hS (ci := 4) rfl i_Plan t_Plan t_Plan_ok n_Plan 2 (by decide) kw_1_45 rfl rfl rfl d_Plan_dropWanted_7 h (fun w_2 H locs hH hS hz9 h => ?_)
  have hz := hz9.trans hz
  cases h
  rw [hQ]
  exact x_vret C0 hr hlocks hH hS hz d_Plan_dropWanted_10
theorem d_LM_clear_0 : decode b_LM_clear 0 = .ok (.aload_n 0, 1) := by decide +kernel
theorem d_LM_clear_1 : decode b_LM_clear 1 = .ok (.getfield 31, 3) := by decide +kernel
theorem d_LM_clear_4 : decode b_LM_clear 4 = .ok (.getfield 216, 3) := by decide +kernel
theorem d_LM_clear_7 : decode b_LM_clear 7 = .ok (.istore_n 1, 1) := by decide +kernel
theorem d_LM_clear_8 : decode b_LM_clear 8 = .ok (.aload_n 0, 1) := by decide +kernel
theorem d_LM_clear_9 : decode b_LM_clear 9 = .ok (.getfield 31, 3) := by decide +kernel
theorem d_LM_clear_12 : decode b_LM_clear 12 = .ok (.invokevirtual 227, 3) := by decide +kernel
theorem d_LM_clear_15 : decode b_LM_clear 15 = .ok (.iload_n 1, 1) := by decide +kernel
theorem d_LM_clear_16 : decode b_LM_clear 16 = .ok (.ireturn, 1) := by decide +kernel
def f_LM_clear (w : Mp) (h0 : Nat) : Option (Int32 × Mp) := (gR w (some h0) 0 4).bind fun v_1 => (gI w v_1 4 1).bind fun v_2 => (gR w (some h0) 0 4).bind fun v_3 => (xo w v_3 4).bind fun b_5 => (f_Plan_dropWanted w b_5).bind fun q_4 => some (v_2, q_4.2)
set_option maxHeartbeats 4000000 in
set_option maxRecDepth 100000 in
theorem c_LM_clear (l : Launch) (G : Gx) (w : Mp) (sz : Nat) (h0 : Nat) (res : Int32 × Mp) (hf : f_LM_clear w h0 = some res) : Met l y_LM_clear (xws y_LM_clear b_LM_clear 2 (some .int)) { frames := 1, cells := 0, slots := 0, locals := 20 } (xPc G vwCl xaty w sz [va_rf (some h0)]) (xQ G vwCl (some (.int res.1)) res.2 sz) (0) (0) (xA G) := by
  refine Met.ofW (cc := b_LM_clear) (maxL := 2) (ret := (some .int)) (by decide) rfl ?_
  intro p e s m args below meth c s₁ B hml hv
  obtain ⟨ha, hE, hH, hz⟩ := hv
  have C0 : CallFix p m c b_LM_clear 2 s args wA R_LM := ⟨B.exec, B.bytes, hml, findClass_of_methodNamed B.named, fun w hw => atoms_spec (ws := xws y_LM_clear b_LM_clear 2 (some .int)) B.pre w (List.mem_cons_of_mem _ hw)⟩
  have hr := B.returns
  have hlocks := B.notSynchronized
  obtain ⟨R, hR⟩ : ∃ R, R = (headSpec (xws y_LM_clear b_LM_clear 2 (some .int)) { frames := 1, cells := 0, slots := 0, locals := 20 }).room := ⟨_, rfl⟩
  have hR1 : 1 ≤ R.frames := by rw [hR]; exact Nat.le_of_ble_eq_true rfl
  have hR2 : 20 ≤ R.locals := by rw [hR]; exact Nat.le_of_ble_eq_true rfl
  have hR3 : 0 ≤ R.cells := by rw [hR]; exact Nat.le_refl _
  have hR4 : 0 ≤ R.slots := by rw [hR]; exact Nat.le_refl _
  rw [← hR]
  obtain ⟨Q, hQ⟩ : ∃ Q, Q = MQ below (xQ G vwCl (some (.int res.1)) res.2 sz) args s (0) (0) (xA G) := ⟨_, rfl⟩
  rw [← hQ]
  have hS : xS G s s.heap [] := va_S.rf
  obtain ⟨ls, he, hl⟩ := x_entry m [.inr (.inl (some h0))] 2 (Nat.le_of_ble_eq_true rfl)
  rw [show entryFrame m args 2 = F0 m 0 ls [] by rw [ha]; exact he]
  have hl : xL ls 2 [(0, .inr (.inl (some h0)))] := hl
  have h := hf
  unfold f_LM_clear at h
  suffices hmain : ∀ (H : Heap) (locs : List Loc), xhd G vwCl w H → xS G s H locs → H.size = sz → (H = s.heap ∧ locs = []) → W p l e R s m args below meth c H locs 0 0 Q (F0 m 0 ls []) from hmain _ _ hH hS hz ⟨rfl, rfl⟩
  clear hH hS hz
  intro H locs hH hS hz hP0
  refine x_aload_n C0 hl 0 d_LM_clear_0 rfl rfl ?_
  refine x_getR C0 hE hH (ci := 0) rfl i_LM 4 (by decide) kw_1_79 d_LM_clear_1 h (fun v_1 h => ?_)
  refine x_getI C0 hE hH (ci := 4) rfl i_Plan 1 (by decide) kw_1_44 d_LM_clear_4 h (fun v_2 h => ?_)
  refine x_istore_n (lv' := [(1, .inl v_2), (0, .inr (.inl (some h0)))]) C0 hl d_LM_clear_7 rfl (by decide) rfl (fun ls hl => ?_)
  refine x_aload_n C0 hl 1 d_LM_clear_8 rfl rfl ?_
  refine x_getR C0 hE hH (ci := 0) rfl i_LM 4 (by decide) kw_1_79 d_LM_clear_9 h (fun v_3 h => ?_)
  obtain ⟨b_5, e9, h⟩ := Option.bind_eq_some_iff.mp h
  obtain ⟨e8, fs9, hb9⟩ := xo_inv e9
  obtain ⟨q_4, e9, h⟩ := Option.bind_eq_some_iff.mp h
  refine x_call0 hS (va_runV (As := []) (rest := []) C0 (c_Plan_dropWanted l G w _ b_5 q_4 e9) (x_cwV 0 C0 kw_1_98 kw_1_101 kw_1_2 kw_1_99 kw_1_100 (by decide +kernel) (x_rm hR1 hR2 (Nat.le_of_ble_eq_true rfl) (Nat.le_of_ble_eq_true rfl))) (x_preV hE hH hS (ci := 4) rfl hb9) rfl rfl hl.1 (by rw [e8]; rfl) (lv_room (by first | exact Nat.le_of_ble_eq_true rfl | simp only [List.map_cons, List.map_nil, List.sum_cons, List.sum_nil, va_rf_cat, x_catI, x_catL, x_catA] <;> decide)) d_LM_clear_12 (x_le0 hR3 hR4)) (fun H locs hH hS hz9 => ?_)
  have hz := hz9.trans hz
  refine x_iload_n C0 hl 0 d_LM_clear_15 rfl rfl ?_
  cases h
  rw [hQ]
  exact x_iret C0 hr hlocks hH hS hz d_LM_clear_16
theorem d_LM_gatherFree_0 : decode b_LM_gatherFree 0 = .ok (.iconst 0, 1) := by decide +kernel
theorem d_LM_gatherFree_1 : decode b_LM_gatherFree 1 = .ok (.istore_n 2, 1) := by decide +kernel
theorem d_LM_gatherFree_2 : decode b_LM_gatherFree 2 = .ok (.iconst 0, 1) := by decide +kernel
theorem d_LM_gatherFree_3 : decode b_LM_gatherFree 3 = .ok (.istore_n 3, 1) := by decide +kernel
theorem d_LM_gatherFree_4 : decode b_LM_gatherFree 4 = .ok (.iload_n 3, 1) := by decide +kernel
theorem d_LM_gatherFree_5 : decode b_LM_gatherFree 5 = .ok (.aload_n 0, 1) := by decide +kernel
theorem d_LM_gatherFree_6 : decode b_LM_gatherFree 6 = .ok (.getfield 15, 3) := by decide +kernel
theorem d_LM_gatherFree_9 : decode b_LM_gatherFree 9 = .ok (.if_icmp .ge 99, 3) := by decide +kernel
theorem d_LM_gatherFree_12 : decode b_LM_gatherFree 12 = .ok (.aload_n 0, 1) := by decide +kernel
theorem d_LM_gatherFree_13 : decode b_LM_gatherFree 13 = .ok (.getfield 11, 3) := by decide +kernel
theorem d_LM_gatherFree_16 : decode b_LM_gatherFree 16 = .ok (.iload_n 3, 1) := by decide +kernel
theorem d_LM_gatherFree_17 : decode b_LM_gatherFree 17 = .ok (.aaload, 1) := by decide +kernel
theorem d_LM_gatherFree_18 : decode b_LM_gatherFree 18 = .ok (.astore 4, 2) := by decide +kernel
theorem d_LM_gatherFree_20 : decode b_LM_gatherFree 20 = .ok (.aload 4, 2) := by decide +kernel
theorem d_LM_gatherFree_22 : decode b_LM_gatherFree 22 = .ok (.getfield 252, 3) := by decide +kernel
theorem d_LM_gatherFree_25 : decode b_LM_gatherFree 25 = .ok (.iload_n 1, 1) := by decide +kernel
theorem d_LM_gatherFree_26 : decode b_LM_gatherFree 26 = .ok (.if_icmp .ne 76, 3) := by decide +kernel
theorem d_LM_gatherFree_29 : decode b_LM_gatherFree 29 = .ok (.aload 4, 2) := by decide +kernel
theorem d_LM_gatherFree_31 : decode b_LM_gatherFree 31 = .ok (.invokevirtual 258, 3) := by decide +kernel
theorem d_LM_gatherFree_34 : decode b_LM_gatherFree 34 = .ok (.ifCond .ne 6, 3) := by decide +kernel
theorem d_LM_gatherFree_37 : decode b_LM_gatherFree 37 = .ok (.goto 65, 3) := by decide +kernel
theorem d_LM_gatherFree_40 : decode b_LM_gatherFree 40 = .ok (.iload_n 2, 1) := by decide +kernel
theorem d_LM_gatherFree_41 : decode b_LM_gatherFree 41 = .ok (.istore 5, 2) := by decide +kernel
theorem d_LM_gatherFree_43 : decode b_LM_gatherFree 43 = .ok (.iload 5, 2) := by decide +kernel
theorem d_LM_gatherFree_45 : decode b_LM_gatherFree 45 = .ok (.ifCond .le 45, 3) := by decide +kernel
theorem d_LM_gatherFree_48 : decode b_LM_gatherFree 48 = .ok (.aload_n 0, 1) := by decide +kernel
theorem d_LM_gatherFree_49 : decode b_LM_gatherFree 49 = .ok (.getfield 35, 3) := by decide +kernel
theorem d_LM_gatherFree_52 : decode b_LM_gatherFree 52 = .ok (.iload 5, 2) := by decide +kernel
theorem d_LM_gatherFree_54 : decode b_LM_gatherFree 54 = .ok (.iconst 1, 1) := by decide +kernel
theorem d_LM_gatherFree_55 : decode b_LM_gatherFree 55 = .ok (.isub, 1) := by decide +kernel
theorem d_LM_gatherFree_56 : decode b_LM_gatherFree 56 = .ok (.aaload, 1) := by decide +kernel
theorem d_LM_gatherFree_57 : decode b_LM_gatherFree 57 = .ok (.getfield 255, 3) := by decide +kernel
theorem d_LM_gatherFree_60 : decode b_LM_gatherFree 60 = .ok (.aload 4, 2) := by decide +kernel
theorem d_LM_gatherFree_62 : decode b_LM_gatherFree 62 = .ok (.getfield 255, 3) := by decide +kernel
theorem d_LM_gatherFree_65 : decode b_LM_gatherFree 65 = .ok (.if_icmp .le 25, 3) := by decide +kernel
theorem d_LM_gatherFree_68 : decode b_LM_gatherFree 68 = .ok (.aload_n 0, 1) := by decide +kernel
theorem d_LM_gatherFree_69 : decode b_LM_gatherFree 69 = .ok (.getfield 35, 3) := by decide +kernel
theorem d_LM_gatherFree_72 : decode b_LM_gatherFree 72 = .ok (.iload 5, 2) := by decide +kernel
theorem d_LM_gatherFree_74 : decode b_LM_gatherFree 74 = .ok (.aload_n 0, 1) := by decide +kernel
theorem d_LM_gatherFree_75 : decode b_LM_gatherFree 75 = .ok (.getfield 35, 3) := by decide +kernel
theorem d_LM_gatherFree_78 : decode b_LM_gatherFree 78 = .ok (.iload 5, 2) := by decide +kernel
theorem d_LM_gatherFree_80 : decode b_LM_gatherFree 80 = .ok (.iconst 1, 1) := by decide +kernel
theorem d_LM_gatherFree_81 : decode b_LM_gatherFree 81 = .ok (.isub, 1) := by decide +kernel
theorem d_LM_gatherFree_82 : decode b_LM_gatherFree 82 = .ok (.aaload, 1) := by decide +kernel
theorem d_LM_gatherFree_83 : decode b_LM_gatherFree 83 = .ok (.aastore, 1) := by decide +kernel
theorem d_LM_gatherFree_84 : decode b_LM_gatherFree 84 = .ok (.iinc 5 (-1), 3) := by decide +kernel
theorem d_LM_gatherFree_87 : decode b_LM_gatherFree 87 = .ok (.goto (-44), 3) := by decide +kernel
theorem d_LM_gatherFree_90 : decode b_LM_gatherFree 90 = .ok (.aload_n 0, 1) := by decide +kernel
theorem d_LM_gatherFree_91 : decode b_LM_gatherFree 91 = .ok (.getfield 35, 3) := by decide +kernel
theorem d_LM_gatherFree_94 : decode b_LM_gatherFree 94 = .ok (.iload 5, 2) := by decide +kernel
theorem d_LM_gatherFree_96 : decode b_LM_gatherFree 96 = .ok (.aload 4, 2) := by decide +kernel
theorem d_LM_gatherFree_98 : decode b_LM_gatherFree 98 = .ok (.aastore, 1) := by decide +kernel
theorem d_LM_gatherFree_99 : decode b_LM_gatherFree 99 = .ok (.iinc 2 1, 3) := by decide +kernel
theorem d_LM_gatherFree_102 : decode b_LM_gatherFree 102 = .ok (.iinc 3 1, 3) := by decide +kernel
theorem d_LM_gatherFree_105 : decode b_LM_gatherFree 105 = .ok (.goto (-101), 3) := by decide +kernel
theorem d_LM_gatherFree_108 : decode b_LM_gatherFree 108 = .ok (.iload_n 2, 1) := by decide +kernel
theorem d_LM_gatherFree_109 : decode b_LM_gatherFree 109 = .ok (.ireturn, 1) := by decide +kernel
def f_LM_gatherFree_L43 (h0 : Nat) (x1 : Int32) (x2 : Int32) (x3 : Int32) (r4 : Option Nat) : Nat → Int32 → Mp → Option (Nat × Int32 × Mp)
  | 0, _, _ => none
  | n + 1, x5, w => if x5 ≤ 0 then (some (0, x5, w)) else ((gR w (some h0) 0 5).bind fun v_7 => (aR w v_7 1 (x5 - (1 : Int32))).bind fun v_8 => (gI w v_8 1 2).bind fun v_9 => (gI w r4 1 2).bind fun v_10 => if v_9 ≤ v_10 then (some (0, x5, w)) else ((gR w (some h0) 0 5).bind fun v_11 => (gR w (some h0) 0 5).bind fun v_12 => (aR w v_12 1 (x5 - (1 : Int32))).bind fun v_13 => (sR w v_11 1 1 x5 v_13).bind fun w_14 => f_LM_gatherFree_L43 h0 x1 x2 x3 r4 n (x5 + (-1)) w_14))
set_option maxHeartbeats 4000000 in
set_option maxRecDepth 100000 in
theorem w_LM_gatherFree_L43 {p : Program} {l : Launch} {e : Env} {R : Room} {s : State} {m : MethodId} {args : Array Value} {below : List Frame} {meth : Method} {c : Code} {Q : State → Prop} {cells slots sz : Nat} {G : Gx} {h0 : Nat} {x1 : Int32} {x2 : Int32} {x3 : Int32} {r4 : Option Nat} (C0 : CallFix p m c b_LM_gatherFree 6 s args wA R_LM) (hE : xE G vwCl xaty s) (hR1 : 1 ≤ R.frames) (hR2 : 20 ≤ R.locals) (hR3 : cells ≤ R.cells) (hR4 : slots ≤ R.slots) : ∀ (n : Nat) (x5 : Int32) (w : Mp) (H : Heap) (locs : List Loc) (q : Nat × Int32 × Mp) (ls : Array Slot), xhd G vwCl w H → xS G s H locs → H.size = sz → xL ls 6 [(0, .inr (.inl (some h0))), (1, .inl x1), (2, .inl x2), (3, .inl x3), (4, .inr (.inl r4)), (5, .inl x5)] → f_LM_gatherFree_L43 h0 x1 x2 x3 r4 n x5 w = some q → (∀ (H : Heap) (locs : List Loc) (ls : Array Slot), xhd G vwCl q.2.2 H → xS G s H locs → H.size = sz → xL ls 6 [(0, .inr (.inl (some h0))), (1, .inl x1), (2, .inl x2), (3, .inl x3), (4, .inr (.inl r4)), (5, .inl q.2.1)] → W p l e R s m args below meth c H locs cells slots Q (F0 m 90 ls [])) → W p l e R s m args below meth c H locs cells slots Q (F0 m 43 ls []) := by
  intro n
  induction n with
  | zero => intro _ _ _ _ q ls hH hS hz hl h; cases h
  | succ n ih =>
    intro x5 w H locs q ls hH hS hz hl h K
    rw [f_LM_gatherFree_L43] at h
    refine x_iload C0 hl 5 d_LM_gatherFree_43 rfl ?_
    refine x_if_le C0 90 d_LM_gatherFree_45 (by decide) h (fun h => ?_) (fun h => ?_)
    · cases h
      exact K _ _ ls hH hS hz (x_sub hl [0, 1, 2, 3, 4, 5] rfl)
    · refine x_aload_n C0 hl 0 d_LM_gatherFree_48 rfl rfl ?_
      refine x_getR C0 hE hH (ci := 0) rfl i_LM 5 (by decide) kw_1_80 d_LM_gatherFree_49 h (fun v_7 h => ?_)
      refine x_iload C0 hl 5 d_LM_gatherFree_52 rfl ?_
      refine lv_iconst (v := 1) C0.1 C0.2.1 d_LM_gatherFree_54 (by decide) ?_
      refine lv_isub C0.1 C0.2.1 d_LM_gatherFree_55 ?_
      refine x_aald C0 hE hH (t := 1) rfl d_LM_gatherFree_56 h (fun v_8 h => ?_)
      refine x_getI C0 hE hH (ci := 1) rfl i_Leaf 2 (by decide) kw_1_215 d_LM_gatherFree_57 h (fun v_9 h => ?_)
      refine x_aload C0 hl 4 d_LM_gatherFree_60 rfl ?_
      refine x_getI C0 hE hH (ci := 1) rfl i_Leaf 2 (by decide) kw_1_215 d_LM_gatherFree_62 h (fun v_10 h => ?_)
      refine x_icmp_le C0 90 d_LM_gatherFree_65 (by decide) h (fun h => ?_) (fun h => ?_)
      · cases h
        exact K _ _ ls hH hS hz (x_sub hl [0, 1, 2, 3, 4, 5] rfl)
      · refine x_aload_n C0 hl 0 d_LM_gatherFree_68 rfl rfl ?_
        refine x_getR C0 hE hH (ci := 0) rfl i_LM 5 (by decide) kw_1_80 d_LM_gatherFree_69 h (fun v_11 h => ?_)
        refine x_iload C0 hl 5 d_LM_gatherFree_72 rfl ?_
        refine x_aload_n C0 hl 0 d_LM_gatherFree_74 rfl rfl ?_
        refine x_getR C0 hE hH (ci := 0) rfl i_LM 5 (by decide) kw_1_80 d_LM_gatherFree_75 h (fun v_12 h => ?_)
        refine x_iload C0 hl 5 d_LM_gatherFree_78 rfl ?_
        refine lv_iconst (v := 1) C0.1 C0.2.1 d_LM_gatherFree_80 (by decide) ?_
        refine lv_isub C0.1 C0.2.1 d_LM_gatherFree_81 ?_
        refine x_aald C0 hE hH (t := 1) rfl d_LM_gatherFree_82 h (fun v_13 h => ?_)
        refine x_aast C0 hE hH hS (t := 1) (ci := 1) rfl rfl d_LM_gatherFree_83 h (fun w_14 H locs hH hS hz9 h => ?_)
        have hz := hz9.trans hz
        refine x_iinc (v := -1) (lv' := [(5, .inl (x5 + (-1))), (0, .inr (.inl (some h0))), (1, .inl x1), (2, .inl x2), (3, .inl x3), (4, .inr (.inl r4))]) C0 hl 5 d_LM_gatherFree_84 rfl (by decide) (by decide) rfl (fun ls hl => ?_)
        refine x_goto C0 43 d_LM_gatherFree_87 (by decide) ?_
        exact ih _ _ _ _ q ls hH hS hz (x_sub hl [1, 2, 3, 4, 5, 0] rfl) h K
def f_LM_gatherFree_L4 (h0 : Nat) (x1 : Int32) : Nat → Int32 → Int32 → Mp → Option (Nat × Int32 × Int32 × Mp)
  | 0, _, _, _ => none
  | n + 1, x2, x3, w => (gI w (some h0) 0 1).bind fun v_1 => if v_1 ≤ x3 then (some (0, x2, x3, w)) else ((gR w (some h0) 0 0).bind fun v_2 => (aR w v_2 1 x3).bind fun v_3 => (gI w v_3 1 1).bind fun v_4 => if v_4 = x1 then ((xo w v_3 1).bind fun b_6 => (f_Leaf_isFree w b_6).bind fun q_5 => if q_5 = 0 then (f_LM_gatherFree_L4 h0 x1 n x2 (x3 + 1) w) else ((f_LM_gatherFree_L43 h0 x1 x2 x3 v_3 100000 x2 w).bind fun q_15 => (gR q_15.2.2 (some h0) 0 5).bind fun v_16 => (sR q_15.2.2 v_16 1 1 q_15.2.1 v_3).bind fun w_17 => f_LM_gatherFree_L4 h0 x1 n (x2 + 1) (x3 + 1) w_17)) else (f_LM_gatherFree_L4 h0 x1 n x2 (x3 + 1) w))
set_option maxHeartbeats 4000000 in
set_option maxRecDepth 100000 in
theorem w_LM_gatherFree_L4 {p : Program} {l : Launch} {e : Env} {R : Room} {s : State} {m : MethodId} {args : Array Value} {below : List Frame} {meth : Method} {c : Code} {Q : State → Prop} {cells slots sz : Nat} {G : Gx} {h0 : Nat} {x1 : Int32} (C0 : CallFix p m c b_LM_gatherFree 6 s args wA R_LM) (hE : xE G vwCl xaty s) (hR1 : 1 ≤ R.frames) (hR2 : 20 ≤ R.locals) (hR3 : cells ≤ R.cells) (hR4 : slots ≤ R.slots) : ∀ (n : Nat) (x2 : Int32) (x3 : Int32) (w : Mp) (H : Heap) (locs : List Loc) (q : Nat × Int32 × Int32 × Mp) (ls : Array Slot), xhd G vwCl w H → xS G s H locs → H.size = sz → xL ls 6 [(0, .inr (.inl (some h0))), (1, .inl x1), (2, .inl x2), (3, .inl x3)] → f_LM_gatherFree_L4 h0 x1 n x2 x3 w = some q → (∀ (H : Heap) (locs : List Loc) (ls : Array Slot), xhd G vwCl q.2.2.2 H → xS G s H locs → H.size = sz → xL ls 6 [(0, .inr (.inl (some h0))), (1, .inl x1), (2, .inl q.2.1), (3, .inl q.2.2.1)] → W p l e R s m args below meth c H locs cells slots Q (F0 m 108 ls [])) → W p l e R s m args below meth c H locs cells slots Q (F0 m 4 ls []) := by
  intro n
  induction n with
  | zero => intro _ _ _ _ _ q ls hH hS hz hl h; cases h
  | succ n ih =>
    intro x2 x3 w H locs q ls hH hS hz hl h K
    rw [f_LM_gatherFree_L4] at h
    refine x_iload_n C0 hl 3 d_LM_gatherFree_4 rfl rfl ?_
    refine x_aload_n C0 hl 0 d_LM_gatherFree_5 rfl rfl ?_
    refine x_getI C0 hE hH (ci := 0) rfl i_LM 1 (by decide) kw_1_76 d_LM_gatherFree_6 h (fun v_1 h => ?_)
    refine x_icmp_ge C0 108 d_LM_gatherFree_9 (by decide) h (fun h => ?_) (fun h => ?_)
    · cases h
      exact K _ _ ls hH hS hz (x_sub hl [0, 1, 2, 3] rfl)
    · refine x_aload_n C0 hl 0 d_LM_gatherFree_12 rfl rfl ?_
      refine x_getR C0 hE hH (ci := 0) rfl i_LM 0 (by decide) kw_1_75 d_LM_gatherFree_13 h (fun v_2 h => ?_)
      refine x_iload_n C0 hl 3 d_LM_gatherFree_16 rfl rfl ?_
      refine x_aald C0 hE hH (t := 1) rfl d_LM_gatherFree_17 h (fun v_3 h => ?_)
      refine x_astore (lv' := [(4, .inr (.inl v_3)), (0, .inr (.inl (some h0))), (1, .inl x1), (2, .inl x2), (3, .inl x3)]) C0 hl d_LM_gatherFree_18 (by decide) rfl (fun ls hl => ?_)
      refine x_aload C0 hl 0 d_LM_gatherFree_20 rfl ?_
      refine x_getI C0 hE hH (ci := 1) rfl i_Leaf 1 (by decide) kw_1_213 d_LM_gatherFree_22 h (fun v_4 h => ?_)
      refine x_iload_n C0 hl 2 d_LM_gatherFree_25 rfl rfl ?_
      refine x_icmp_ne C0 102 d_LM_gatherFree_26 (by decide) h (fun h => ?_) (fun h => ?_)
      · refine x_iinc (v := 1) (lv' := [(3, .inl (x3 + 1)), (4, .inr (.inl v_3)), (0, .inr (.inl (some h0))), (1, .inl x1), (2, .inl x2)]) C0 hl 4 d_LM_gatherFree_102 rfl (by decide) (by decide) rfl (fun ls hl => ?_)
        refine x_goto C0 4 d_LM_gatherFree_105 (by decide) ?_
        exact ih _ _ _ _ _ q ls hH hS hz (x_sub hl [2, 3, 4, 0] rfl) h K
      · refine x_aload C0 hl 0 d_LM_gatherFree_29 rfl ?_
        obtain ⟨b_6, e9, h⟩ := Option.bind_eq_some_iff.mp h
        obtain ⟨e8, fs9, hb9⟩ := xo_inv e9
        obtain ⟨q_5, e9, h⟩ := Option.bind_eq_some_iff.mp h
        refine x_callP (va_runV (As := []) (rest := []) C0 (c_Leaf_isFree l G w _ b_6 q_5 e9) (x_cwV 0 C0 kw_2_73 kw_2_76 kw_1_9 kw_2_74 kw_2_75 (by decide +kernel) (x_rm hR1 hR2 (Nat.le_of_ble_eq_true rfl) (Nat.le_of_ble_eq_true rfl))) (x_preV hE hH hS (ci := 1) rfl hb9) rfl rfl hl.1 (by rw [e8]; rfl) (lv_room (by first | exact Nat.le_of_ble_eq_true rfl | simp only [List.map_cons, List.map_nil, List.sum_cons, List.sum_nil, va_rf_cat, x_catI, x_catL, x_catA] <;> decide)) d_LM_gatherFree_31 (x_le0 hR3 hR4)) ?_
        refine x_if_ne C0 40 d_LM_gatherFree_34 (by decide) h (fun h => ?_) (fun h => ?_)
        · refine x_iload_n C0 hl 3 d_LM_gatherFree_40 rfl rfl ?_
          refine x_istore (lv' := [(5, .inl x2), (4, .inr (.inl v_3)), (0, .inr (.inl (some h0))), (1, .inl x1), (2, .inl x2), (3, .inl x3)]) C0 hl d_LM_gatherFree_41 (by decide) rfl (fun ls hl => ?_)
          obtain ⟨q_15, e9, h⟩ := Option.bind_eq_some_iff.mp h
          refine w_LM_gatherFree_L43 C0 hE hR1 hR2 hR3 hR4 100000 _ _ _ _ q_15 ls hH hS hz (x_sub hl [2, 3, 4, 5, 1, 0] rfl) e9 (fun H locs ls hH hS hz hl => ?_)
          refine x_aload_n C0 hl 0 d_LM_gatherFree_90 rfl rfl ?_
          refine x_getR C0 hE hH (ci := 0) rfl i_LM 5 (by decide) kw_1_80 d_LM_gatherFree_91 h (fun v_16 h => ?_)
          refine x_iload C0 hl 5 d_LM_gatherFree_94 rfl ?_
          refine x_aload C0 hl 4 d_LM_gatherFree_96 rfl ?_
          refine x_aast C0 hE hH hS (t := 1) (ci := 1) rfl rfl d_LM_gatherFree_98 h (fun w_17 H locs hH hS hz9 h => ?_)
          have hz := hz9.trans hz
          refine x_iinc (v := 1) (lv' := [(2, .inl (x2 + 1)), (0, .inr (.inl (some h0))), (1, .inl x1), (3, .inl x3), (4, .inr (.inl v_3)), (5, .inl q_15.2.1)]) C0 hl 2 d_LM_gatherFree_99 rfl (by decide) (by decide) rfl (fun ls hl => ?_)
          refine x_iinc (v := 1) (lv' := [(3, .inl (x3 + 1)), (2, .inl (x2 + 1)), (0, .inr (.inl (some h0))), (1, .inl x1), (4, .inr (.inl v_3)), (5, .inl q_15.2.1)]) C0 hl 3 d_LM_gatherFree_102 rfl (by decide) (by decide) rfl (fun ls hl => ?_)
          refine x_goto C0 4 d_LM_gatherFree_105 (by decide) ?_
          exact ih _ _ _ _ _ q ls hH hS hz (x_sub hl [2, 3, 1, 0] rfl) h K
        · refine x_goto C0 102 d_LM_gatherFree_37 (by decide) ?_
          refine x_iinc (v := 1) (lv' := [(3, .inl (x3 + 1)), (4, .inr (.inl v_3)), (0, .inr (.inl (some h0))), (1, .inl x1), (2, .inl x2)]) C0 hl 4 d_LM_gatherFree_102 rfl (by decide) (by decide) rfl (fun ls hl => ?_)
          refine x_goto C0 4 d_LM_gatherFree_105 (by decide) ?_
          exact ih _ _ _ _ _ q ls hH hS hz (x_sub hl [2, 3, 4, 0] rfl) h K
def f_LM_gatherFree (w : Mp) (h0 : Nat) (x1 : Int32) : Option (Int32 × Mp) := (f_LM_gatherFree_L4 h0 x1 100000 (0 : Int32) (0 : Int32) w).bind fun q_18 => some (q_18.2.1, q_18.2.2.2)
set_option maxHeartbeats 4000000 in
set_option maxRecDepth 100000 in
theorem c_LM_gatherFree (l : Launch) (G : Gx) (w : Mp) (sz : Nat) (h0 : Nat) (x1 : Int32) (res : Int32 × Mp) (hf : f_LM_gatherFree w h0 x1 = some res) : Met l y_LM_gatherFree (xws y_LM_gatherFree b_LM_gatherFree 6 (some .int)) { frames := 1, cells := 0, slots := 0, locals := 20 } (xPc G vwCl xaty w sz [va_rf (some h0), .int x1]) (xQ G vwCl (some (.int res.1)) res.2 sz) (0) (0) (xA G) := by
  refine Met.ofW (cc := b_LM_gatherFree) (maxL := 6) (ret := (some .int)) (by decide) rfl ?_
  intro p e s m args below meth c s₁ B hml hv
  obtain ⟨ha, hE, hH, hz⟩ := hv
  have C0 : CallFix p m c b_LM_gatherFree 6 s args wA R_LM := ⟨B.exec, B.bytes, hml, findClass_of_methodNamed B.named, fun w hw => atoms_spec (ws := xws y_LM_gatherFree b_LM_gatherFree 6 (some .int)) B.pre w (List.mem_cons_of_mem _ hw)⟩
  have hr := B.returns
  have hlocks := B.notSynchronized
  obtain ⟨R, hR⟩ : ∃ R, R = (headSpec (xws y_LM_gatherFree b_LM_gatherFree 6 (some .int)) { frames := 1, cells := 0, slots := 0, locals := 20 }).room := ⟨_, rfl⟩
  have hR1 : 1 ≤ R.frames := by rw [hR]; exact Nat.le_of_ble_eq_true rfl
  have hR2 : 20 ≤ R.locals := by rw [hR]; exact Nat.le_of_ble_eq_true rfl
  have hR3 : 0 ≤ R.cells := by rw [hR]; exact Nat.le_refl _
  have hR4 : 0 ≤ R.slots := by rw [hR]; exact Nat.le_refl _
  rw [← hR]
  obtain ⟨Q, hQ⟩ : ∃ Q, Q = MQ below (xQ G vwCl (some (.int res.1)) res.2 sz) args s (0) (0) (xA G) := ⟨_, rfl⟩
  rw [← hQ]
  have hS : xS G s s.heap [] := va_S.rf
  obtain ⟨ls, he, hl⟩ := x_entry m [.inr (.inl (some h0)), .inl x1] 6 (Nat.le_of_ble_eq_true rfl)
  rw [show entryFrame m args 6 = F0 m 0 ls [] by rw [ha]; exact he]
  have hl : xL ls 6 [(0, .inr (.inl (some h0))), (1, .inl x1)] := hl
  have h := hf
  unfold f_LM_gatherFree at h
  suffices hmain : ∀ (H : Heap) (locs : List Loc), xhd G vwCl w H → xS G s H locs → H.size = sz → (H = s.heap ∧ locs = []) → W p l e R s m args below meth c H locs 0 0 Q (F0 m 0 ls []) from hmain _ _ hH hS hz ⟨rfl, rfl⟩
  clear hH hS hz
  intro H locs hH hS hz hP0
  refine lv_iconst (v := 0) C0.1 C0.2.1 d_LM_gatherFree_0 (by decide) ?_
  refine x_istore_n (lv' := [(2, .inl (0 : Int32)), (0, .inr (.inl (some h0))), (1, .inl x1)]) C0 hl d_LM_gatherFree_1 rfl (by decide) rfl (fun ls hl => ?_)
  refine lv_iconst (v := 0) C0.1 C0.2.1 d_LM_gatherFree_2 (by decide) ?_
  refine x_istore_n (lv' := [(3, .inl (0 : Int32)), (2, .inl (0 : Int32)), (0, .inr (.inl (some h0))), (1, .inl x1)]) C0 hl d_LM_gatherFree_3 rfl (by decide) rfl (fun ls hl => ?_)
  obtain ⟨q_18, e9, h⟩ := Option.bind_eq_some_iff.mp h
  refine w_LM_gatherFree_L4 C0 hE hR1 hR2 hR3 hR4 100000 _ _ _ _ _ q_18 ls hH hS hz (x_sub hl [2, 3, 1, 0] rfl) e9 (fun H locs ls hH hS hz hl => ?_)
  refine x_iload_n C0 hl 2 d_LM_gatherFree_108 rfl rfl ?_
  cases h
  rw [hQ]
  exact x_iret C0 hr hlocks hH hS hz d_LM_gatherFree_109
theorem d_Face_markUsed_0 : decode b_Face_markUsed 0 = .ok (.aload_n 0, 1) := by decide +kernel
theorem d_Face_markUsed_1 : decode b_Face_markUsed 1 = .ok (.getfield 17, 3) := by decide +kernel
theorem d_Face_markUsed_4 : decode b_Face_markUsed 4 = .ok (.astore_n 2, 1) := by decide +kernel
theorem d_Face_markUsed_5 : decode b_Face_markUsed 5 = .ok (.aload_n 2, 1) := by decide +kernel
theorem d_Face_markUsed_6 : decode b_Face_markUsed 6 = .ok (.arraylength, 1) := by decide +kernel
theorem d_Face_markUsed_7 : decode b_Face_markUsed 7 = .ok (.istore_n 3, 1) := by decide +kernel
theorem d_Face_markUsed_8 : decode b_Face_markUsed 8 = .ok (.iconst 0, 1) := by decide +kernel
theorem d_Face_markUsed_9 : decode b_Face_markUsed 9 = .ok (.istore 4, 2) := by decide +kernel
theorem d_Face_markUsed_11 : decode b_Face_markUsed 11 = .ok (.iload 4, 2) := by decide +kernel
theorem d_Face_markUsed_13 : decode b_Face_markUsed 13 = .ok (.iload_n 3, 1) := by decide +kernel
theorem d_Face_markUsed_14 : decode b_Face_markUsed 14 = .ok (.if_icmp .ge 24, 3) := by decide +kernel
theorem d_Face_markUsed_17 : decode b_Face_markUsed 17 = .ok (.aload_n 2, 1) := by decide +kernel
theorem d_Face_markUsed_18 : decode b_Face_markUsed 18 = .ok (.iload 4, 2) := by decide +kernel
theorem d_Face_markUsed_20 : decode b_Face_markUsed 20 = .ok (.aaload, 1) := by decide +kernel
theorem d_Face_markUsed_21 : decode b_Face_markUsed 21 = .ok (.astore 5, 2) := by decide +kernel
theorem d_Face_markUsed_23 : decode b_Face_markUsed 23 = .ok (.aload 5, 2) := by decide +kernel
theorem d_Face_markUsed_25 : decode b_Face_markUsed 25 = .ok (.getfield 24, 3) := by decide +kernel
theorem d_Face_markUsed_28 : decode b_Face_markUsed 28 = .ok (.iload_n 1, 1) := by decide +kernel
theorem d_Face_markUsed_29 : decode b_Face_markUsed 29 = .ok (.putfield 28, 3) := by decide +kernel
theorem d_Face_markUsed_32 : decode b_Face_markUsed 32 = .ok (.iinc 4 1, 3) := by decide +kernel
theorem d_Face_markUsed_35 : decode b_Face_markUsed 35 = .ok (.goto (-24), 3) := by decide +kernel
theorem d_Face_markUsed_38 : decode b_Face_markUsed 38 = .ok (.return_, 1) := by decide +kernel
def f_Face_markUsed_L11 (x1 : Int32) (r2 : Option Nat) (x3 : Int32) : Nat → Int32 → Mp → Option (Nat × Int32 × Mp)
  | 0, _, _ => none
  | n + 1, x4, w => if x3 ≤ x4 then (some (0, x4, w)) else ((aR w r2 3 x4).bind fun v_3 => (gR w v_3 2 0).bind fun v_4 => if x1 = 0 ∨ x1 = 1 then ((pF w v_4 1 7 (.int x1)).bind fun w_5 => f_Face_markUsed_L11 x1 r2 x3 n (x4 + 1) w_5) else none)
set_option maxHeartbeats 4000000 in
set_option maxRecDepth 100000 in
theorem w_Face_markUsed_L11 {p : Program} {l : Launch} {e : Env} {R : Room} {s : State} {m : MethodId} {args : Array Value} {below : List Frame} {meth : Method} {c : Code} {Q : State → Prop} {cells slots sz : Nat} {G : Gx} {x1 : Int32} {r2 : Option Nat} {x3 : Int32} (C0 : CallFix p m c b_Face_markUsed 6 s args wA R_Face) (hE : xE G vwCl xaty s) (hR1 : 0 ≤ R.frames) (hR2 : 0 ≤ R.locals) (hR3 : cells ≤ R.cells) (hR4 : slots ≤ R.slots) : ∀ (n : Nat) (x4 : Int32) (w : Mp) (H : Heap) (locs : List Loc) (q : Nat × Int32 × Mp) (ls : Array Slot), xhd G vwCl w H → xS G s H locs → H.size = sz → xL ls 6 [(1, .inl x1), (2, .inr (.inl r2)), (3, .inl x3), (4, .inl x4)] → f_Face_markUsed_L11 x1 r2 x3 n x4 w = some q → (∀ (H : Heap) (locs : List Loc) (ls : Array Slot), xhd G vwCl q.2.2 H → xS G s H locs → H.size = sz → xL ls 6 [(1, .inl x1), (2, .inr (.inl r2)), (3, .inl x3), (4, .inl q.2.1)] → W p l e R s m args below meth c H locs cells slots Q (F0 m 38 ls [])) → W p l e R s m args below meth c H locs cells slots Q (F0 m 11 ls []) := by
  intro n
  induction n with
  | zero => intro _ _ _ _ q ls hH hS hz hl h; cases h
  | succ n ih =>
    intro x4 w H locs q ls hH hS hz hl h K
    rw [f_Face_markUsed_L11] at h
    refine x_iload C0 hl 3 d_Face_markUsed_11 rfl ?_
    refine x_iload_n C0 hl 2 d_Face_markUsed_13 rfl rfl ?_
    refine x_icmp_ge C0 38 d_Face_markUsed_14 (by decide) h (fun h => ?_) (fun h => ?_)
    · cases h
      exact K _ _ ls hH hS hz (x_sub hl [0, 1, 2, 3] rfl)
    · refine x_aload_n C0 hl 1 d_Face_markUsed_17 rfl rfl ?_
      refine x_iload C0 hl 3 d_Face_markUsed_18 rfl ?_
      refine x_aald C0 hE hH (t := 3) rfl d_Face_markUsed_20 h (fun v_3 h => ?_)
      refine x_astore (lv' := [(5, .inr (.inl v_3)), (1, .inl x1), (2, .inr (.inl r2)), (3, .inl x3), (4, .inl x4)]) C0 hl d_Face_markUsed_21 (by decide) rfl (fun ls hl => ?_)
      refine x_aload C0 hl 0 d_Face_markUsed_23 rfl ?_
      refine x_getR C0 hE hH (ci := 2) rfl i_Piece 0 (by decide) kw_2_105 d_Face_markUsed_25 h (fun v_4 h => ?_)
      refine x_iload_n C0 hl 1 d_Face_markUsed_28 rfl rfl ?_
      obtain ⟨hn9, h⟩ := x_ifs h
      refine x_put C0 hE hH hS (ci := 1) rfl i_Leaf t_Leaf t_Leaf_ok n_Leaf 7 (by decide) kw_1_227 rfl (x_narZ hn9) (x_fitZ hn9) d_Face_markUsed_29 h (fun w_5 H locs hH hS hz9 h => ?_)
      have hz := hz9.trans hz
      refine x_iinc (v := 1) (lv' := [(4, .inl (x4 + 1)), (5, .inr (.inl v_3)), (1, .inl x1), (2, .inr (.inl r2)), (3, .inl x3)]) C0 hl 4 d_Face_markUsed_32 rfl (by decide) (by decide) rfl (fun ls hl => ?_)
      refine x_goto C0 11 d_Face_markUsed_35 (by decide) ?_
      exact ih _ _ _ _ q ls hH hS hz (x_sub hl [2, 3, 4, 0] rfl) h K
def f_Face_markUsed (w : Mp) (h0 : Nat) (x1 : Int32) : Option (Unit × Mp) := (gR w (some h0) 3 1).bind fun v_1 => (aL w v_1 3).bind fun v_2 => (f_Face_markUsed_L11 x1 v_1 v_2 100000 (0 : Int32) w).bind fun q_6 => some ((), q_6.2.2)
set_option maxHeartbeats 4000000 in
set_option maxRecDepth 100000 in
theorem c_Face_markUsed (l : Launch) (G : Gx) (w : Mp) (sz : Nat) (h0 : Nat) (x1 : Int32) (res : Unit × Mp) (hf : f_Face_markUsed w h0 x1 = some res) : Met l y_Face_markUsed (xws y_Face_markUsed b_Face_markUsed 6 none) { frames := 0, cells := 0, slots := 0, locals := 0 } (xPc G vwCl xaty w sz [va_rf (some h0), .int x1]) (xQ G vwCl (none) res.2 sz) (0) (0) (xA G) := by
  refine Met.ofW (cc := b_Face_markUsed) (maxL := 6) (ret := none) (by decide) rfl ?_
  intro p e s m args below meth c s₁ B hml hv
  obtain ⟨ha, hE, hH, hz⟩ := hv
  have C0 : CallFix p m c b_Face_markUsed 6 s args wA R_Face := ⟨B.exec, B.bytes, hml, findClass_of_methodNamed B.named, fun w hw => atoms_spec (ws := xws y_Face_markUsed b_Face_markUsed 6 none) B.pre w (List.mem_cons_of_mem _ hw)⟩
  have hr := B.returns
  have hlocks := B.notSynchronized
  obtain ⟨R, hR⟩ : ∃ R, R = (headSpec (xws y_Face_markUsed b_Face_markUsed 6 none) { frames := 0, cells := 0, slots := 0, locals := 0 }).room := ⟨_, rfl⟩
  have hR1 : 0 ≤ R.frames := by rw [hR]; exact Nat.le_of_ble_eq_true rfl
  have hR2 : 0 ≤ R.locals := by rw [hR]; exact Nat.le_of_ble_eq_true rfl
  have hR3 : 0 ≤ R.cells := by rw [hR]; exact Nat.le_refl _
  have hR4 : 0 ≤ R.slots := by rw [hR]; exact Nat.le_refl _
  rw [← hR]
  obtain ⟨Q, hQ⟩ : ∃ Q, Q = MQ below (xQ G vwCl (none) res.2 sz) args s (0) (0) (xA G) := ⟨_, rfl⟩
  rw [← hQ]
  have hS : xS G s s.heap [] := va_S.rf
  obtain ⟨ls, he, hl⟩ := x_entry m [.inr (.inl (some h0)), .inl x1] 6 (Nat.le_of_ble_eq_true rfl)
  rw [show entryFrame m args 6 = F0 m 0 ls [] by rw [ha]; exact he]
  have hl : xL ls 6 [(0, .inr (.inl (some h0))), (1, .inl x1)] := hl
  have h := hf
  unfold f_Face_markUsed at h
  suffices hmain : ∀ (H : Heap) (locs : List Loc), xhd G vwCl w H → xS G s H locs → H.size = sz → (H = s.heap ∧ locs = []) → W p l e R s m args below meth c H locs 0 0 Q (F0 m 0 ls []) from hmain _ _ hH hS hz ⟨rfl, rfl⟩
  clear hH hS hz
  intro H locs hH hS hz hP0
  refine x_aload_n C0 hl 0 d_Face_markUsed_0 rfl rfl ?_
  refine x_getR C0 hE hH (ci := 3) rfl i_Face 1 (by decide) kw_2_130 d_Face_markUsed_1 h (fun v_1 h => ?_)
  refine x_astore_n (lv' := [(2, .inr (.inl v_1)), (0, .inr (.inl (some h0))), (1, .inl x1)]) C0 hl d_Face_markUsed_4 rfl (by decide) rfl (fun ls hl => ?_)
  refine x_aload_n C0 hl 0 d_Face_markUsed_5 rfl rfl ?_
  refine x_alen C0 hE hH (t := 3) rfl d_Face_markUsed_6 h (fun v_2 h => ?_)
  refine x_istore_n (lv' := [(3, .inl v_2), (2, .inr (.inl v_1)), (0, .inr (.inl (some h0))), (1, .inl x1)]) C0 hl d_Face_markUsed_7 rfl (by decide) rfl (fun ls hl => ?_)
  refine lv_iconst (v := 0) C0.1 C0.2.1 d_Face_markUsed_8 (by decide) ?_
  refine x_istore (lv' := [(4, .inl (0 : Int32)), (3, .inl v_2), (2, .inr (.inl v_1)), (0, .inr (.inl (some h0))), (1, .inl x1)]) C0 hl d_Face_markUsed_9 (by decide) rfl (fun ls hl => ?_)
  obtain ⟨q_6, e9, h⟩ := Option.bind_eq_some_iff.mp h
  refine w_Face_markUsed_L11 C0 hE hR1 hR2 hR3 hR4 100000 _ _ _ _ q_6 ls hH hS hz (x_sub hl [4, 2, 1, 0] rfl) e9 (fun H locs ls hH hS hz hl => ?_)
  cases h
  rw [hQ]
  exact x_vret C0 hr hlocks hH hS hz d_Face_markUsed_38
theorem d_Face_layOut_0 : decode b_Face_layOut 0 = .ok (.iconst 1, 1) := by decide +kernel
theorem d_Face_layOut_1 : decode b_Face_layOut 1 = .ok (.istore_n 1, 1) := by decide +kernel
theorem d_Face_layOut_2 : decode b_Face_layOut 2 = .ok (.iload_n 1, 1) := by decide +kernel
theorem d_Face_layOut_3 : decode b_Face_layOut 3 = .ok (.aload_n 0, 1) := by decide +kernel
theorem d_Face_layOut_4 : decode b_Face_layOut 4 = .ok (.getfield 17, 3) := by decide +kernel
theorem d_Face_layOut_7 : decode b_Face_layOut 7 = .ok (.arraylength, 1) := by decide +kernel
theorem d_Face_layOut_8 : decode b_Face_layOut 8 = .ok (.if_icmp .ge 124, 3) := by decide +kernel
theorem d_Face_layOut_11 : decode b_Face_layOut 11 = .ok (.aload_n 0, 1) := by decide +kernel
theorem d_Face_layOut_12 : decode b_Face_layOut 12 = .ok (.getfield 9, 3) := by decide +kernel
theorem d_Face_layOut_15 : decode b_Face_layOut 15 = .ok (.iconst 3, 1) := by decide +kernel
theorem d_Face_layOut_16 : decode b_Face_layOut 16 = .ok (.if_icmp .ne 62, 3) := by decide +kernel
theorem d_Face_layOut_19 : decode b_Face_layOut 19 = .ok (.aload_n 0, 1) := by decide +kernel
theorem d_Face_layOut_20 : decode b_Face_layOut 20 = .ok (.getfield 17, 3) := by decide +kernel
theorem d_Face_layOut_23 : decode b_Face_layOut 23 = .ok (.iload_n 1, 1) := by decide +kernel
theorem d_Face_layOut_24 : decode b_Face_layOut 24 = .ok (.aaload, 1) := by decide +kernel
theorem d_Face_layOut_25 : decode b_Face_layOut 25 = .ok (.iload_n 1, 1) := by decide +kernel
theorem d_Face_layOut_26 : decode b_Face_layOut 26 = .ok (.iconst 2, 1) := by decide +kernel
theorem d_Face_layOut_27 : decode b_Face_layOut 27 = .ok (.irem, 1) := by decide +kernel
theorem d_Face_layOut_28 : decode b_Face_layOut 28 = .ok (.iconst 1, 1) := by decide +kernel
theorem d_Face_layOut_29 : decode b_Face_layOut 29 = .ok (.if_icmp .ne 15, 3) := by decide +kernel
theorem d_Face_layOut_32 : decode b_Face_layOut 32 = .ok (.aload_n 0, 1) := by decide +kernel
theorem d_Face_layOut_33 : decode b_Face_layOut 33 = .ok (.getfield 17, 3) := by decide +kernel
theorem d_Face_layOut_36 : decode b_Face_layOut 36 = .ok (.iconst 0, 1) := by decide +kernel
theorem d_Face_layOut_37 : decode b_Face_layOut 37 = .ok (.aaload, 1) := by decide +kernel
theorem d_Face_layOut_38 : decode b_Face_layOut 38 = .ok (.invokevirtual 38, 3) := by decide +kernel
theorem d_Face_layOut_41 : decode b_Face_layOut 41 = .ok (.goto 4, 3) := by decide +kernel
theorem d_Face_layOut_44 : decode b_Face_layOut 44 = .ok (.iconst 0, 1) := by decide +kernel
theorem d_Face_layOut_45 : decode b_Face_layOut 45 = .ok (.putfield 42, 3) := by decide +kernel
theorem d_Face_layOut_48 : decode b_Face_layOut 48 = .ok (.aload_n 0, 1) := by decide +kernel
theorem d_Face_layOut_49 : decode b_Face_layOut 49 = .ok (.getfield 17, 3) := by decide +kernel
theorem d_Face_layOut_52 : decode b_Face_layOut 52 = .ok (.iload_n 1, 1) := by decide +kernel
theorem d_Face_layOut_53 : decode b_Face_layOut 53 = .ok (.aaload, 1) := by decide +kernel
theorem d_Face_layOut_54 : decode b_Face_layOut 54 = .ok (.iload_n 1, 1) := by decide +kernel
theorem d_Face_layOut_55 : decode b_Face_layOut 55 = .ok (.iconst 2, 1) := by decide +kernel
theorem d_Face_layOut_56 : decode b_Face_layOut 56 = .ok (.if_icmp .lt 15, 3) := by decide +kernel
theorem d_Face_layOut_59 : decode b_Face_layOut 59 = .ok (.aload_n 0, 1) := by decide +kernel
theorem d_Face_layOut_60 : decode b_Face_layOut 60 = .ok (.getfield 17, 3) := by decide +kernel
theorem d_Face_layOut_63 : decode b_Face_layOut 63 = .ok (.iconst 0, 1) := by decide +kernel
theorem d_Face_layOut_64 : decode b_Face_layOut 64 = .ok (.aaload, 1) := by decide +kernel
theorem d_Face_layOut_65 : decode b_Face_layOut 65 = .ok (.invokevirtual 45, 3) := by decide +kernel
theorem d_Face_layOut_68 : decode b_Face_layOut 68 = .ok (.goto 4, 3) := by decide +kernel
theorem d_Face_layOut_71 : decode b_Face_layOut 71 = .ok (.iconst 0, 1) := by decide +kernel
theorem d_Face_layOut_72 : decode b_Face_layOut 72 = .ok (.putfield 48, 3) := by decide +kernel
theorem d_Face_layOut_75 : decode b_Face_layOut 75 = .ok (.goto 51, 3) := by decide +kernel
theorem d_Face_layOut_78 : decode b_Face_layOut 78 = .ok (.aload_n 0, 1) := by decide +kernel
theorem d_Face_layOut_79 : decode b_Face_layOut 79 = .ok (.getfield 17, 3) := by decide +kernel
theorem d_Face_layOut_82 : decode b_Face_layOut 82 = .ok (.iload_n 1, 1) := by decide +kernel
theorem d_Face_layOut_83 : decode b_Face_layOut 83 = .ok (.aaload, 1) := by decide +kernel
theorem d_Face_layOut_84 : decode b_Face_layOut 84 = .ok (.aload_n 0, 1) := by decide +kernel
theorem d_Face_layOut_85 : decode b_Face_layOut 85 = .ok (.getfield 17, 3) := by decide +kernel
theorem d_Face_layOut_88 : decode b_Face_layOut 88 = .ok (.iload_n 1, 1) := by decide +kernel
theorem d_Face_layOut_89 : decode b_Face_layOut 89 = .ok (.iconst 1, 1) := by decide +kernel
theorem d_Face_layOut_90 : decode b_Face_layOut 90 = .ok (.isub, 1) := by decide +kernel
theorem d_Face_layOut_91 : decode b_Face_layOut 91 = .ok (.aaload, 1) := by decide +kernel
theorem d_Face_layOut_92 : decode b_Face_layOut 92 = .ok (.invokevirtual 38, 3) := by decide +kernel
theorem d_Face_layOut_95 : decode b_Face_layOut 95 = .ok (.putfield 42, 3) := by decide +kernel
theorem d_Face_layOut_98 : decode b_Face_layOut 98 = .ok (.aload_n 0, 1) := by decide +kernel
theorem d_Face_layOut_99 : decode b_Face_layOut 99 = .ok (.getfield 17, 3) := by decide +kernel
theorem d_Face_layOut_102 : decode b_Face_layOut 102 = .ok (.iload_n 1, 1) := by decide +kernel
theorem d_Face_layOut_103 : decode b_Face_layOut 103 = .ok (.aaload, 1) := by decide +kernel
theorem d_Face_layOut_104 : decode b_Face_layOut 104 = .ok (.aload_n 0, 1) := by decide +kernel
theorem d_Face_layOut_105 : decode b_Face_layOut 105 = .ok (.getfield 17, 3) := by decide +kernel
theorem d_Face_layOut_108 : decode b_Face_layOut 108 = .ok (.iload_n 1, 1) := by decide +kernel
theorem d_Face_layOut_109 : decode b_Face_layOut 109 = .ok (.iconst 1, 1) := by decide +kernel
theorem d_Face_layOut_110 : decode b_Face_layOut 110 = .ok (.isub, 1) := by decide +kernel
theorem d_Face_layOut_111 : decode b_Face_layOut 111 = .ok (.aaload, 1) := by decide +kernel
theorem d_Face_layOut_112 : decode b_Face_layOut 112 = .ok (.getfield 48, 3) := by decide +kernel
theorem d_Face_layOut_115 : decode b_Face_layOut 115 = .ok (.aload_n 0, 1) := by decide +kernel
theorem d_Face_layOut_116 : decode b_Face_layOut 116 = .ok (.iload_n 1, 1) := by decide +kernel
theorem d_Face_layOut_117 : decode b_Face_layOut 117 = .ok (.iconst 1, 1) := by decide +kernel
theorem d_Face_layOut_118 : decode b_Face_layOut 118 = .ok (.isub, 1) := by decide +kernel
theorem d_Face_layOut_119 : decode b_Face_layOut 119 = .ok (.invokevirtual 51, 3) := by decide +kernel
theorem d_Face_layOut_122 : decode b_Face_layOut 122 = .ok (.iadd, 1) := by decide +kernel
theorem d_Face_layOut_123 : decode b_Face_layOut 123 = .ok (.putfield 48, 3) := by decide +kernel
theorem d_Face_layOut_126 : decode b_Face_layOut 126 = .ok (.iinc 1 1, 3) := by decide +kernel
theorem d_Face_layOut_129 : decode b_Face_layOut 129 = .ok (.goto (-127), 3) := by decide +kernel
theorem d_Face_layOut_132 : decode b_Face_layOut 132 = .ok (.return_, 1) := by decide +kernel
def f_Face_layOut_L2 (h0 : Nat) : Nat → Int32 → Mp → Option (Nat × Int32 × Mp)
  | 0, _, _ => none
  | n + 1, x1, w => (gR w (some h0) 3 1).bind fun v_1 => (aL w v_1 3).bind fun v_2 => if v_2 ≤ x1 then (some (0, x1, w)) else ((gI w (some h0) 3 0).bind fun v_3 => if v_3 = (3 : Int32) then ((gR w (some h0) 3 1).bind fun v_19 => (aR w v_19 3 x1).bind fun v_20 => xJ1 (fun (x_21 : Int32) => (pF w v_20 2 3 (.int x_21)).bind fun w_23 => (gR w_23 (some h0) 3 1).bind fun v_24 => (aR w_23 v_24 3 x1).bind fun v_25 => if x1 < (2 : Int32) then ((pF w_23 v_25 2 4 (.int (0 : Int32))).bind fun w_26 => f_Face_layOut_L2 h0 n (x1 + 1) w_26) else ((gR w_23 (some h0) 3 1).bind fun v_27 => (aR w_23 v_27 3 (0 : Int32)).bind fun v_28 => (xo w_23 v_28 2).bind fun b_30 => (f_Piece_bottom w_23 b_30).bind fun q_29 => (pF w_23 v_25 2 4 (.int q_29)).bind fun w_31 => f_Face_layOut_L2 h0 n (x1 + 1) w_31)) fun J_22 => if (x1 - x1 / (2 : Int32) * (2 : Int32)) = (1 : Int32) then ((gR w (some h0) 3 1).bind fun v_32 => (aR w v_32 3 (0 : Int32)).bind fun v_33 => (xo w v_33 2).bind fun b_35 => (f_Piece_end w b_35).bind fun q_34 => J_22 q_34) else (J_22 (0 : Int32))) else ((gR w (some h0) 3 1).bind fun v_4 => (aR w v_4 3 x1).bind fun v_5 => (gR w (some h0) 3 1).bind fun v_6 => (aR w v_6 3 (x1 - (1 : Int32))).bind fun v_7 => (xo w v_7 2).bind fun b_9 => (f_Piece_end w b_9).bind fun q_8 => (pF w v_5 2 3 (.int q_8)).bind fun w_10 => (gR w_10 (some h0) 3 1).bind fun v_11 => (aR w_10 v_11 3 x1).bind fun v_12 => (gR w_10 (some h0) 3 1).bind fun v_13 => (aR w_10 v_13 3 (x1 - (1 : Int32))).bind fun v_14 => (gI w_10 v_14 2 4).bind fun v_15 => (xo w_10 (some h0) 3).bind fun b_17 => (f_Face_bestShift w_10 b_17 (x1 - (1 : Int32))).bind fun q_16 => (pF w_10 v_12 2 4 (.int (v_15 + q_16))).bind fun w_18 => f_Face_layOut_L2 h0 n (x1 + 1) w_18))
set_option maxHeartbeats 4000000 in
set_option maxRecDepth 100000 in
theorem w_Face_layOut_L2 {p : Program} {l : Launch} {e : Env} {R : Room} {s : State} {m : MethodId} {args : Array Value} {below : List Frame} {meth : Method} {c : Code} {Q : State → Prop} {cells slots sz : Nat} {G : Gx} {h0 : Nat} (C0 : CallFix p m c b_Face_layOut 2 s args wA R_Face) (hE : xE G vwCl xaty s) (hR1 : 5 ≤ R.frames) (hR2 : 122 ≤ R.locals) (hR3 : cells ≤ R.cells) (hR4 : slots ≤ R.slots) : ∀ (n : Nat) (x1 : Int32) (w : Mp) (H : Heap) (locs : List Loc) (q : Nat × Int32 × Mp) (ls : Array Slot), xhd G vwCl w H → xS G s H locs → H.size = sz → xL ls 2 [(0, .inr (.inl (some h0))), (1, .inl x1)] → f_Face_layOut_L2 h0 n x1 w = some q → (∀ (H : Heap) (locs : List Loc) (ls : Array Slot), xhd G vwCl q.2.2 H → xS G s H locs → H.size = sz → xL ls 2 [(0, .inr (.inl (some h0))), (1, .inl q.2.1)] → W p l e R s m args below meth c H locs cells slots Q (F0 m 132 ls [])) → W p l e R s m args below meth c H locs cells slots Q (F0 m 2 ls []) := by
  intro n
  induction n with
  | zero => intro _ _ _ _ q ls hH hS hz hl h; cases h
  | succ n ih =>
    intro x1 w H locs q ls hH hS hz hl h K
    rw [f_Face_layOut_L2] at h
    refine x_iload_n C0 hl 1 d_Face_layOut_2 rfl rfl ?_
    refine x_aload_n C0 hl 0 d_Face_layOut_3 rfl rfl ?_
    refine x_getR C0 hE hH (ci := 3) rfl i_Face 1 (by decide) kw_2_130 d_Face_layOut_4 h (fun v_1 h => ?_)
    refine x_alen C0 hE hH (t := 3) rfl d_Face_layOut_7 h (fun v_2 h => ?_)
    refine x_icmp_ge C0 132 d_Face_layOut_8 (by decide) h (fun h => ?_) (fun h => ?_)
    · cases h
      exact K _ _ ls hH hS hz (x_sub hl [0, 1] rfl)
    · refine x_aload_n C0 hl 0 d_Face_layOut_11 rfl rfl ?_
      refine x_getI C0 hE hH (ci := 3) rfl i_Face 0 (by decide) kw_2_128 d_Face_layOut_12 h (fun v_3 h => ?_)
      refine lv_iconst (v := 3) C0.1 C0.2.1 d_Face_layOut_15 (by decide) ?_
      refine x_icmp_ne C0 78 d_Face_layOut_16 (by decide) h (fun h => ?_) (fun h => ?_)
      · refine x_aload_n C0 hl 0 d_Face_layOut_78 rfl rfl ?_
        refine x_getR C0 hE hH (ci := 3) rfl i_Face 1 (by decide) kw_2_130 d_Face_layOut_79 h (fun v_4 h => ?_)
        refine x_iload_n C0 hl 1 d_Face_layOut_82 rfl rfl ?_
        refine x_aald C0 hE hH (t := 3) rfl d_Face_layOut_83 h (fun v_5 h => ?_)
        refine x_aload_n C0 hl 0 d_Face_layOut_84 rfl rfl ?_
        refine x_getR C0 hE hH (ci := 3) rfl i_Face 1 (by decide) kw_2_130 d_Face_layOut_85 h (fun v_6 h => ?_)
        refine x_iload_n C0 hl 1 d_Face_layOut_88 rfl rfl ?_
        refine lv_iconst (v := 1) C0.1 C0.2.1 d_Face_layOut_89 (by decide) ?_
        refine lv_isub C0.1 C0.2.1 d_Face_layOut_90 ?_
        refine x_aald C0 hE hH (t := 3) rfl d_Face_layOut_91 h (fun v_7 h => ?_)
        obtain ⟨b_9, e9, h⟩ := Option.bind_eq_some_iff.mp h
        obtain ⟨e8, fs9, hb9⟩ := xo_inv e9
        obtain ⟨q_8, e9, h⟩ := Option.bind_eq_some_iff.mp h
        refine x_callP (va_runV (As := []) (rest := [va_rf v_5]) C0 (c_Piece_end l G w _ b_9 q_8 e9) (x_cwV 0 C0 kw_2_170 kw_2_173 kw_1_12 kw_2_171 kw_2_172 (by decide +kernel) (x_rm hR1 hR2 (Nat.le_of_ble_eq_true rfl) (Nat.le_of_ble_eq_true rfl))) (x_preV hE hH hS (ci := 2) rfl hb9) rfl rfl hl.1 (by rw [e8]; rfl) (lv_room (by first | exact Nat.le_of_ble_eq_true rfl | simp only [List.map_cons, List.map_nil, List.sum_cons, List.sum_nil, va_rf_cat, x_catI, x_catL, x_catA] <;> decide)) d_Face_layOut_92 (x_le0 hR3 hR4)) ?_
        refine x_put C0 hE hH hS (ci := 2) rfl i_Piece t_Piece t_Piece_ok n_Piece 3 (by decide) kw_2_112 rfl rfl rfl d_Face_layOut_95 h (fun w_10 H locs hH hS hz9 h => ?_)
        have hz := hz9.trans hz
        refine x_aload_n C0 hl 0 d_Face_layOut_98 rfl rfl ?_
        refine x_getR C0 hE hH (ci := 3) rfl i_Face 1 (by decide) kw_2_130 d_Face_layOut_99 h (fun v_11 h => ?_)
        refine x_iload_n C0 hl 1 d_Face_layOut_102 rfl rfl ?_
        refine x_aald C0 hE hH (t := 3) rfl d_Face_layOut_103 h (fun v_12 h => ?_)
        refine x_aload_n C0 hl 0 d_Face_layOut_104 rfl rfl ?_
        refine x_getR C0 hE hH (ci := 3) rfl i_Face 1 (by decide) kw_2_130 d_Face_layOut_105 h (fun v_13 h => ?_)
        refine x_iload_n C0 hl 1 d_Face_layOut_108 rfl rfl ?_
        refine lv_iconst (v := 1) C0.1 C0.2.1 d_Face_layOut_109 (by decide) ?_
        refine lv_isub C0.1 C0.2.1 d_Face_layOut_110 ?_
        refine x_aald C0 hE hH (t := 3) rfl d_Face_layOut_111 h (fun v_14 h => ?_)
        refine x_getI C0 hE hH (ci := 2) rfl i_Piece 4 (by decide) kw_2_115 d_Face_layOut_112 h (fun v_15 h => ?_)
        refine x_aload_n C0 hl 0 d_Face_layOut_115 rfl rfl ?_
        refine x_iload_n C0 hl 1 d_Face_layOut_116 rfl rfl ?_
        refine lv_iconst (v := 1) C0.1 C0.2.1 d_Face_layOut_117 (by decide) ?_
        refine lv_isub C0.1 C0.2.1 d_Face_layOut_118 ?_
        obtain ⟨b_17, e9, h⟩ := Option.bind_eq_some_iff.mp h
        obtain ⟨e8, fs9, hb9⟩ := xo_inv e9
        obtain ⟨q_16, e9, h⟩ := Option.bind_eq_some_iff.mp h
        refine x_callP (va_runV (As := [.int (x1 - (1 : Int32))]) (rest := [.int v_15, va_rf v_12]) C0 (c_Face_bestShift l G w_10 _ b_17 (x1 - (1 : Int32)) q_16 e9) (x_cwV 1 C0 kw_2_178 kw_2_181 kw_1_11 kw_2_179 kw_2_180 (by decide +kernel) (x_rm hR1 hR2 (Nat.le_of_ble_eq_true rfl) (Nat.le_of_ble_eq_true rfl))) (x_preV hE hH hS (ci := 3) rfl hb9) rfl rfl hl.1 (by rw [e8]; rfl) (lv_room (by first | exact Nat.le_of_ble_eq_true rfl | simp only [List.map_cons, List.map_nil, List.sum_cons, List.sum_nil, va_rf_cat, x_catI, x_catL, x_catA] <;> decide)) d_Face_layOut_119 (x_le0 hR3 hR4)) ?_
        refine lv_iadd C0.1 C0.2.1 d_Face_layOut_122 ?_
        refine x_put C0 hE hH hS (ci := 2) rfl i_Piece t_Piece t_Piece_ok n_Piece 4 (by decide) kw_2_115 rfl rfl rfl d_Face_layOut_123 h (fun w_18 H locs hH hS hz9 h => ?_)
        have hz := hz9.trans hz
        refine x_iinc (v := 1) (lv' := [(1, .inl (x1 + 1)), (0, .inr (.inl (some h0)))]) C0 hl 1 d_Face_layOut_126 rfl (by decide) (by decide) rfl (fun ls hl => ?_)
        refine x_goto C0 2 d_Face_layOut_129 (by decide) ?_
        exact ih _ _ _ _ q ls hH hS hz (x_sub hl [1, 0] rfl) h K
      · refine x_aload_n C0 hl 0 d_Face_layOut_19 rfl rfl ?_
        refine x_getR C0 hE hH (ci := 3) rfl i_Face 1 (by decide) kw_2_130 d_Face_layOut_20 h (fun v_19 h => ?_)
        refine x_iload_n C0 hl 1 d_Face_layOut_23 rfl rfl ?_
        refine x_aald C0 hE hH (t := 3) rfl d_Face_layOut_24 h (fun v_20 h => ?_)
        refine x_iload_n C0 hl 1 d_Face_layOut_25 rfl rfl ?_
        refine lv_iconst (v := 2) C0.1 C0.2.1 d_Face_layOut_26 (by decide) ?_
        refine lv_irem C0.1 C0.2.1 d_Face_layOut_27 (by decide) ?_
        refine lv_iconst (v := 1) C0.1 C0.2.1 d_Face_layOut_28 (by decide) ?_
        refine xj1 h (fun J_22 eJ_22 h => ?_)
        have kJ_22 : ∀ (x_21 : Int32) (ls : Array Slot), xL ls 2 [(0, .inr (.inl (some h0))), (1, .inl x1)] → J_22 x_21 = some q → W p l e R s m args below meth c H locs cells slots Q (F0 m 45 ls [.int x_21, va_rf v_20]) := by
          intro x_21 ls hl h
          rw [eJ_22] at h
          refine x_put C0 hE hH hS (ci := 2) rfl i_Piece t_Piece t_Piece_ok n_Piece 3 (by decide) kw_2_112 rfl rfl rfl d_Face_layOut_45 h (fun w_23 H locs hH hS hz9 h => ?_)
          have hz := hz9.trans hz
          refine x_aload_n C0 hl 0 d_Face_layOut_48 rfl rfl ?_
          refine x_getR C0 hE hH (ci := 3) rfl i_Face 1 (by decide) kw_2_130 d_Face_layOut_49 h (fun v_24 h => ?_)
          refine x_iload_n C0 hl 1 d_Face_layOut_52 rfl rfl ?_
          refine x_aald C0 hE hH (t := 3) rfl d_Face_layOut_53 h (fun v_25 h => ?_)
          refine x_iload_n C0 hl 1 d_Face_layOut_54 rfl rfl ?_
          refine lv_iconst (v := 2) C0.1 C0.2.1 d_Face_layOut_55 (by decide) ?_
          refine x_icmp_lt C0 71 d_Face_layOut_56 (by decide) h (fun h => ?_) (fun h => ?_)
          · refine lv_iconst (v := 0) C0.1 C0.2.1 d_Face_layOut_71 (by decide) ?_
            refine x_put C0 hE hH hS (ci := 2) rfl i_Piece t_Piece t_Piece_ok n_Piece 4 (by decide) kw_2_115 rfl rfl rfl d_Face_layOut_72 h (fun w_26 H locs hH hS hz9 h => ?_)
            have hz := hz9.trans hz
            refine x_goto C0 126 d_Face_layOut_75 (by decide) ?_
            refine x_iinc (v := 1) (lv' := [(1, .inl (x1 + 1)), (0, .inr (.inl (some h0)))]) C0 hl 1 d_Face_layOut_126 rfl (by decide) (by decide) rfl (fun ls hl => ?_)
            refine x_goto C0 2 d_Face_layOut_129 (by decide) ?_
            exact ih _ _ _ _ q ls hH hS hz (x_sub hl [1, 0] rfl) h K
          · refine x_aload_n C0 hl 0 d_Face_layOut_59 rfl rfl ?_
            refine x_getR C0 hE hH (ci := 3) rfl i_Face 1 (by decide) kw_2_130 d_Face_layOut_60 h (fun v_27 h => ?_)
            refine lv_iconst (v := 0) C0.1 C0.2.1 d_Face_layOut_63 (by decide) ?_
            refine x_aald C0 hE hH (t := 3) rfl d_Face_layOut_64 h (fun v_28 h => ?_)
            obtain ⟨b_30, e9, h⟩ := Option.bind_eq_some_iff.mp h
            obtain ⟨e8, fs9, hb9⟩ := xo_inv e9
            obtain ⟨q_29, e9, h⟩ := Option.bind_eq_some_iff.mp h
            refine x_callP (va_runV (As := []) (rest := [va_rf v_25]) C0 (c_Piece_bottom l G w_23 _ b_30 q_29 e9) (x_cwV 0 C0 kw_2_174 kw_2_177 kw_1_12 kw_2_175 kw_2_176 (by decide +kernel) (x_rm hR1 hR2 (Nat.le_of_ble_eq_true rfl) (Nat.le_of_ble_eq_true rfl))) (x_preV hE hH hS (ci := 2) rfl hb9) rfl rfl hl.1 (by rw [e8]; rfl) (lv_room (by first | exact Nat.le_of_ble_eq_true rfl | simp only [List.map_cons, List.map_nil, List.sum_cons, List.sum_nil, va_rf_cat, x_catI, x_catL, x_catA] <;> decide)) d_Face_layOut_65 (x_le0 hR3 hR4)) ?_
            refine x_goto C0 72 d_Face_layOut_68 (by decide) ?_
            refine x_put C0 hE hH hS (ci := 2) rfl i_Piece t_Piece t_Piece_ok n_Piece 4 (by decide) kw_2_115 rfl rfl rfl d_Face_layOut_72 h (fun w_31 H locs hH hS hz9 h => ?_)
            have hz := hz9.trans hz
            refine x_goto C0 126 d_Face_layOut_75 (by decide) ?_
            refine x_iinc (v := 1) (lv' := [(1, .inl (x1 + 1)), (0, .inr (.inl (some h0)))]) C0 hl 1 d_Face_layOut_126 rfl (by decide) (by decide) rfl (fun ls hl => ?_)
            refine x_goto C0 2 d_Face_layOut_129 (by decide) ?_
            exact ih _ _ _ _ q ls hH hS hz (x_sub hl [1, 0] rfl) h K
        refine x_icmp_ne C0 44 d_Face_layOut_29 (by decide) h (fun h => ?_) (fun h => ?_)
        · refine lv_iconst (v := 0) C0.1 C0.2.1 d_Face_layOut_44 (by decide) ?_
          exact kJ_22 _ ls (x_sub hl [0, 1] rfl) h
        · refine x_aload_n C0 hl 0 d_Face_layOut_32 rfl rfl ?_
          refine x_getR C0 hE hH (ci := 3) rfl i_Face 1 (by decide) kw_2_130 d_Face_layOut_33 h (fun v_32 h => ?_)
          refine lv_iconst (v := 0) C0.1 C0.2.1 d_Face_layOut_36 (by decide) ?_
          refine x_aald C0 hE hH (t := 3) rfl d_Face_layOut_37 h (fun v_33 h => ?_)
          obtain ⟨b_35, e9, h⟩ := Option.bind_eq_some_iff.mp h
          obtain ⟨e8, fs9, hb9⟩ := xo_inv e9
          obtain ⟨q_34, e9, h⟩ := Option.bind_eq_some_iff.mp h
          refine x_callP (va_runV (As := []) (rest := [va_rf v_20]) C0 (c_Piece_end l G w _ b_35 q_34 e9) (x_cwV 0 C0 kw_2_170 kw_2_173 kw_1_12 kw_2_171 kw_2_172 (by decide +kernel) (x_rm hR1 hR2 (Nat.le_of_ble_eq_true rfl) (Nat.le_of_ble_eq_true rfl))) (x_preV hE hH hS (ci := 2) rfl hb9) rfl rfl hl.1 (by rw [e8]; rfl) (lv_room (by first | exact Nat.le_of_ble_eq_true rfl | simp only [List.map_cons, List.map_nil, List.sum_cons, List.sum_nil, va_rf_cat, x_catI, x_catL, x_catA] <;> decide)) d_Face_layOut_38 (x_le0 hR3 hR4)) ?_
          refine x_goto C0 45 d_Face_layOut_41 (by decide) ?_
          exact kJ_22 _ ls (x_sub hl [0, 1] rfl) h
def f_Face_layOut (w : Mp) (h0 : Nat) : Option (Unit × Mp) := (f_Face_layOut_L2 h0 100000 (1 : Int32) w).bind fun q_36 => some ((), q_36.2.2)
set_option maxHeartbeats 4000000 in
set_option maxRecDepth 100000 in
theorem c_Face_layOut (l : Launch) (G : Gx) (w : Mp) (sz : Nat) (h0 : Nat) (res : Unit × Mp) (hf : f_Face_layOut w h0 = some res) : Met l y_Face_layOut (xws y_Face_layOut b_Face_layOut 2 none) { frames := 5, cells := 0, slots := 0, locals := 122 } (xPc G vwCl xaty w sz [va_rf (some h0)]) (xQ G vwCl (none) res.2 sz) (0) (0) (xA G) := by
  refine Met.ofW (cc := b_Face_layOut) (maxL := 2) (ret := none) (by decide) rfl ?_
  intro p e s m args below meth c s₁ B hml hv
  obtain ⟨ha, hE, hH, hz⟩ := hv
  have C0 : CallFix p m c b_Face_layOut 2 s args wA R_Face := ⟨B.exec, B.bytes, hml, findClass_of_methodNamed B.named, fun w hw => atoms_spec (ws := xws y_Face_layOut b_Face_layOut 2 none) B.pre w (List.mem_cons_of_mem _ hw)⟩
  have hr := B.returns
  have hlocks := B.notSynchronized
  obtain ⟨R, hR⟩ : ∃ R, R = (headSpec (xws y_Face_layOut b_Face_layOut 2 none) { frames := 5, cells := 0, slots := 0, locals := 122 }).room := ⟨_, rfl⟩
  have hR1 : 5 ≤ R.frames := by rw [hR]; exact Nat.le_of_ble_eq_true rfl
  have hR2 : 122 ≤ R.locals := by rw [hR]; exact Nat.le_of_ble_eq_true rfl
  have hR3 : 0 ≤ R.cells := by rw [hR]; exact Nat.le_refl _
  have hR4 : 0 ≤ R.slots := by rw [hR]; exact Nat.le_refl _
  rw [← hR]
  obtain ⟨Q, hQ⟩ : ∃ Q, Q = MQ below (xQ G vwCl (none) res.2 sz) args s (0) (0) (xA G) := ⟨_, rfl⟩
  rw [← hQ]
  have hS : xS G s s.heap [] := va_S.rf
  obtain ⟨ls, he, hl⟩ := x_entry m [.inr (.inl (some h0))] 2 (Nat.le_of_ble_eq_true rfl)
  rw [show entryFrame m args 2 = F0 m 0 ls [] by rw [ha]; exact he]
  have hl : xL ls 2 [(0, .inr (.inl (some h0)))] := hl
  have h := hf
  unfold f_Face_layOut at h
  suffices hmain : ∀ (H : Heap) (locs : List Loc), xhd G vwCl w H → xS G s H locs → H.size = sz → (H = s.heap ∧ locs = []) → W p l e R s m args below meth c H locs 0 0 Q (F0 m 0 ls []) from hmain _ _ hH hS hz ⟨rfl, rfl⟩
  clear hH hS hz
  intro H locs hH hS hz hP0
  refine lv_iconst (v := 1) C0.1 C0.2.1 d_Face_layOut_0 (by decide) ?_
  refine x_istore_n (lv' := [(1, .inl (1 : Int32)), (0, .inr (.inl (some h0)))]) C0 hl d_Face_layOut_1 rfl (by decide) rfl (fun ls hl => ?_)
  obtain ⟨q_36, e9, h⟩ := Option.bind_eq_some_iff.mp h
  refine w_Face_layOut_L2 C0 hE hR1 hR2 hR3 hR4 100000 _ _ _ _ q_36 ls hH hS hz (x_sub hl [1, 0] rfl) e9 (fun H locs ls hH hS hz hl => ?_)
  cases h
  rw [hQ]
  exact x_vret C0 hr hlocks hH hS hz d_Face_layOut_132
theorem d_Leaf_paint_0 : decode b_Leaf_paint 0 = .ok (.iload_n 2, 1) := by decide +kernel
theorem d_Leaf_paint_1 : decode b_Leaf_paint 1 = .ok (.aload_n 0, 1) := by decide +kernel
theorem d_Leaf_paint_2 : decode b_Leaf_paint 2 = .ok (.getfield 28, 3) := by decide +kernel
theorem d_Leaf_paint_5 : decode b_Leaf_paint 5 = .ok (.imul, 1) := by decide +kernel
theorem d_Leaf_paint_6 : decode b_Leaf_paint 6 = .ok (.iload_n 1, 1) := by decide +kernel
theorem d_Leaf_paint_7 : decode b_Leaf_paint 7 = .ok (.iadd, 1) := by decide +kernel
theorem d_Leaf_paint_8 : decode b_Leaf_paint 8 = .ok (.istore 4, 2) := by decide +kernel
theorem d_Leaf_paint_10 : decode b_Leaf_paint 10 = .ok (.aload_n 0, 1) := by decide +kernel
theorem d_Leaf_paint_11 : decode b_Leaf_paint 11 = .ok (.getfield 34, 3) := by decide +kernel
theorem d_Leaf_paint_14 : decode b_Leaf_paint 14 = .ok (.iload 4, 2) := by decide +kernel
theorem d_Leaf_paint_16 : decode b_Leaf_paint 16 = .ok (.iaload, 1) := by decide +kernel
theorem d_Leaf_paint_17 : decode b_Leaf_paint 17 = .ok (.iload_n 3, 1) := by decide +kernel
theorem d_Leaf_paint_18 : decode b_Leaf_paint 18 = .ok (.if_icmp .eq 7, 3) := by decide +kernel
theorem d_Leaf_paint_21 : decode b_Leaf_paint 21 = .ok (.iconst 1, 1) := by decide +kernel
theorem d_Leaf_paint_22 : decode b_Leaf_paint 22 = .ok (.goto 4, 3) := by decide +kernel
theorem d_Leaf_paint_25 : decode b_Leaf_paint 25 = .ok (.iconst 0, 1) := by decide +kernel
theorem d_Leaf_paint_26 : decode b_Leaf_paint 26 = .ok (.istore 5, 2) := by decide +kernel
theorem d_Leaf_paint_28 : decode b_Leaf_paint 28 = .ok (.aload_n 0, 1) := by decide +kernel
theorem d_Leaf_paint_29 : decode b_Leaf_paint 29 = .ok (.getfield 34, 3) := by decide +kernel
theorem d_Leaf_paint_32 : decode b_Leaf_paint 32 = .ok (.iload 4, 2) := by decide +kernel
theorem d_Leaf_paint_34 : decode b_Leaf_paint 34 = .ok (.iload_n 3, 1) := by decide +kernel
theorem d_Leaf_paint_35 : decode b_Leaf_paint 35 = .ok (.iastore, 1) := by decide +kernel
theorem d_Leaf_paint_36 : decode b_Leaf_paint 36 = .ok (.iload 5, 2) := by decide +kernel
theorem d_Leaf_paint_38 : decode b_Leaf_paint 38 = .ok (.ireturn, 1) := by decide +kernel
def f_Leaf_paint (w : Mp) (h0 : Nat) (x1 : Int32) (x2 : Int32) (x3 : Int32) : Option (Int32 × Mp) := (gI w (some h0) 1 3).bind fun v_1 => (gR w (some h0) 1 5).bind fun v_2 => (aI w v_2 0 ((x2 * v_1) + x1)).bind fun v_3 => xJ1 (fun (x_4 : Int32) => (gR w (some h0) 1 5).bind fun v_6 => (sI w v_6 0 ((x2 * v_1) + x1) x3).bind fun w_7 => if vp_nar .boolean x_4 = x_4 then some (x_4, w_7) else none) fun J_5 => if v_3 = x3 then (J_5 (0 : Int32)) else (J_5 (1 : Int32))
set_option maxHeartbeats 4000000 in
set_option maxRecDepth 100000 in
theorem c_Leaf_paint (l : Launch) (G : Gx) (w : Mp) (sz : Nat) (h0 : Nat) (x1 : Int32) (x2 : Int32) (x3 : Int32) (res : Int32 × Mp) (hf : f_Leaf_paint w h0 x1 x2 x3 = some res) : Met l y_Leaf_paint (xws y_Leaf_paint b_Leaf_paint 6 (some .boolean)) { frames := 0, cells := 0, slots := 0, locals := 0 } (xPc G vwCl xaty w sz [va_rf (some h0), .int x1, .int x2, .int x3]) (xQ G vwCl (some (.int res.1)) res.2 sz) (0) (0) (xA G) := by
  refine Met.ofW (cc := b_Leaf_paint) (maxL := 6) (ret := (some .boolean)) (by decide) rfl ?_
  intro p e s m args below meth c s₁ B hml hv
  obtain ⟨ha, hE, hH, hz⟩ := hv
  have C0 : CallFix p m c b_Leaf_paint 6 s args wA R_Leaf := ⟨B.exec, B.bytes, hml, findClass_of_methodNamed B.named, fun w hw => atoms_spec (ws := xws y_Leaf_paint b_Leaf_paint 6 (some .boolean)) B.pre w (List.mem_cons_of_mem _ hw)⟩
  have hr := B.returns
  have hlocks := B.notSynchronized
  obtain ⟨R, hR⟩ : ∃ R, R = (headSpec (xws y_Leaf_paint b_Leaf_paint 6 (some .boolean)) { frames := 0, cells := 0, slots := 0, locals := 0 }).room := ⟨_, rfl⟩
  have hR1 : 0 ≤ R.frames := by rw [hR]; exact Nat.le_of_ble_eq_true rfl
  have hR2 : 0 ≤ R.locals := by rw [hR]; exact Nat.le_of_ble_eq_true rfl
  have hR3 : 0 ≤ R.cells := by rw [hR]; exact Nat.le_refl _
  have hR4 : 0 ≤ R.slots := by rw [hR]; exact Nat.le_refl _
  rw [← hR]
  obtain ⟨Q, hQ⟩ : ∃ Q, Q = MQ below (xQ G vwCl (some (.int res.1)) res.2 sz) args s (0) (0) (xA G) := ⟨_, rfl⟩
  rw [← hQ]
  have hS : xS G s s.heap [] := va_S.rf
  obtain ⟨ls, he, hl⟩ := x_entry m [.inr (.inl (some h0)), .inl x1, .inl x2, .inl x3] 6 (Nat.le_of_ble_eq_true rfl)
  rw [show entryFrame m args 6 = F0 m 0 ls [] by rw [ha]; exact he]
  have hl : xL ls 6 [(0, .inr (.inl (some h0))), (1, .inl x1), (2, .inl x2), (3, .inl x3)] := hl
  have h := hf
  unfold f_Leaf_paint at h
  suffices hmain : ∀ (H : Heap) (locs : List Loc), xhd G vwCl w H → xS G s H locs → H.size = sz → (H = s.heap ∧ locs = []) → W p l e R s m args below meth c H locs 0 0 Q (F0 m 0 ls []) from hmain _ _ hH hS hz ⟨rfl, rfl⟩
  clear hH hS hz
  intro H locs hH hS hz hP0
  refine x_iload_n C0 hl 2 d_Leaf_paint_0 rfl rfl ?_
  refine x_aload_n C0 hl 0 d_Leaf_paint_1 rfl rfl ?_
  refine x_getI C0 hE hH (ci := 1) rfl i_Leaf 3 (by decide) kw_1_216 d_Leaf_paint_2 h (fun v_1 h => ?_)
  refine lv_imul C0.1 C0.2.1 d_Leaf_paint_5 ?_
  refine x_iload_n C0 hl 1 d_Leaf_paint_6 rfl rfl ?_
  refine lv_iadd C0.1 C0.2.1 d_Leaf_paint_7 ?_
  refine x_istore (lv' := [(4, .inl ((x2 * v_1) + x1)), (0, .inr (.inl (some h0))), (1, .inl x1), (2, .inl x2), (3, .inl x3)]) C0 hl d_Leaf_paint_8 (by decide) rfl (fun ls hl => ?_)
  refine x_aload_n C0 hl 1 d_Leaf_paint_10 rfl rfl ?_
  refine x_getR C0 hE hH (ci := 1) rfl i_Leaf 5 (by decide) kw_1_223 d_Leaf_paint_11 h (fun v_2 h => ?_)
  refine x_iload C0 hl 0 d_Leaf_paint_14 rfl ?_
  refine x_iald C0 hE hH (t := 0) rfl d_Leaf_paint_16 h (fun v_3 h => ?_)
  refine x_iload_n C0 hl 4 d_Leaf_paint_17 rfl rfl ?_
  refine xj1 h (fun J_5 eJ_5 h => ?_)
  have kJ_5 : ∀ (x_4 : Int32) (ls : Array Slot), xL ls 6 [(0, .inr (.inl (some h0))), (3, .inl x3), (4, .inl ((x2 * v_1) + x1))] → J_5 x_4 = some res → W p l e R s m args below meth c H locs 0 0 Q (F0 m 26 ls [.int x_4]) := by
    intro x_4 ls hl h
    rw [eJ_5] at h
    refine x_istore (lv' := [(5, .inl x_4), (0, .inr (.inl (some h0))), (3, .inl x3), (4, .inl ((x2 * v_1) + x1))]) C0 hl d_Leaf_paint_26 (by decide) rfl (fun ls hl => ?_)
    refine x_aload_n C0 hl 1 d_Leaf_paint_28 rfl rfl ?_
    refine x_getR C0 hE hH (ci := 1) rfl i_Leaf 5 (by decide) kw_1_223 d_Leaf_paint_29 h (fun v_6 h => ?_)
    refine x_iload C0 hl 3 d_Leaf_paint_32 rfl ?_
    refine x_iload_n C0 hl 2 d_Leaf_paint_34 rfl rfl ?_
    refine x_iast C0 hE hH hS (t := 0) rfl d_Leaf_paint_35 h (fun w_7 H locs hH hS hz9 h => ?_)
    have hz := hz9.trans hz
    refine x_iload C0 hl 0 d_Leaf_paint_36 rfl ?_
    obtain ⟨hn9, h⟩ := x_ifs h
    cases h
    rw [hQ]
    exact x_zret (v := x_4) C0 hr hlocks hH hS hz (x_nar (fun _ => ⟨_, rfl⟩) hn9) d_Leaf_paint_38
  refine x_icmp_eq C0 25 d_Leaf_paint_18 (by decide) h (fun h => ?_) (fun h => ?_)
  · refine lv_iconst (v := 0) C0.1 C0.2.1 d_Leaf_paint_25 (by decide) ?_
    exact kJ_5 _ ls (x_sub hl [1, 4, 0] rfl) h
  · refine lv_iconst (v := 1) C0.1 C0.2.1 d_Leaf_paint_21 (by decide) ?_
    refine x_goto C0 26 d_Leaf_paint_22 (by decide) ?_
    exact kJ_5 _ ls (x_sub hl [1, 4, 0] rfl) h
theorem d_Piece_init_0 : decode b_Piece_init 0 = .ok (.aload_n 0, 1) := by decide +kernel
theorem d_Piece_init_1 : decode b_Piece_init 1 = .ok (.invokespecial 1, 3) := by decide +kernel
theorem d_Piece_init_4 : decode b_Piece_init 4 = .ok (.aload_n 0, 1) := by decide +kernel
theorem d_Piece_init_5 : decode b_Piece_init 5 = .ok (.iconst 0, 1) := by decide +kernel
theorem d_Piece_init_6 : decode b_Piece_init 6 = .ok (.putfield 7, 3) := by decide +kernel
theorem d_Piece_init_9 : decode b_Piece_init 9 = .ok (.aload_n 0, 1) := by decide +kernel
theorem d_Piece_init_10 : decode b_Piece_init 10 = .ok (.iconst 0, 1) := by decide +kernel
theorem d_Piece_init_11 : decode b_Piece_init 11 = .ok (.putfield 13, 3) := by decide +kernel
theorem d_Piece_init_14 : decode b_Piece_init 14 = .ok (.aload_n 0, 1) := by decide +kernel
theorem d_Piece_init_15 : decode b_Piece_init 15 = .ok (.aload_n 1, 1) := by decide +kernel
theorem d_Piece_init_16 : decode b_Piece_init 16 = .ok (.putfield 16, 3) := by decide +kernel
theorem d_Piece_init_19 : decode b_Piece_init 19 = .ok (.aload_n 0, 1) := by decide +kernel
theorem d_Piece_init_20 : decode b_Piece_init 20 = .ok (.iload_n 2, 1) := by decide +kernel
theorem d_Piece_init_21 : decode b_Piece_init 21 = .ok (.putfield 20, 3) := by decide +kernel
theorem d_Piece_init_24 : decode b_Piece_init 24 = .ok (.aload_n 0, 1) := by decide +kernel
theorem d_Piece_init_25 : decode b_Piece_init 25 = .ok (.iload_n 3, 1) := by decide +kernel
theorem d_Piece_init_26 : decode b_Piece_init 26 = .ok (.putfield 24, 3) := by decide +kernel
theorem d_Piece_init_29 : decode b_Piece_init 29 = .ok (.return_, 1) := by decide +kernel
def f_Piece_init (w : Mp) (h0 : Nat) (r1 : Option Nat) (x2 : Int32) (x3 : Int32) : Option (Unit × Mp) := (pF w (some h0) 2 3 (.int (0 : Int32))).bind fun w_1 => (pF w_1 (some h0) 2 4 (.int (0 : Int32))).bind fun w_2 => (pF w_2 (some h0) 2 0 (va_rf r1)).bind fun w_3 => if x2 = 0 ∨ x2 = 1 then ((pF w_3 (some h0) 2 1 (.int x2)).bind fun w_4 => if x3 = 0 ∨ x3 = 1 then ((pF w_4 (some h0) 2 2 (.int x3)).bind fun w_5 => some ((), w_5)) else none) else none
set_option maxHeartbeats 4000000 in
set_option maxRecDepth 100000 in
theorem c_Piece_init (l : Launch) (G : Gx) (w : Mp) (sz : Nat) (h0 : Nat) (r1 : Option Nat) (x2 : Int32) (x3 : Int32) (res : Unit × Mp) (hf : f_Piece_init w h0 r1 x2 x3 = some res) : Met l y_Piece_init (xws y_Piece_init b_Piece_init 4 none) { frames := 1, cells := 0, slots := 0, locals := 24 } (xPc G vwCl xaty w sz [va_rf (some h0), va_rf r1, .int x2, .int x3]) (xQ G vwCl (none) res.2 sz) (0) (0) (xA G) := by
  refine Met.ofW (cc := b_Piece_init) (maxL := 4) (ret := none) (by decide) rfl ?_
  intro p e s m args below meth c s₁ B hml hv
  obtain ⟨ha, hE, hH, hz⟩ := hv
  have C0 : CallFix p m c b_Piece_init 4 s args wA R_Piece := ⟨B.exec, B.bytes, hml, findClass_of_methodNamed B.named, fun w hw => atoms_spec (ws := xws y_Piece_init b_Piece_init 4 none) B.pre w (List.mem_cons_of_mem _ hw)⟩
  have hr := B.returns
  have hlocks := B.notSynchronized
  have hin : meth.name = "<init>" := (name_of_methodNamed B.named B.method).1
  obtain ⟨R, hR⟩ : ∃ R, R = (headSpec (xws y_Piece_init b_Piece_init 4 none) { frames := 1, cells := 0, slots := 0, locals := 24 }).room := ⟨_, rfl⟩
  have hR1 : 1 ≤ R.frames := by rw [hR]; exact Nat.le_of_ble_eq_true rfl
  have hR2 : 24 ≤ R.locals := by rw [hR]; exact Nat.le_of_ble_eq_true rfl
  have hR3 : 0 ≤ R.cells := by rw [hR]; exact Nat.le_refl _
  have hR4 : 0 ≤ R.slots := by rw [hR]; exact Nat.le_refl _
  rw [← hR]
  obtain ⟨Q, hQ⟩ : ∃ Q, Q = MQ below (xQ G vwCl (none) res.2 sz) args s (0) (0) (xA G) := ⟨_, rfl⟩
  rw [← hQ]
  have hS : xS G s s.heap [] := va_S.rf
  obtain ⟨ls, he, hl⟩ := x_entry m [.inr (.inl (some h0)), .inr (.inl r1), .inl x2, .inl x3] 4 (Nat.le_of_ble_eq_true rfl)
  rw [show entryFrame m args 4 = F0 m 0 ls [] by rw [ha]; exact he]
  have hl : xL ls 4 [(0, .inr (.inl (some h0))), (1, .inr (.inl r1)), (2, .inl x2), (3, .inl x3)] := hl
  have h := hf
  unfold f_Piece_init at h
  suffices hmain : ∀ (H : Heap) (locs : List Loc), xhd G vwCl w H → xS G s H locs → H.size = sz → (H = s.heap ∧ locs = []) → W p l e R s m args below meth c H locs 0 0 Q (F0 m 0 ls []) from hmain _ _ hH hS hz ⟨rfl, rfl⟩
  clear hH hS hz
  intro H locs hH hS hz hP0
  refine x_aload_n C0 hl 0 d_Piece_init_0 rfl rfl ?_
  refine x_obj C0 hl kw_2_103 kw_1_30 kw_1_31 d_Piece_init_1 (Nat.le_trans (by decide) hR1) (Nat.le_trans (by first | exact Nat.le_of_ble_eq_true rfl | simp only [List.map_cons, List.map_nil, List.sum_cons, List.sum_nil, va_rf_cat, x_catI, x_catL, x_catA] <;> decide) hR2) ?_
  refine x_aload_n C0 hl 0 d_Piece_init_4 rfl rfl ?_
  refine lv_iconst (v := 0) C0.1 C0.2.1 d_Piece_init_5 (by decide) ?_
  refine x_put C0 hE hH hS (ci := 2) rfl i_Piece t_Piece t_Piece_ok n_Piece 3 (by decide) kw_2_111 rfl rfl rfl d_Piece_init_6 h (fun w_1 H locs hH hS hz9 h => ?_)
  have hz := hz9.trans hz
  refine x_aload_n C0 hl 0 d_Piece_init_9 rfl rfl ?_
  refine lv_iconst (v := 0) C0.1 C0.2.1 d_Piece_init_10 (by decide) ?_
  refine x_put C0 hE hH hS (ci := 2) rfl i_Piece t_Piece t_Piece_ok n_Piece 4 (by decide) kw_2_114 rfl rfl rfl d_Piece_init_11 h (fun w_2 H locs hH hS hz9 h => ?_)
  have hz := hz9.trans hz
  refine x_aload_n C0 hl 0 d_Piece_init_14 rfl rfl ?_
  refine x_aload_n C0 hl 1 d_Piece_init_15 rfl rfl ?_
  refine x_putF C0 hE hH hS hin (ci := 2) rfl i_Piece t_Piece t_Piece_ok n_Piece 0 (by decide) kw_2_104 rfl rfl (x_narR _ _) (x_fitR (Or.inl ⟨_, rfl⟩) _) d_Piece_init_16 h (fun w_3 H locs hH hS hz9 h => ?_)
  have hz := hz9.trans hz
  refine x_aload_n C0 hl 0 d_Piece_init_19 rfl rfl ?_
  refine x_iload_n C0 hl 2 d_Piece_init_20 rfl rfl ?_
  obtain ⟨hn9, h⟩ := x_ifs h
  refine x_putF C0 hE hH hS hin (ci := 2) rfl i_Piece t_Piece t_Piece_ok n_Piece 1 (by decide) kw_2_107 rfl rfl (x_narZ hn9) (x_fitZ hn9) d_Piece_init_21 h (fun w_4 H locs hH hS hz9 h => ?_)
  have hz := hz9.trans hz
  refine x_aload_n C0 hl 0 d_Piece_init_24 rfl rfl ?_
  refine x_iload_n C0 hl 3 d_Piece_init_25 rfl rfl ?_
  obtain ⟨hn9, h⟩ := x_ifs h
  refine x_putF C0 hE hH hS hin (ci := 2) rfl i_Piece t_Piece t_Piece_ok n_Piece 2 (by decide) kw_2_109 rfl rfl (x_narZ hn9) (x_fitZ hn9) d_Piece_init_26 h (fun w_5 H locs hH hS hz9 h => ?_)
  have hz := hz9.trans hz
  cases h
  rw [hQ]
  exact x_vret C0 hr hlocks hH hS hz d_Piece_init_29
theorem d_Plan_forgetPlan_0 : decode b_Plan_forgetPlan 0 = .ok (.aload_n 0, 1) := by decide +kernel
theorem d_Plan_forgetPlan_1 : decode b_Plan_forgetPlan 1 = .ok (.iconst 0, 1) := by decide +kernel
theorem d_Plan_forgetPlan_2 : decode b_Plan_forgetPlan 2 = .ok (.putfield 19, 3) := by decide +kernel
theorem d_Plan_forgetPlan_5 : decode b_Plan_forgetPlan 5 = .ok (.return_, 1) := by decide +kernel
def f_Plan_forgetPlan (w : Mp) (h0 : Nat) : Option (Unit × Mp) := (pF w (some h0) 4 2 (.int (0 : Int32))).bind fun w_1 => some ((), w_1)
set_option maxHeartbeats 4000000 in
set_option maxRecDepth 100000 in
theorem c_Plan_forgetPlan (l : Launch) (G : Gx) (w : Mp) (sz : Nat) (h0 : Nat) (res : Unit × Mp) (hf : f_Plan_forgetPlan w h0 = some res) : Met l y_Plan_forgetPlan (xws y_Plan_forgetPlan b_Plan_forgetPlan 1 none) { frames := 0, cells := 0, slots := 0, locals := 0 } (xPc G vwCl xaty w sz [va_rf (some h0)]) (xQ G vwCl (none) res.2 sz) (0) (0) (xA G) := by
  refine Met.ofW (cc := b_Plan_forgetPlan) (maxL := 1) (ret := none) (by decide) rfl ?_
  intro p e s m args below meth c s₁ B hml hv
  obtain ⟨ha, hE, hH, hz⟩ := hv
  have C0 : CallFix p m c b_Plan_forgetPlan 1 s args wA R_Plan := ⟨B.exec, B.bytes, hml, findClass_of_methodNamed B.named, fun w hw => atoms_spec (ws := xws y_Plan_forgetPlan b_Plan_forgetPlan 1 none) B.pre w (List.mem_cons_of_mem _ hw)⟩
  have hr := B.returns
  have hlocks := B.notSynchronized
  obtain ⟨R, hR⟩ : ∃ R, R = (headSpec (xws y_Plan_forgetPlan b_Plan_forgetPlan 1 none) { frames := 0, cells := 0, slots := 0, locals := 0 }).room := ⟨_, rfl⟩
  have hR1 : 0 ≤ R.frames := by rw [hR]; exact Nat.le_of_ble_eq_true rfl
  have hR2 : 0 ≤ R.locals := by rw [hR]; exact Nat.le_of_ble_eq_true rfl
  have hR3 : 0 ≤ R.cells := by rw [hR]; exact Nat.le_refl _
  have hR4 : 0 ≤ R.slots := by rw [hR]; exact Nat.le_refl _
  rw [← hR]
  obtain ⟨Q, hQ⟩ : ∃ Q, Q = MQ below (xQ G vwCl (none) res.2 sz) args s (0) (0) (xA G) := ⟨_, rfl⟩
  rw [← hQ]
  have hS : xS G s s.heap [] := va_S.rf
  obtain ⟨ls, he, hl⟩ := x_entry m [.inr (.inl (some h0))] 1 (Nat.le_of_ble_eq_true rfl)
  rw [show entryFrame m args 1 = F0 m 0 ls [] by rw [ha]; exact he]
  have hl : xL ls 1 [(0, .inr (.inl (some h0)))] := hl
  have h := hf
  unfold f_Plan_forgetPlan at h
  suffices hmain : ∀ (H : Heap) (locs : List Loc), xhd G vwCl w H → xS G s H locs → H.size = sz → (H = s.heap ∧ locs = []) → W p l e R s m args below meth c H locs 0 0 Q (F0 m 0 ls []) from hmain _ _ hH hS hz ⟨rfl, rfl⟩
  clear hH hS hz
  intro H locs hH hS hz hP0
  refine x_aload_n C0 hl 0 d_Plan_forgetPlan_0 rfl rfl ?_
  refine lv_iconst (v := 0) C0.1 C0.2.1 d_Plan_forgetPlan_1 (by decide) ?_
  refine x_put C0 hE hH hS (ci := 4) rfl i_Plan t_Plan t_Plan_ok n_Plan 2 (by decide) kw_1_45 rfl rfl rfl d_Plan_forgetPlan_2 h (fun w_1 H locs hH hS hz9 h => ?_)
  have hz := hz9.trans hz
  cases h
  rw [hQ]
  exact x_vret C0 hr hlocks hH hS hz d_Plan_forgetPlan_5
theorem d_Plan_addWanted_0 : decode b_Plan_addWanted 0 = .ok (.aload_n 0, 1) := by decide +kernel
theorem d_Plan_addWanted_1 : decode b_Plan_addWanted 1 = .ok (.getfield 9, 3) := by decide +kernel
theorem d_Plan_addWanted_4 : decode b_Plan_addWanted 4 = .ok (.aload_n 0, 1) := by decide +kernel
theorem d_Plan_addWanted_5 : decode b_Plan_addWanted 5 = .ok (.getfield 15, 3) := by decide +kernel
theorem d_Plan_addWanted_8 : decode b_Plan_addWanted 8 = .ok (.iload_n 1, 1) := by decide +kernel
theorem d_Plan_addWanted_9 : decode b_Plan_addWanted 9 = .ok (.iastore, 1) := by decide +kernel
theorem d_Plan_addWanted_10 : decode b_Plan_addWanted 10 = .ok (.aload_n 0, 1) := by decide +kernel
theorem d_Plan_addWanted_11 : decode b_Plan_addWanted 11 = .ok (.dup, 1) := by decide +kernel
theorem d_Plan_addWanted_12 : decode b_Plan_addWanted 12 = .ok (.getfield 15, 3) := by decide +kernel
theorem d_Plan_addWanted_15 : decode b_Plan_addWanted 15 = .ok (.iconst 1, 1) := by decide +kernel
theorem d_Plan_addWanted_16 : decode b_Plan_addWanted 16 = .ok (.iadd, 1) := by decide +kernel
theorem d_Plan_addWanted_17 : decode b_Plan_addWanted 17 = .ok (.putfield 15, 3) := by decide +kernel
theorem d_Plan_addWanted_20 : decode b_Plan_addWanted 20 = .ok (.aload_n 0, 1) := by decide +kernel
theorem d_Plan_addWanted_21 : decode b_Plan_addWanted 21 = .ok (.iconst 0, 1) := by decide +kernel
theorem d_Plan_addWanted_22 : decode b_Plan_addWanted 22 = .ok (.putfield 19, 3) := by decide +kernel
theorem d_Plan_addWanted_25 : decode b_Plan_addWanted 25 = .ok (.return_, 1) := by decide +kernel
def f_Plan_addWanted (w : Mp) (h0 : Nat) (x1 : Int32) : Option (Unit × Mp) := (gR w (some h0) 4 0).bind fun v_1 => (gI w (some h0) 4 1).bind fun v_2 => (sI w v_1 0 v_2 x1).bind fun w_3 => (gI w_3 (some h0) 4 1).bind fun v_4 => (pF w_3 (some h0) 4 1 (.int (v_4 + (1 : Int32)))).bind fun w_5 => (pF w_5 (some h0) 4 2 (.int (0 : Int32))).bind fun w_6 => some ((), w_6)
set_option maxHeartbeats 4000000 in
set_option maxRecDepth 100000 in
theorem c_Plan_addWanted (l : Launch) (G : Gx) (w : Mp) (sz : Nat) (h0 : Nat) (x1 : Int32) (res : Unit × Mp) (hf : f_Plan_addWanted w h0 x1 = some res) : Met l y_Plan_addWanted (xws y_Plan_addWanted b_Plan_addWanted 2 none) { frames := 0, cells := 0, slots := 0, locals := 0 } (xPc G vwCl xaty w sz [va_rf (some h0), .int x1]) (xQ G vwCl (none) res.2 sz) (0) (0) (xA G) := by
  refine Met.ofW (cc := b_Plan_addWanted) (maxL := 2) (ret := none) (by decide) rfl ?_
  intro p e s m args below meth c s₁ B hml hv
  obtain ⟨ha, hE, hH, hz⟩ := hv
  have C0 : CallFix p m c b_Plan_addWanted 2 s args wA R_Plan := ⟨B.exec, B.bytes, hml, findClass_of_methodNamed B.named, fun w hw => atoms_spec (ws := xws y_Plan_addWanted b_Plan_addWanted 2 none) B.pre w (List.mem_cons_of_mem _ hw)⟩
  have hr := B.returns
  have hlocks := B.notSynchronized
  obtain ⟨R, hR⟩ : ∃ R, R = (headSpec (xws y_Plan_addWanted b_Plan_addWanted 2 none) { frames := 0, cells := 0, slots := 0, locals := 0 }).room := ⟨_, rfl⟩
  have hR1 : 0 ≤ R.frames := by rw [hR]; exact Nat.le_of_ble_eq_true rfl
  have hR2 : 0 ≤ R.locals := by rw [hR]; exact Nat.le_of_ble_eq_true rfl
  have hR3 : 0 ≤ R.cells := by rw [hR]; exact Nat.le_refl _
  have hR4 : 0 ≤ R.slots := by rw [hR]; exact Nat.le_refl _
  rw [← hR]
  obtain ⟨Q, hQ⟩ : ∃ Q, Q = MQ below (xQ G vwCl (none) res.2 sz) args s (0) (0) (xA G) := ⟨_, rfl⟩
  rw [← hQ]
  have hS : xS G s s.heap [] := va_S.rf
  obtain ⟨ls, he, hl⟩ := x_entry m [.inr (.inl (some h0)), .inl x1] 2 (Nat.le_of_ble_eq_true rfl)
  rw [show entryFrame m args 2 = F0 m 0 ls [] by rw [ha]; exact he]
  have hl : xL ls 2 [(0, .inr (.inl (some h0))), (1, .inl x1)] := hl
  have h := hf
  unfold f_Plan_addWanted at h
  suffices hmain : ∀ (H : Heap) (locs : List Loc), xhd G vwCl w H → xS G s H locs → H.size = sz → (H = s.heap ∧ locs = []) → W p l e R s m args below meth c H locs 0 0 Q (F0 m 0 ls []) from hmain _ _ hH hS hz ⟨rfl, rfl⟩
  clear hH hS hz
  intro H locs hH hS hz hP0
  refine x_aload_n C0 hl 0 d_Plan_addWanted_0 rfl rfl ?_
  refine x_getR C0 hE hH (ci := 4) rfl i_Plan 0 (by decide) kw_1_42 d_Plan_addWanted_1 h (fun v_1 h => ?_)
  refine x_aload_n C0 hl 0 d_Plan_addWanted_4 rfl rfl ?_
  refine x_getI C0 hE hH (ci := 4) rfl i_Plan 1 (by decide) kw_1_43 d_Plan_addWanted_5 h (fun v_2 h => ?_)
  refine x_iload_n C0 hl 1 d_Plan_addWanted_8 rfl rfl ?_
  refine x_iast C0 hE hH hS (t := 0) rfl d_Plan_addWanted_9 h (fun w_3 H locs hH hS hz9 h => ?_)
  have hz := hz9.trans hz
  refine x_aload_n C0 hl 0 d_Plan_addWanted_10 rfl rfl ?_
  refine lv_dup C0.1 C0.2.1 d_Plan_addWanted_11 (va_rf_cat _) ?_
  refine x_getI C0 hE hH (ci := 4) rfl i_Plan 1 (by decide) kw_1_43 d_Plan_addWanted_12 h (fun v_4 h => ?_)
  refine lv_iconst (v := 1) C0.1 C0.2.1 d_Plan_addWanted_15 (by decide) ?_
  refine lv_iadd C0.1 C0.2.1 d_Plan_addWanted_16 ?_
  refine x_put C0 hE hH hS (ci := 4) rfl i_Plan t_Plan t_Plan_ok n_Plan 1 (by decide) kw_1_43 rfl rfl rfl d_Plan_addWanted_17 h (fun w_5 H locs hH hS hz9 h => ?_)
  have hz := hz9.trans hz
  refine x_aload_n C0 hl 0 d_Plan_addWanted_20 rfl rfl ?_
  refine lv_iconst (v := 0) C0.1 C0.2.1 d_Plan_addWanted_21 (by decide) ?_
  refine x_put C0 hE hH hS (ci := 4) rfl i_Plan t_Plan t_Plan_ok n_Plan 2 (by decide) kw_1_45 rfl rfl rfl d_Plan_addWanted_22 h (fun w_6 H locs hH hS hz9 h => ?_)
  have hz := hz9.trans hz
  cases h
  rw [hQ]
  exact x_vret C0 hr hlocks hH hS hz d_Plan_addWanted_25
theorem d_Plan_findRow_0 : decode b_Plan_findRow 0 = .ok (.iload_n 3, 1) := by decide +kernel
theorem d_Plan_findRow_1 : decode b_Plan_findRow 1 = .ok (.bipush 8, 2) := by decide +kernel
theorem d_Plan_findRow_3 : decode b_Plan_findRow 3 = .ok (.imul, 1) := by decide +kernel
theorem d_Plan_findRow_4 : decode b_Plan_findRow 4 = .ok (.iload 4, 2) := by decide +kernel
theorem d_Plan_findRow_6 : decode b_Plan_findRow 6 = .ok (.iadd, 1) := by decide +kernel
theorem d_Plan_findRow_7 : decode b_Plan_findRow 7 = .ok (.istore 5, 2) := by decide +kernel
theorem d_Plan_findRow_9 : decode b_Plan_findRow 9 = .ok (.iconst 0, 1) := by decide +kernel
theorem d_Plan_findRow_10 : decode b_Plan_findRow 10 = .ok (.istore 6, 2) := by decide +kernel
theorem d_Plan_findRow_12 : decode b_Plan_findRow 12 = .ok (.aload_n 0, 1) := by decide +kernel
theorem d_Plan_findRow_13 : decode b_Plan_findRow 13 = .ok (.getfield 29, 3) := by decide +kernel
theorem d_Plan_findRow_16 : decode b_Plan_findRow 16 = .ok (.iload 5, 2) := by decide +kernel
theorem d_Plan_findRow_18 : decode b_Plan_findRow 18 = .ok (.iconst 0, 1) := by decide +kernel
theorem d_Plan_findRow_19 : decode b_Plan_findRow 19 = .ok (.iastore, 1) := by decide +kernel
theorem d_Plan_findRow_20 : decode b_Plan_findRow 20 = .ok (.iload_n 3, 1) := by decide +kernel
theorem d_Plan_findRow_21 : decode b_Plan_findRow 21 = .ok (.istore 7, 2) := by decide +kernel
theorem d_Plan_findRow_23 : decode b_Plan_findRow 23 = .ok (.iload 7, 2) := by decide +kernel
theorem d_Plan_findRow_25 : decode b_Plan_findRow 25 = .ok (.iload_n 2, 1) := by decide +kernel
theorem d_Plan_findRow_26 : decode b_Plan_findRow 26 = .ok (.if_icmp .ge 85, 3) := by decide +kernel
theorem d_Plan_findRow_29 : decode b_Plan_findRow 29 = .ok (.iload 7, 2) := by decide +kernel
theorem d_Plan_findRow_31 : decode b_Plan_findRow 31 = .ok (.iload_n 3, 1) := by decide +kernel
theorem d_Plan_findRow_32 : decode b_Plan_findRow 32 = .ok (.if_icmp .le 20, 3) := by decide +kernel
theorem d_Plan_findRow_35 : decode b_Plan_findRow 35 = .ok (.aload_n 1, 1) := by decide +kernel
theorem d_Plan_findRow_36 : decode b_Plan_findRow 36 = .ok (.iload 7, 2) := by decide +kernel
theorem d_Plan_findRow_38 : decode b_Plan_findRow 38 = .ok (.aaload, 1) := by decide +kernel
theorem d_Plan_findRow_39 : decode b_Plan_findRow 39 = .ok (.aload_n 1, 1) := by decide +kernel
theorem d_Plan_findRow_40 : decode b_Plan_findRow 40 = .ok (.iload 7, 2) := by decide +kernel
theorem d_Plan_findRow_42 : decode b_Plan_findRow 42 = .ok (.iconst 1, 1) := by decide +kernel
theorem d_Plan_findRow_43 : decode b_Plan_findRow 43 = .ok (.isub, 1) := by decide +kernel
theorem d_Plan_findRow_44 : decode b_Plan_findRow 44 = .ok (.aaload, 1) := by decide +kernel
theorem d_Plan_findRow_45 : decode b_Plan_findRow 45 = .ok (.invokevirtual 70, 3) := by decide +kernel
theorem d_Plan_findRow_48 : decode b_Plan_findRow 48 = .ok (.ifCond .ne 4, 3) := by decide +kernel
theorem d_Plan_findRow_51 : decode b_Plan_findRow 51 = .ok (.return_, 1) := by decide +kernel
theorem d_Plan_findRow_52 : decode b_Plan_findRow 52 = .ok (.iload 6, 2) := by decide +kernel
theorem d_Plan_findRow_54 : decode b_Plan_findRow 54 = .ok (.aload_n 1, 1) := by decide +kernel
theorem d_Plan_findRow_55 : decode b_Plan_findRow 55 = .ok (.iload 7, 2) := by decide +kernel
theorem d_Plan_findRow_57 : decode b_Plan_findRow 57 = .ok (.aaload, 1) := by decide +kernel
theorem d_Plan_findRow_58 : decode b_Plan_findRow 58 = .ok (.getfield 76, 3) := by decide +kernel
theorem d_Plan_findRow_61 : decode b_Plan_findRow 61 = .ok (.iadd, 1) := by decide +kernel
theorem d_Plan_findRow_62 : decode b_Plan_findRow 62 = .ok (.istore 6, 2) := by decide +kernel
theorem d_Plan_findRow_64 : decode b_Plan_findRow 64 = .ok (.iload 6, 2) := by decide +kernel
theorem d_Plan_findRow_66 : decode b_Plan_findRow 66 = .ok (.aload_n 0, 1) := by decide +kernel
theorem d_Plan_findRow_67 : decode b_Plan_findRow 67 = .ok (.getfield 9, 3) := by decide +kernel
theorem d_Plan_findRow_70 : decode b_Plan_findRow 70 = .ok (.iload 4, 2) := by decide +kernel
theorem d_Plan_findRow_72 : decode b_Plan_findRow 72 = .ok (.iaload, 1) := by decide +kernel
theorem d_Plan_findRow_73 : decode b_Plan_findRow 73 = .ok (.if_icmp .lt 32, 3) := by decide +kernel
theorem d_Plan_findRow_76 : decode b_Plan_findRow 76 = .ok (.aload_n 0, 1) := by decide +kernel
theorem d_Plan_findRow_77 : decode b_Plan_findRow 77 = .ok (.getfield 29, 3) := by decide +kernel
theorem d_Plan_findRow_80 : decode b_Plan_findRow 80 = .ok (.iload 5, 2) := by decide +kernel
theorem d_Plan_findRow_82 : decode b_Plan_findRow 82 = .ok (.iload 7, 2) := by decide +kernel
theorem d_Plan_findRow_84 : decode b_Plan_findRow 84 = .ok (.iconst 1, 1) := by decide +kernel
theorem d_Plan_findRow_85 : decode b_Plan_findRow 85 = .ok (.iadd, 1) := by decide +kernel
theorem d_Plan_findRow_86 : decode b_Plan_findRow 86 = .ok (.iastore, 1) := by decide +kernel
theorem d_Plan_findRow_87 : decode b_Plan_findRow 87 = .ok (.aload_n 0, 1) := by decide +kernel
theorem d_Plan_findRow_88 : decode b_Plan_findRow 88 = .ok (.getfield 32, 3) := by decide +kernel
theorem d_Plan_findRow_91 : decode b_Plan_findRow 91 = .ok (.iload 5, 2) := by decide +kernel
theorem d_Plan_findRow_93 : decode b_Plan_findRow 93 = .ok (.iload 6, 2) := by decide +kernel
theorem d_Plan_findRow_95 : decode b_Plan_findRow 95 = .ok (.aload_n 0, 1) := by decide +kernel
theorem d_Plan_findRow_96 : decode b_Plan_findRow 96 = .ok (.getfield 9, 3) := by decide +kernel
theorem d_Plan_findRow_99 : decode b_Plan_findRow 99 = .ok (.iload 4, 2) := by decide +kernel
theorem d_Plan_findRow_101 : decode b_Plan_findRow 101 = .ok (.iaload, 1) := by decide +kernel
theorem d_Plan_findRow_102 : decode b_Plan_findRow 102 = .ok (.isub, 1) := by decide +kernel
theorem d_Plan_findRow_103 : decode b_Plan_findRow 103 = .ok (.iastore, 1) := by decide +kernel
theorem d_Plan_findRow_104 : decode b_Plan_findRow 104 = .ok (.return_, 1) := by decide +kernel
theorem d_Plan_findRow_105 : decode b_Plan_findRow 105 = .ok (.iinc 7 1, 3) := by decide +kernel
theorem d_Plan_findRow_108 : decode b_Plan_findRow 108 = .ok (.goto (-85), 3) := by decide +kernel
theorem d_Plan_findRow_111 : decode b_Plan_findRow 111 = .ok (.return_, 1) := by decide +kernel
def f_Plan_findRow_L23 (w : Mp) (h0 : Nat) (r1 : Option Nat) (x2 : Int32) (x3 : Int32) (x4 : Int32) (x5 : Int32) : Nat → Int32 → Int32 → Option (Nat × Int32 × Int32)
  | 0, _, _ => none
  | n + 1, x6, x7 => if x2 ≤ x7 then (some (0, x6, x7)) else (xJ1 (fun (_u : Unit) => (aR w r1 1 x7).bind fun v_4 => (gI w v_4 1 3).bind fun v_5 => (gR w (some h0) 4 0).bind fun v_6 => (aI w v_6 0 x4).bind fun v_7 => if (x6 + v_5) < v_7 then (f_Plan_findRow_L23 w h0 r1 x2 x3 x4 x5 n (x6 + v_5) (x7 + 1)) else (some (2, x6 + v_5, x7))) fun J_3 => if x7 ≤ x3 then (J_3 ()) else ((aR w r1 1 x7).bind fun v_8 => (aR w r1 1 (x7 - (1 : Int32))).bind fun v_9 => (xo w v_8 1).bind fun b_11 => (f_Leaf_follows w b_11 v_9).bind fun q_10 => if q_10 = 0 then (some (1, x6, x7)) else (J_3 ())))
set_option maxHeartbeats 4000000 in
set_option maxRecDepth 100000 in
theorem w_Plan_findRow_L23 {p : Program} {l : Launch} {e : Env} {R : Room} {s : State} {m : MethodId} {args : Array Value} {below : List Frame} {meth : Method} {c : Code} {Q : State → Prop} {cells slots sz : Nat} {G : Gx} {h0 : Nat} {r1 : Option Nat} {x2 : Int32} {x3 : Int32} {x4 : Int32} {x5 : Int32} (C0 : CallFix p m c b_Plan_findRow 8 s args wA R_Plan) (hE : xE G vwCl xaty s) (hR1 : 1 ≤ R.frames) (hR2 : 21 ≤ R.locals) (hR3 : cells ≤ R.cells) (hR4 : slots ≤ R.slots) {w : Mp} {H : Heap} {locs : List Loc} (hH : xhd G vwCl w H) (hS : xS G s H locs) (hz : H.size = sz) : ∀ (n : Nat) (x6 : Int32) (x7 : Int32) (q : Nat × Int32 × Int32) (ls : Array Slot), xL ls 8 [(0, .inr (.inl (some h0))), (1, .inr (.inl r1)), (2, .inl x2), (3, .inl x3), (4, .inl x4), (5, .inl x5), (6, .inl x6), (7, .inl x7)] → f_Plan_findRow_L23 w h0 r1 x2 x3 x4 x5 n x6 x7 = some q → ((q.1 = 0 → ∀ (ls : Array Slot), xL ls 8 [(0, .inr (.inl (some h0))), (1, .inr (.inl r1)), (2, .inl x2), (3, .inl x3), (4, .inl x4), (5, .inl x5), (6, .inl q.2.1), (7, .inl q.2.2)] → W p l e R s m args below meth c H locs cells slots Q (F0 m 111 ls [])) ∧ (q.1 = 1 → ∀ (ls : Array Slot), xL ls 8 [(0, .inr (.inl (some h0))), (1, .inr (.inl r1)), (2, .inl x2), (3, .inl x3), (4, .inl x4), (5, .inl x5), (6, .inl q.2.1), (7, .inl q.2.2)] → W p l e R s m args below meth c H locs cells slots Q (F0 m 51 ls [])) ∧ (q.1 = 2 → ∀ (ls : Array Slot), xL ls 8 [(0, .inr (.inl (some h0))), (1, .inr (.inl r1)), (2, .inl x2), (3, .inl x3), (4, .inl x4), (5, .inl x5), (6, .inl q.2.1), (7, .inl q.2.2)] → W p l e R s m args below meth c H locs cells slots Q (F0 m 76 ls []))) → W p l e R s m args below meth c H locs cells slots Q (F0 m 23 ls []) := by
  intro n
  induction n with
  | zero => intro _ _ q ls hl h; cases h
  | succ n ih =>
    intro x6 x7 q ls hl h K
    rw [f_Plan_findRow_L23] at h
    refine x_iload C0 hl 7 d_Plan_findRow_23 rfl ?_
    refine x_iload_n C0 hl 2 d_Plan_findRow_25 rfl rfl ?_
    refine x_icmp_ge C0 111 d_Plan_findRow_26 (by decide) h (fun h => ?_) (fun h => ?_)
    · cases h
      exact K.1 rfl ls (x_sub hl [0, 1, 2, 3, 4, 5, 6, 7] rfl)
    · refine x_iload C0 hl 7 d_Plan_findRow_29 rfl ?_
      refine x_iload_n C0 hl 3 d_Plan_findRow_31 rfl rfl ?_
      refine xj1 h (fun J_3 eJ_3 h => ?_)
      have kJ_3 : ∀ (_u : Unit) (ls : Array Slot), xL ls 8 [(0, .inr (.inl (some h0))), (1, .inr (.inl r1)), (2, .inl x2), (3, .inl x3), (4, .inl x4), (5, .inl x5), (6, .inl x6), (7, .inl x7)] → J_3 _u = some q → W p l e R s m args below meth c H locs cells slots Q (F0 m 52 ls []) := by
        intro _u ls hl h
        rw [eJ_3] at h
        refine x_iload C0 hl 6 d_Plan_findRow_52 rfl ?_
        refine x_aload_n C0 hl 1 d_Plan_findRow_54 rfl rfl ?_
        refine x_iload C0 hl 7 d_Plan_findRow_55 rfl ?_
        refine x_aald C0 hE hH (t := 1) rfl d_Plan_findRow_57 h (fun v_4 h => ?_)
        refine x_getI C0 hE hH (ci := 1) rfl i_Leaf 3 (by decide) kw_1_219 d_Plan_findRow_58 h (fun v_5 h => ?_)
        refine lv_iadd C0.1 C0.2.1 d_Plan_findRow_61 ?_
        refine x_istore (lv' := [(6, .inl (x6 + v_5)), (0, .inr (.inl (some h0))), (1, .inr (.inl r1)), (2, .inl x2), (3, .inl x3), (4, .inl x4), (5, .inl x5), (7, .inl x7)]) C0 hl d_Plan_findRow_62 (by decide) rfl (fun ls hl => ?_)
        refine x_iload C0 hl 0 d_Plan_findRow_64 rfl ?_
        refine x_aload_n C0 hl 1 d_Plan_findRow_66 rfl rfl ?_
        refine x_getR C0 hE hH (ci := 4) rfl i_Plan 0 (by decide) kw_1_42 d_Plan_findRow_67 h (fun v_6 h => ?_)
        refine x_iload C0 hl 5 d_Plan_findRow_70 rfl ?_
        refine x_iald C0 hE hH (t := 0) rfl d_Plan_findRow_72 h (fun v_7 h => ?_)
        refine x_icmp_lt C0 105 d_Plan_findRow_73 (by decide) h (fun h => ?_) (fun h => ?_)
        · refine x_iinc (v := 1) (lv' := [(7, .inl (x7 + 1)), (6, .inl (x6 + v_5)), (0, .inr (.inl (some h0))), (1, .inr (.inl r1)), (2, .inl x2), (3, .inl x3), (4, .inl x4), (5, .inl x5)]) C0 hl 7 d_Plan_findRow_105 rfl (by decide) (by decide) rfl (fun ls hl => ?_)
          refine x_goto C0 23 d_Plan_findRow_108 (by decide) ?_
          exact ih _ _ q ls (x_sub hl [2, 3, 4, 5, 6, 7, 1, 0] rfl) h K
        · cases h
          exact K.2.2 rfl ls (x_sub hl [1, 2, 3, 4, 5, 6, 0, 7] rfl)
      refine x_icmp_le C0 52 d_Plan_findRow_32 (by decide) h (fun h => ?_) (fun h => ?_)
      · exact kJ_3 _ ls (x_sub hl [0, 1, 2, 3, 4, 5, 6, 7] rfl) h
      · refine x_aload_n C0 hl 1 d_Plan_findRow_35 rfl rfl ?_
        refine x_iload C0 hl 7 d_Plan_findRow_36 rfl ?_
        refine x_aald C0 hE hH (t := 1) rfl d_Plan_findRow_38 h (fun v_8 h => ?_)
        refine x_aload_n C0 hl 1 d_Plan_findRow_39 rfl rfl ?_
        refine x_iload C0 hl 7 d_Plan_findRow_40 rfl ?_
        refine lv_iconst (v := 1) C0.1 C0.2.1 d_Plan_findRow_42 (by decide) ?_
        refine lv_isub C0.1 C0.2.1 d_Plan_findRow_43 ?_
        refine x_aald C0 hE hH (t := 1) rfl d_Plan_findRow_44 h (fun v_9 h => ?_)
        obtain ⟨b_11, e9, h⟩ := Option.bind_eq_some_iff.mp h
        obtain ⟨e8, fs9, hb9⟩ := xo_inv e9
        obtain ⟨q_10, e9, h⟩ := Option.bind_eq_some_iff.mp h
        refine x_callP (va_runV (As := [va_rf v_9]) (rest := []) C0 (c_Leaf_follows l G w _ b_11 v_9 q_10 e9) (x_cwV 1 C0 kw_4_44 kw_2_91 kw_1_9 kw_2_89 kw_2_90 (by decide +kernel) (x_rm hR1 hR2 (Nat.le_of_ble_eq_true rfl) (Nat.le_of_ble_eq_true rfl))) (x_preV hE hH hS (ci := 1) rfl hb9) rfl rfl hl.1 (by rw [e8]; rfl) (lv_room (by first | exact Nat.le_of_ble_eq_true rfl | simp only [List.map_cons, List.map_nil, List.sum_cons, List.sum_nil, va_rf_cat, x_catI, x_catL, x_catA] <;> decide)) d_Plan_findRow_45 (x_le0 hR3 hR4)) ?_
        refine x_if_ne C0 52 d_Plan_findRow_48 (by decide) h (fun h => ?_) (fun h => ?_)
        · exact kJ_3 _ ls (x_sub hl [0, 1, 2, 3, 4, 5, 6, 7] rfl) h
        · cases h
          exact K.2.1 rfl ls (x_sub hl [0, 1, 2, 3, 4, 5, 6, 7] rfl)
def f_Plan_findRow (w : Mp) (h0 : Nat) (r1 : Option Nat) (x2 : Int32) (x3 : Int32) (x4 : Int32) : Option (Unit × Mp) := (gR w (some h0) 4 5).bind fun v_1 => (sI w v_1 0 ((x3 * (8 : Int32)) + x4) (0 : Int32)).bind fun w_2 => (f_Plan_findRow_L23 w_2 h0 r1 x2 x3 x4 ((x3 * (8 : Int32)) + x4) 100000 (0 : Int32) x3).bind fun q_12 => if q_12.1 = 0 then (some ((), w_2)) else (if q_12.1 = 1 then (some ((), w_2)) else (if q_12.1 = 2 then ((gR w_2 (some h0) 4 5).bind fun v_13 => (sI w_2 v_13 0 ((x3 * (8 : Int32)) + x4) (q_12.2.2 + (1 : Int32))).bind fun w_14 => (gR w_14 (some h0) 4 6).bind fun v_15 => (gR w_14 (some h0) 4 0).bind fun v_16 => (aI w_14 v_16 0 x4).bind fun v_17 => (sI w_14 v_15 0 ((x3 * (8 : Int32)) + x4) (q_12.2.1 - v_17)).bind fun w_18 => some ((), w_18)) else (none)))
set_option maxHeartbeats 4000000 in
set_option maxRecDepth 100000 in
theorem c_Plan_findRow (l : Launch) (G : Gx) (w : Mp) (sz : Nat) (h0 : Nat) (r1 : Option Nat) (x2 : Int32) (x3 : Int32) (x4 : Int32) (res : Unit × Mp) (hf : f_Plan_findRow w h0 r1 x2 x3 x4 = some res) : Met l y_Plan_findRow (xws y_Plan_findRow b_Plan_findRow 8 none) { frames := 1, cells := 0, slots := 0, locals := 21 } (xPc G vwCl xaty w sz [va_rf (some h0), va_rf r1, .int x2, .int x3, .int x4]) (xQ G vwCl (none) res.2 sz) (0) (0) (xA G) := by
  refine Met.ofW (cc := b_Plan_findRow) (maxL := 8) (ret := none) (by decide) rfl ?_
  intro p e s m args below meth c s₁ B hml hv
  obtain ⟨ha, hE, hH, hz⟩ := hv
  have C0 : CallFix p m c b_Plan_findRow 8 s args wA R_Plan := ⟨B.exec, B.bytes, hml, findClass_of_methodNamed B.named, fun w hw => atoms_spec (ws := xws y_Plan_findRow b_Plan_findRow 8 none) B.pre w (List.mem_cons_of_mem _ hw)⟩
  have hr := B.returns
  have hlocks := B.notSynchronized
  obtain ⟨R, hR⟩ : ∃ R, R = (headSpec (xws y_Plan_findRow b_Plan_findRow 8 none) { frames := 1, cells := 0, slots := 0, locals := 21 }).room := ⟨_, rfl⟩
  have hR1 : 1 ≤ R.frames := by rw [hR]; exact Nat.le_of_ble_eq_true rfl
  have hR2 : 21 ≤ R.locals := by rw [hR]; exact Nat.le_of_ble_eq_true rfl
  have hR3 : 0 ≤ R.cells := by rw [hR]; exact Nat.le_refl _
  have hR4 : 0 ≤ R.slots := by rw [hR]; exact Nat.le_refl _
  rw [← hR]
  obtain ⟨Q, hQ⟩ : ∃ Q, Q = MQ below (xQ G vwCl (none) res.2 sz) args s (0) (0) (xA G) := ⟨_, rfl⟩
  rw [← hQ]
  have hS : xS G s s.heap [] := va_S.rf
  obtain ⟨ls, he, hl⟩ := x_entry m [.inr (.inl (some h0)), .inr (.inl r1), .inl x2, .inl x3, .inl x4] 8 (Nat.le_of_ble_eq_true rfl)
  rw [show entryFrame m args 8 = F0 m 0 ls [] by rw [ha]; exact he]
  have hl : xL ls 8 [(0, .inr (.inl (some h0))), (1, .inr (.inl r1)), (2, .inl x2), (3, .inl x3), (4, .inl x4)] := hl
  have h := hf
  unfold f_Plan_findRow at h
  suffices hmain : ∀ (H : Heap) (locs : List Loc), xhd G vwCl w H → xS G s H locs → H.size = sz → (H = s.heap ∧ locs = []) → W p l e R s m args below meth c H locs 0 0 Q (F0 m 0 ls []) from hmain _ _ hH hS hz ⟨rfl, rfl⟩
  clear hH hS hz
  intro H locs hH hS hz hP0
  refine x_iload_n C0 hl 3 d_Plan_findRow_0 rfl rfl ?_
  refine lv_bipush (v := 8) C0.1 C0.2.1 d_Plan_findRow_1 (by decide) ?_
  refine lv_imul C0.1 C0.2.1 d_Plan_findRow_3 ?_
  refine x_iload C0 hl 4 d_Plan_findRow_4 rfl ?_
  refine lv_iadd C0.1 C0.2.1 d_Plan_findRow_6 ?_
  refine x_istore (lv' := [(5, .inl ((x3 * (8 : Int32)) + x4)), (0, .inr (.inl (some h0))), (1, .inr (.inl r1)), (2, .inl x2), (3, .inl x3), (4, .inl x4)]) C0 hl d_Plan_findRow_7 (by decide) rfl (fun ls hl => ?_)
  refine lv_iconst (v := 0) C0.1 C0.2.1 d_Plan_findRow_9 (by decide) ?_
  refine x_istore (lv' := [(6, .inl (0 : Int32)), (5, .inl ((x3 * (8 : Int32)) + x4)), (0, .inr (.inl (some h0))), (1, .inr (.inl r1)), (2, .inl x2), (3, .inl x3), (4, .inl x4)]) C0 hl d_Plan_findRow_10 (by decide) rfl (fun ls hl => ?_)
  refine x_aload_n C0 hl 2 d_Plan_findRow_12 rfl rfl ?_
  refine x_getR C0 hE hH (ci := 4) rfl i_Plan 5 (by decide) kw_1_51 d_Plan_findRow_13 h (fun v_1 h => ?_)
  refine x_iload C0 hl 1 d_Plan_findRow_16 rfl ?_
  refine lv_iconst (v := 0) C0.1 C0.2.1 d_Plan_findRow_18 (by decide) ?_
  refine x_iast C0 hE hH hS (t := 0) rfl d_Plan_findRow_19 h (fun w_2 H locs hH hS hz9 h => ?_)
  have hz := hz9.trans hz
  refine x_iload_n C0 hl 5 d_Plan_findRow_20 rfl rfl ?_
  refine x_istore (lv' := [(7, .inl x3), (6, .inl (0 : Int32)), (5, .inl ((x3 * (8 : Int32)) + x4)), (0, .inr (.inl (some h0))), (1, .inr (.inl r1)), (2, .inl x2), (3, .inl x3), (4, .inl x4)]) C0 hl d_Plan_findRow_21 (by decide) rfl (fun ls hl => ?_)
  obtain ⟨q_12, e9, h⟩ := Option.bind_eq_some_iff.mp h
  refine w_Plan_findRow_L23 C0 hE hR1 hR2 hR3 hR4 hH hS hz 100000 _ _ q_12 ls (x_sub hl [3, 4, 5, 6, 7, 2, 1, 0] rfl) e9 ⟨fun z9 ls hl => ?_, fun z9 ls hl => ?_, fun z9 ls hl => ?_⟩
  · rw [if_pos z9] at h
    cases h
    rw [hQ]
    exact x_vret C0 hr hlocks hH hS hz d_Plan_findRow_111
  · rw [if_neg (by rw [z9]; decide), if_pos z9] at h
    cases h
    rw [hQ]
    exact x_vret C0 hr hlocks hH hS hz d_Plan_findRow_51
  · rw [if_neg (by rw [z9]; decide), if_neg (by rw [z9]; decide), if_pos z9] at h
    refine x_aload_n C0 hl 0 d_Plan_findRow_76 rfl rfl ?_
    refine x_getR C0 hE hH (ci := 4) rfl i_Plan 5 (by decide) kw_1_51 d_Plan_findRow_77 h (fun v_13 h => ?_)
    refine x_iload C0 hl 5 d_Plan_findRow_80 rfl ?_
    refine x_iload C0 hl 7 d_Plan_findRow_82 rfl ?_
    refine lv_iconst (v := 1) C0.1 C0.2.1 d_Plan_findRow_84 (by decide) ?_
    refine lv_iadd C0.1 C0.2.1 d_Plan_findRow_85 ?_
    refine x_iast C0 hE hH hS (t := 0) rfl d_Plan_findRow_86 h (fun w_14 H locs hH hS hz9 h => ?_)
    have hz := hz9.trans hz
    refine x_aload_n C0 hl 0 d_Plan_findRow_87 rfl rfl ?_
    refine x_getR C0 hE hH (ci := 4) rfl i_Plan 6 (by decide) kw_1_52 d_Plan_findRow_88 h (fun v_15 h => ?_)
    refine x_iload C0 hl 5 d_Plan_findRow_91 rfl ?_
    refine x_iload C0 hl 6 d_Plan_findRow_93 rfl ?_
    refine x_aload_n C0 hl 0 d_Plan_findRow_95 rfl rfl ?_
    refine x_getR C0 hE hH (ci := 4) rfl i_Plan 0 (by decide) kw_1_42 d_Plan_findRow_96 h (fun v_16 h => ?_)
    refine x_iload C0 hl 4 d_Plan_findRow_99 rfl ?_
    refine x_iald C0 hE hH (t := 0) rfl d_Plan_findRow_101 h (fun v_17 h => ?_)
    refine lv_isub C0.1 C0.2.1 d_Plan_findRow_102 ?_
    refine x_iast C0 hE hH hS (t := 0) rfl d_Plan_findRow_103 h (fun w_18 H locs hH hS hz9 h => ?_)
    have hz := hz9.trans hz
    cases h
    rw [hQ]
    exact x_vret C0 hr hlocks hH hS hz d_Plan_findRow_104
theorem d_Plan_findRows_0 : decode b_Plan_findRows 0 = .ok (.iconst 0, 1) := by decide +kernel
theorem d_Plan_findRows_1 : decode b_Plan_findRows 1 = .ok (.istore_n 3, 1) := by decide +kernel
theorem d_Plan_findRows_2 : decode b_Plan_findRows 2 = .ok (.iload_n 3, 1) := by decide +kernel
theorem d_Plan_findRows_3 : decode b_Plan_findRows 3 = .ok (.iload_n 2, 1) := by decide +kernel
theorem d_Plan_findRows_4 : decode b_Plan_findRows 4 = .ok (.if_icmp .ge 36, 3) := by decide +kernel
theorem d_Plan_findRows_7 : decode b_Plan_findRows 7 = .ok (.iconst 0, 1) := by decide +kernel
theorem d_Plan_findRows_8 : decode b_Plan_findRows 8 = .ok (.istore 4, 2) := by decide +kernel
theorem d_Plan_findRows_10 : decode b_Plan_findRows 10 = .ok (.iload 4, 2) := by decide +kernel
theorem d_Plan_findRows_12 : decode b_Plan_findRows 12 = .ok (.aload_n 0, 1) := by decide +kernel
theorem d_Plan_findRows_13 : decode b_Plan_findRows 13 = .ok (.getfield 15, 3) := by decide +kernel
theorem d_Plan_findRows_16 : decode b_Plan_findRows 16 = .ok (.if_icmp .ge 18, 3) := by decide +kernel
theorem d_Plan_findRows_19 : decode b_Plan_findRows 19 = .ok (.aload_n 0, 1) := by decide +kernel
theorem d_Plan_findRows_20 : decode b_Plan_findRows 20 = .ok (.aload_n 1, 1) := by decide +kernel
theorem d_Plan_findRows_21 : decode b_Plan_findRows 21 = .ok (.iload_n 2, 1) := by decide +kernel
theorem d_Plan_findRows_22 : decode b_Plan_findRows 22 = .ok (.iload_n 3, 1) := by decide +kernel
theorem d_Plan_findRows_23 : decode b_Plan_findRows 23 = .ok (.iload 4, 2) := by decide +kernel
theorem d_Plan_findRows_25 : decode b_Plan_findRows 25 = .ok (.invokevirtual 66, 3) := by decide +kernel
theorem d_Plan_findRows_28 : decode b_Plan_findRows 28 = .ok (.iinc 4 1, 3) := by decide +kernel
theorem d_Plan_findRows_31 : decode b_Plan_findRows 31 = .ok (.goto (-21), 3) := by decide +kernel
theorem d_Plan_findRows_34 : decode b_Plan_findRows 34 = .ok (.iinc 3 1, 3) := by decide +kernel
theorem d_Plan_findRows_37 : decode b_Plan_findRows 37 = .ok (.goto (-35), 3) := by decide +kernel
theorem d_Plan_findRows_40 : decode b_Plan_findRows 40 = .ok (.return_, 1) := by decide +kernel
def f_Plan_findRows_L10 (h0 : Nat) (r1 : Option Nat) (x2 : Int32) (x3 : Int32) : Nat → Int32 → Mp → Option (Nat × Int32 × Mp)
  | 0, _, _ => none
  | n + 1, x4, w => (gI w (some h0) 4 1).bind fun v_1 => if v_1 ≤ x4 then (some (0, x4, w)) else ((xo w (some h0) 4).bind fun b_3 => (f_Plan_findRow w b_3 r1 x2 x3 x4).bind fun q_2 => f_Plan_findRows_L10 h0 r1 x2 x3 n (x4 + 1) q_2.2)
set_option maxHeartbeats 4000000 in
set_option maxRecDepth 100000 in
theorem w_Plan_findRows_L10 {p : Program} {l : Launch} {e : Env} {R : Room} {s : State} {m : MethodId} {args : Array Value} {below : List Frame} {meth : Method} {c : Code} {Q : State → Prop} {cells slots sz : Nat} {G : Gx} {h0 : Nat} {r1 : Option Nat} {x2 : Int32} {x3 : Int32} (C0 : CallFix p m c b_Plan_findRows 5 s args wA R_Plan) (hE : xE G vwCl xaty s) (hR1 : 2 ≤ R.frames) (hR2 : 48 ≤ R.locals) (hR3 : cells ≤ R.cells) (hR4 : slots ≤ R.slots) : ∀ (n : Nat) (x4 : Int32) (w : Mp) (H : Heap) (locs : List Loc) (q : Nat × Int32 × Mp) (ls : Array Slot), xhd G vwCl w H → xS G s H locs → H.size = sz → xL ls 5 [(0, .inr (.inl (some h0))), (1, .inr (.inl r1)), (2, .inl x2), (3, .inl x3), (4, .inl x4)] → f_Plan_findRows_L10 h0 r1 x2 x3 n x4 w = some q → (∀ (H : Heap) (locs : List Loc) (ls : Array Slot), xhd G vwCl q.2.2 H → xS G s H locs → H.size = sz → xL ls 5 [(0, .inr (.inl (some h0))), (1, .inr (.inl r1)), (2, .inl x2), (3, .inl x3), (4, .inl q.2.1)] → W p l e R s m args below meth c H locs cells slots Q (F0 m 34 ls [])) → W p l e R s m args below meth c H locs cells slots Q (F0 m 10 ls []) := by
  intro n
  induction n with
  | zero => intro _ _ _ _ q ls hH hS hz hl h; cases h
  | succ n ih =>
    intro x4 w H locs q ls hH hS hz hl h K
    rw [f_Plan_findRows_L10] at h
    refine x_iload C0 hl 4 d_Plan_findRows_10 rfl ?_
    refine x_aload_n C0 hl 0 d_Plan_findRows_12 rfl rfl ?_
    refine x_getI C0 hE hH (ci := 4) rfl i_Plan 1 (by decide) kw_1_43 d_Plan_findRows_13 h (fun v_1 h => ?_)
    refine x_icmp_ge C0 34 d_Plan_findRows_16 (by decide) h (fun h => ?_) (fun h => ?_)
    · cases h
      exact K _ _ ls hH hS hz (x_sub hl [0, 1, 2, 3, 4] rfl)
    · refine x_aload_n C0 hl 0 d_Plan_findRows_19 rfl rfl ?_
      refine x_aload_n C0 hl 1 d_Plan_findRows_20 rfl rfl ?_
      refine x_iload_n C0 hl 2 d_Plan_findRows_21 rfl rfl ?_
      refine x_iload_n C0 hl 3 d_Plan_findRows_22 rfl rfl ?_
      refine x_iload C0 hl 4 d_Plan_findRows_23 rfl ?_
      obtain ⟨b_3, e9, h⟩ := Option.bind_eq_some_iff.mp h
      obtain ⟨e8, fs9, hb9⟩ := xo_inv e9
      obtain ⟨q_2, e9, h⟩ := Option.bind_eq_some_iff.mp h
      refine x_call0 hS (va_runV (As := [va_rf r1, .int x2, .int x3, .int x4]) (rest := []) C0 (c_Plan_findRow l G w _ b_3 r1 x2 x3 x4 q_2 e9) (x_cwV 4 C0 kw_4_40 kw_4_43 kw_1_2 kw_4_42 kw_0_10 (by decide +kernel) (x_rm hR1 hR2 (Nat.le_of_ble_eq_true rfl) (Nat.le_of_ble_eq_true rfl))) (x_preV hE hH hS (ci := 4) rfl hb9) rfl rfl hl.1 (by rw [e8]; rfl) (lv_room (by first | exact Nat.le_of_ble_eq_true rfl | simp only [List.map_cons, List.map_nil, List.sum_cons, List.sum_nil, va_rf_cat, x_catI, x_catL, x_catA] <;> decide)) d_Plan_findRows_25 (x_le0 hR3 hR4)) (fun H locs hH hS hz9 => ?_)
      have hz := hz9.trans hz
      refine x_iinc (v := 1) (lv' := [(4, .inl (x4 + 1)), (0, .inr (.inl (some h0))), (1, .inr (.inl r1)), (2, .inl x2), (3, .inl x3)]) C0 hl 4 d_Plan_findRows_28 rfl (by decide) (by decide) rfl (fun ls hl => ?_)
      refine x_goto C0 10 d_Plan_findRows_31 (by decide) ?_
      exact ih _ _ _ _ q ls hH hS hz (x_sub hl [1, 2, 3, 4, 0] rfl) h K
def f_Plan_findRows_L2 (h0 : Nat) (r1 : Option Nat) (x2 : Int32) : Nat → Int32 → Mp → Option (Nat × Int32 × Mp)
  | 0, _, _ => none
  | n + 1, x3, w => if x2 ≤ x3 then (some (0, x3, w)) else ((f_Plan_findRows_L10 h0 r1 x2 x3 100000 (0 : Int32) w).bind fun q_4 => f_Plan_findRows_L2 h0 r1 x2 n (x3 + 1) q_4.2.2)
set_option maxHeartbeats 4000000 in
set_option maxRecDepth 100000 in
theorem w_Plan_findRows_L2 {p : Program} {l : Launch} {e : Env} {R : Room} {s : State} {m : MethodId} {args : Array Value} {below : List Frame} {meth : Method} {c : Code} {Q : State → Prop} {cells slots sz : Nat} {G : Gx} {h0 : Nat} {r1 : Option Nat} {x2 : Int32} (C0 : CallFix p m c b_Plan_findRows 5 s args wA R_Plan) (hE : xE G vwCl xaty s) (hR1 : 2 ≤ R.frames) (hR2 : 48 ≤ R.locals) (hR3 : cells ≤ R.cells) (hR4 : slots ≤ R.slots) : ∀ (n : Nat) (x3 : Int32) (w : Mp) (H : Heap) (locs : List Loc) (q : Nat × Int32 × Mp) (ls : Array Slot), xhd G vwCl w H → xS G s H locs → H.size = sz → xL ls 5 [(0, .inr (.inl (some h0))), (1, .inr (.inl r1)), (2, .inl x2), (3, .inl x3)] → f_Plan_findRows_L2 h0 r1 x2 n x3 w = some q → (∀ (H : Heap) (locs : List Loc) (ls : Array Slot), xhd G vwCl q.2.2 H → xS G s H locs → H.size = sz → xL ls 5 [(0, .inr (.inl (some h0))), (1, .inr (.inl r1)), (2, .inl x2), (3, .inl q.2.1)] → W p l e R s m args below meth c H locs cells slots Q (F0 m 40 ls [])) → W p l e R s m args below meth c H locs cells slots Q (F0 m 2 ls []) := by
  intro n
  induction n with
  | zero => intro _ _ _ _ q ls hH hS hz hl h; cases h
  | succ n ih =>
    intro x3 w H locs q ls hH hS hz hl h K
    rw [f_Plan_findRows_L2] at h
    refine x_iload_n C0 hl 3 d_Plan_findRows_2 rfl rfl ?_
    refine x_iload_n C0 hl 2 d_Plan_findRows_3 rfl rfl ?_
    refine x_icmp_ge C0 40 d_Plan_findRows_4 (by decide) h (fun h => ?_) (fun h => ?_)
    · cases h
      exact K _ _ ls hH hS hz (x_sub hl [0, 1, 2, 3] rfl)
    · refine lv_iconst (v := 0) C0.1 C0.2.1 d_Plan_findRows_7 (by decide) ?_
      refine x_istore (lv' := [(4, .inl (0 : Int32)), (0, .inr (.inl (some h0))), (1, .inr (.inl r1)), (2, .inl x2), (3, .inl x3)]) C0 hl d_Plan_findRows_8 (by decide) rfl (fun ls hl => ?_)
      obtain ⟨q_4, e9, h⟩ := Option.bind_eq_some_iff.mp h
      refine w_Plan_findRows_L10 C0 hE hR1 hR2 hR3 hR4 100000 _ _ _ _ q_4 ls hH hS hz (x_sub hl [1, 2, 3, 4, 0] rfl) e9 (fun H locs ls hH hS hz hl => ?_)
      refine x_iinc (v := 1) (lv' := [(3, .inl (x3 + 1)), (0, .inr (.inl (some h0))), (1, .inr (.inl r1)), (2, .inl x2), (4, .inl q_4.2.1)]) C0 hl 3 d_Plan_findRows_34 rfl (by decide) (by decide) rfl (fun ls hl => ?_)
      refine x_goto C0 2 d_Plan_findRows_37 (by decide) ?_
      exact ih _ _ _ _ q ls hH hS hz (x_sub hl [1, 2, 3, 0] rfl) h K
def f_Plan_findRows (w : Mp) (h0 : Nat) (r1 : Option Nat) (x2 : Int32) : Option (Unit × Mp) := (f_Plan_findRows_L2 h0 r1 x2 100000 (0 : Int32) w).bind fun q_5 => some ((), q_5.2.2)
set_option maxHeartbeats 4000000 in
set_option maxRecDepth 100000 in
theorem c_Plan_findRows (l : Launch) (G : Gx) (w : Mp) (sz : Nat) (h0 : Nat) (r1 : Option Nat) (x2 : Int32) (res : Unit × Mp) (hf : f_Plan_findRows w h0 r1 x2 = some res) : Met l y_Plan_findRows (xws y_Plan_findRows b_Plan_findRows 5 none) { frames := 2, cells := 0, slots := 0, locals := 48 } (xPc G vwCl xaty w sz [va_rf (some h0), va_rf r1, .int x2]) (xQ G vwCl (none) res.2 sz) (0) (0) (xA G) := by
  refine Met.ofW (cc := b_Plan_findRows) (maxL := 5) (ret := none) (by decide) rfl ?_
  intro p e s m args below meth c s₁ B hml hv
  obtain ⟨ha, hE, hH, hz⟩ := hv
  have C0 : CallFix p m c b_Plan_findRows 5 s args wA R_Plan := ⟨B.exec, B.bytes, hml, findClass_of_methodNamed B.named, fun w hw => atoms_spec (ws := xws y_Plan_findRows b_Plan_findRows 5 none) B.pre w (List.mem_cons_of_mem _ hw)⟩
  have hr := B.returns
  have hlocks := B.notSynchronized
  obtain ⟨R, hR⟩ : ∃ R, R = (headSpec (xws y_Plan_findRows b_Plan_findRows 5 none) { frames := 2, cells := 0, slots := 0, locals := 48 }).room := ⟨_, rfl⟩
  have hR1 : 2 ≤ R.frames := by rw [hR]; exact Nat.le_of_ble_eq_true rfl
  have hR2 : 48 ≤ R.locals := by rw [hR]; exact Nat.le_of_ble_eq_true rfl
  have hR3 : 0 ≤ R.cells := by rw [hR]; exact Nat.le_refl _
  have hR4 : 0 ≤ R.slots := by rw [hR]; exact Nat.le_refl _
  rw [← hR]
  obtain ⟨Q, hQ⟩ : ∃ Q, Q = MQ below (xQ G vwCl (none) res.2 sz) args s (0) (0) (xA G) := ⟨_, rfl⟩
  rw [← hQ]
  have hS : xS G s s.heap [] := va_S.rf
  obtain ⟨ls, he, hl⟩ := x_entry m [.inr (.inl (some h0)), .inr (.inl r1), .inl x2] 5 (Nat.le_of_ble_eq_true rfl)
  rw [show entryFrame m args 5 = F0 m 0 ls [] by rw [ha]; exact he]
  have hl : xL ls 5 [(0, .inr (.inl (some h0))), (1, .inr (.inl r1)), (2, .inl x2)] := hl
  have h := hf
  unfold f_Plan_findRows at h
  suffices hmain : ∀ (H : Heap) (locs : List Loc), xhd G vwCl w H → xS G s H locs → H.size = sz → (H = s.heap ∧ locs = []) → W p l e R s m args below meth c H locs 0 0 Q (F0 m 0 ls []) from hmain _ _ hH hS hz ⟨rfl, rfl⟩
  clear hH hS hz
  intro H locs hH hS hz hP0
  refine lv_iconst (v := 0) C0.1 C0.2.1 d_Plan_findRows_0 (by decide) ?_
  refine x_istore_n (lv' := [(3, .inl (0 : Int32)), (0, .inr (.inl (some h0))), (1, .inr (.inl r1)), (2, .inl x2)]) C0 hl d_Plan_findRows_1 rfl (by decide) rfl (fun ls hl => ?_)
  obtain ⟨q_5, e9, h⟩ := Option.bind_eq_some_iff.mp h
  refine w_Plan_findRows_L2 C0 hE hR1 hR2 hR3 hR4 100000 _ _ _ _ q_5 ls hH hS hz (x_sub hl [1, 2, 3, 0] rfl) e9 (fun H locs ls hH hS hz hl => ?_)
  cases h
  rw [hQ]
  exact x_vret C0 hr hlocks hH hS hz d_Plan_findRows_40
theorem d_Plan_lowerByFace_0 : decode b_Plan_lowerByFace 0 = .ok (.iconst 1, 1) := by decide +kernel
theorem d_Plan_lowerByFace_1 : decode b_Plan_lowerByFace 1 = .ok (.iload_n 2, 1) := by decide +kernel
theorem d_Plan_lowerByFace_2 : decode b_Plan_lowerByFace 2 = .ok (.ishl, 1) := by decide +kernel
theorem d_Plan_lowerByFace_3 : decode b_Plan_lowerByFace 3 = .ok (.istore_n 3, 1) := by decide +kernel
theorem d_Plan_lowerByFace_4 : decode b_Plan_lowerByFace 4 = .ok (.aload_n 0, 1) := by decide +kernel
theorem d_Plan_lowerByFace_5 : decode b_Plan_lowerByFace 5 = .ok (.getfield 29, 3) := by decide +kernel
theorem d_Plan_lowerByFace_8 : decode b_Plan_lowerByFace 8 = .ok (.iload_n 1, 1) := by decide +kernel
theorem d_Plan_lowerByFace_9 : decode b_Plan_lowerByFace 9 = .ok (.bipush 8, 2) := by decide +kernel
theorem d_Plan_lowerByFace_11 : decode b_Plan_lowerByFace 11 = .ok (.imul, 1) := by decide +kernel
theorem d_Plan_lowerByFace_12 : decode b_Plan_lowerByFace 12 = .ok (.iload_n 2, 1) := by decide +kernel
theorem d_Plan_lowerByFace_13 : decode b_Plan_lowerByFace 13 = .ok (.iadd, 1) := by decide +kernel
theorem d_Plan_lowerByFace_14 : decode b_Plan_lowerByFace 14 = .ok (.iaload, 1) := by decide +kernel
theorem d_Plan_lowerByFace_15 : decode b_Plan_lowerByFace 15 = .ok (.istore 4, 2) := by decide +kernel
theorem d_Plan_lowerByFace_17 : decode b_Plan_lowerByFace 17 = .ok (.aload_n 0, 1) := by decide +kernel
theorem d_Plan_lowerByFace_18 : decode b_Plan_lowerByFace 18 = .ok (.getfield 32, 3) := by decide +kernel
theorem d_Plan_lowerByFace_21 : decode b_Plan_lowerByFace 21 = .ok (.iload_n 1, 1) := by decide +kernel
theorem d_Plan_lowerByFace_22 : decode b_Plan_lowerByFace 22 = .ok (.bipush 8, 2) := by decide +kernel
theorem d_Plan_lowerByFace_24 : decode b_Plan_lowerByFace 24 = .ok (.imul, 1) := by decide +kernel
theorem d_Plan_lowerByFace_25 : decode b_Plan_lowerByFace 25 = .ok (.iload_n 2, 1) := by decide +kernel
theorem d_Plan_lowerByFace_26 : decode b_Plan_lowerByFace 26 = .ok (.iadd, 1) := by decide +kernel
theorem d_Plan_lowerByFace_27 : decode b_Plan_lowerByFace 27 = .ok (.iaload, 1) := by decide +kernel
theorem d_Plan_lowerByFace_28 : decode b_Plan_lowerByFace 28 = .ok (.istore 5, 2) := by decide +kernel
theorem d_Plan_lowerByFace_30 : decode b_Plan_lowerByFace 30 = .ok (.iload 4, 2) := by decide +kernel
theorem d_Plan_lowerByFace_32 : decode b_Plan_lowerByFace 32 = .ok (.ifCond .ne 4, 3) := by decide +kernel
theorem d_Plan_lowerByFace_35 : decode b_Plan_lowerByFace 35 = .ok (.return_, 1) := by decide +kernel
theorem d_Plan_lowerByFace_36 : decode b_Plan_lowerByFace 36 = .ok (.iconst 0, 1) := by decide +kernel
theorem d_Plan_lowerByFace_37 : decode b_Plan_lowerByFace 37 = .ok (.istore 6, 2) := by decide +kernel
theorem d_Plan_lowerByFace_39 : decode b_Plan_lowerByFace 39 = .ok (.iload 6, 2) := by decide +kernel
theorem d_Plan_lowerByFace_41 : decode b_Plan_lowerByFace 41 = .ok (.aload_n 0, 1) := by decide +kernel
theorem d_Plan_lowerByFace_42 : decode b_Plan_lowerByFace 42 = .ok (.getfield 38, 3) := by decide +kernel
theorem d_Plan_lowerByFace_45 : decode b_Plan_lowerByFace 45 = .ok (.if_icmp .ge 71, 3) := by decide +kernel
theorem d_Plan_lowerByFace_48 : decode b_Plan_lowerByFace 48 = .ok (.iload 6, 2) := by decide +kernel
theorem d_Plan_lowerByFace_50 : decode b_Plan_lowerByFace 50 = .ok (.iload_n 3, 1) := by decide +kernel
theorem d_Plan_lowerByFace_51 : decode b_Plan_lowerByFace 51 = .ok (.iand, 1) := by decide +kernel
theorem d_Plan_lowerByFace_52 : decode b_Plan_lowerByFace 52 = .ok (.ifCond .ne 58, 3) := by decide +kernel
theorem d_Plan_lowerByFace_55 : decode b_Plan_lowerByFace 55 = .ok (.iload 5, 2) := by decide +kernel
theorem d_Plan_lowerByFace_57 : decode b_Plan_lowerByFace 57 = .ok (.aload_n 0, 1) := by decide +kernel
theorem d_Plan_lowerByFace_58 : decode b_Plan_lowerByFace 58 = .ok (.getfield 35, 3) := by decide +kernel
theorem d_Plan_lowerByFace_61 : decode b_Plan_lowerByFace 61 = .ok (.iload 4, 2) := by decide +kernel
theorem d_Plan_lowerByFace_63 : decode b_Plan_lowerByFace 63 = .ok (.aload_n 0, 1) := by decide +kernel
theorem d_Plan_lowerByFace_64 : decode b_Plan_lowerByFace 64 = .ok (.getfield 38, 3) := by decide +kernel
theorem d_Plan_lowerByFace_67 : decode b_Plan_lowerByFace 67 = .ok (.imul, 1) := by decide +kernel
theorem d_Plan_lowerByFace_68 : decode b_Plan_lowerByFace 68 = .ok (.iload 6, 2) := by decide +kernel
theorem d_Plan_lowerByFace_70 : decode b_Plan_lowerByFace 70 = .ok (.iload_n 3, 1) := by decide +kernel
theorem d_Plan_lowerByFace_71 : decode b_Plan_lowerByFace 71 = .ok (.ior, 1) := by decide +kernel
theorem d_Plan_lowerByFace_72 : decode b_Plan_lowerByFace 72 = .ok (.iadd, 1) := by decide +kernel
theorem d_Plan_lowerByFace_73 : decode b_Plan_lowerByFace 73 = .ok (.iaload, 1) := by decide +kernel
theorem d_Plan_lowerByFace_74 : decode b_Plan_lowerByFace 74 = .ok (.iadd, 1) := by decide +kernel
theorem d_Plan_lowerByFace_75 : decode b_Plan_lowerByFace 75 = .ok (.istore 7, 2) := by decide +kernel
theorem d_Plan_lowerByFace_77 : decode b_Plan_lowerByFace 77 = .ok (.aload_n 0, 1) := by decide +kernel
theorem d_Plan_lowerByFace_78 : decode b_Plan_lowerByFace 78 = .ok (.getfield 35, 3) := by decide +kernel
theorem d_Plan_lowerByFace_81 : decode b_Plan_lowerByFace 81 = .ok (.iload_n 1, 1) := by decide +kernel
theorem d_Plan_lowerByFace_82 : decode b_Plan_lowerByFace 82 = .ok (.aload_n 0, 1) := by decide +kernel
theorem d_Plan_lowerByFace_83 : decode b_Plan_lowerByFace 83 = .ok (.getfield 38, 3) := by decide +kernel
theorem d_Plan_lowerByFace_86 : decode b_Plan_lowerByFace 86 = .ok (.imul, 1) := by decide +kernel
theorem d_Plan_lowerByFace_87 : decode b_Plan_lowerByFace 87 = .ok (.iload 6, 2) := by decide +kernel
theorem d_Plan_lowerByFace_89 : decode b_Plan_lowerByFace 89 = .ok (.iadd, 1) := by decide +kernel
theorem d_Plan_lowerByFace_90 : decode b_Plan_lowerByFace 90 = .ok (.iload 7, 2) := by decide +kernel
theorem d_Plan_lowerByFace_92 : decode b_Plan_lowerByFace 92 = .ok (.aload_n 0, 1) := by decide +kernel
theorem d_Plan_lowerByFace_93 : decode b_Plan_lowerByFace 93 = .ok (.getfield 35, 3) := by decide +kernel
theorem d_Plan_lowerByFace_96 : decode b_Plan_lowerByFace 96 = .ok (.iload_n 1, 1) := by decide +kernel
theorem d_Plan_lowerByFace_97 : decode b_Plan_lowerByFace 97 = .ok (.aload_n 0, 1) := by decide +kernel
theorem d_Plan_lowerByFace_98 : decode b_Plan_lowerByFace 98 = .ok (.getfield 38, 3) := by decide +kernel
theorem d_Plan_lowerByFace_101 : decode b_Plan_lowerByFace 101 = .ok (.imul, 1) := by decide +kernel
theorem d_Plan_lowerByFace_102 : decode b_Plan_lowerByFace 102 = .ok (.iload 6, 2) := by decide +kernel
theorem d_Plan_lowerByFace_104 : decode b_Plan_lowerByFace 104 = .ok (.iadd, 1) := by decide +kernel
theorem d_Plan_lowerByFace_105 : decode b_Plan_lowerByFace 105 = .ok (.iaload, 1) := by decide +kernel
theorem d_Plan_lowerByFace_106 : decode b_Plan_lowerByFace 106 = .ok (.invokestatic 83, 3) := by decide +kernel
theorem d_Plan_lowerByFace_109 : decode b_Plan_lowerByFace 109 = .ok (.iastore, 1) := by decide +kernel
theorem d_Plan_lowerByFace_110 : decode b_Plan_lowerByFace 110 = .ok (.iinc 6 1, 3) := by decide +kernel
theorem d_Plan_lowerByFace_113 : decode b_Plan_lowerByFace 113 = .ok (.goto (-74), 3) := by decide +kernel
theorem d_Plan_lowerByFace_116 : decode b_Plan_lowerByFace 116 = .ok (.return_, 1) := by decide +kernel
def f_Plan_lowerByFace_L39 (h0 : Nat) (x1 : Int32) (x3 : Int32) (x4 : Int32) (x5 : Int32) : Nat → Int32 → Mp → Option (Nat × Int32 × Mp)
  | 0, _, _ => none
  | n + 1, x6, w => (gI w (some h0) 4 8).bind fun v_5 => if v_5 ≤ x6 then (some (0, x6, w)) else (if (x6 &&& x3) = 0 then ((gR w (some h0) 4 7).bind fun v_6 => (gI w (some h0) 4 8).bind fun v_7 => (aI w v_6 0 ((x4 * v_7) + (x6 ||| x3))).bind fun v_8 => (gR w (some h0) 4 7).bind fun v_9 => (gI w (some h0) 4 8).bind fun v_10 => (gR w (some h0) 4 7).bind fun v_11 => (gI w (some h0) 4 8).bind fun v_12 => (aI w v_11 0 ((x1 * v_12) + x6)).bind fun v_13 => (sI w v_9 0 ((x1 * v_10) + x6) (if v_13 < (x5 + v_8) then v_13 else (x5 + v_8))).bind fun w_14 => f_Plan_lowerByFace_L39 h0 x1 x3 x4 x5 n (x6 + 1) w_14) else (f_Plan_lowerByFace_L39 h0 x1 x3 x4 x5 n (x6 + 1) w))
set_option maxHeartbeats 4000000 in
set_option maxRecDepth 100000 in
theorem w_Plan_lowerByFace_L39 {p : Program} {l : Launch} {e : Env} {R : Room} {s : State} {m : MethodId} {args : Array Value} {below : List Frame} {meth : Method} {c : Code} {Q : State → Prop} {cells slots sz : Nat} {G : Gx} {h0 : Nat} {x1 : Int32} {x3 : Int32} {x4 : Int32} {x5 : Int32} (C0 : CallFix p m c b_Plan_lowerByFace 8 s args wA R_Plan) (hE : xE G vwCl xaty s) (hR1 : 1 ≤ R.frames) (hR2 : 24 ≤ R.locals) (hR3 : cells ≤ R.cells) (hR4 : slots ≤ R.slots) : ∀ (n : Nat) (x6 : Int32) (w : Mp) (H : Heap) (locs : List Loc) (q : Nat × Int32 × Mp) (ls : Array Slot), xhd G vwCl w H → xS G s H locs → H.size = sz → xL ls 8 [(0, .inr (.inl (some h0))), (1, .inl x1), (3, .inl x3), (4, .inl x4), (5, .inl x5), (6, .inl x6)] → f_Plan_lowerByFace_L39 h0 x1 x3 x4 x5 n x6 w = some q → (∀ (H : Heap) (locs : List Loc) (ls : Array Slot), xhd G vwCl q.2.2 H → xS G s H locs → H.size = sz → xL ls 8 [(0, .inr (.inl (some h0))), (1, .inl x1), (3, .inl x3), (4, .inl x4), (5, .inl x5), (6, .inl q.2.1)] → W p l e R s m args below meth c H locs cells slots Q (F0 m 116 ls [])) → W p l e R s m args below meth c H locs cells slots Q (F0 m 39 ls []) := by
  intro n
  induction n with
  | zero => intro _ _ _ _ q ls hH hS hz hl h; cases h
  | succ n ih =>
    intro x6 w H locs q ls hH hS hz hl h K
    rw [f_Plan_lowerByFace_L39] at h
    refine x_iload C0 hl 5 d_Plan_lowerByFace_39 rfl ?_
    refine x_aload_n C0 hl 0 d_Plan_lowerByFace_41 rfl rfl ?_
    refine x_getI C0 hE hH (ci := 4) rfl i_Plan 8 (by decide) kw_1_54 d_Plan_lowerByFace_42 h (fun v_5 h => ?_)
    refine x_icmp_ge C0 116 d_Plan_lowerByFace_45 (by decide) h (fun h => ?_) (fun h => ?_)
    · cases h
      exact K _ _ ls hH hS hz (x_sub hl [0, 1, 2, 3, 4, 5] rfl)
    · refine x_iload C0 hl 5 d_Plan_lowerByFace_48 rfl ?_
      refine x_iload_n C0 hl 2 d_Plan_lowerByFace_50 rfl rfl ?_
      refine lv_iand C0.1 C0.2.1 d_Plan_lowerByFace_51 ?_
      refine x_if_ne C0 110 d_Plan_lowerByFace_52 (by decide) h (fun h => ?_) (fun h => ?_)
      · refine x_iinc (v := 1) (lv' := [(6, .inl (x6 + 1)), (0, .inr (.inl (some h0))), (1, .inl x1), (3, .inl x3), (4, .inl x4), (5, .inl x5)]) C0 hl 5 d_Plan_lowerByFace_110 rfl (by decide) (by decide) rfl (fun ls hl => ?_)
        refine x_goto C0 39 d_Plan_lowerByFace_113 (by decide) ?_
        exact ih _ _ _ _ q ls hH hS hz (x_sub hl [1, 2, 3, 4, 5, 0] rfl) h K
      · refine x_iload C0 hl 4 d_Plan_lowerByFace_55 rfl ?_
        refine x_aload_n C0 hl 0 d_Plan_lowerByFace_57 rfl rfl ?_
        refine x_getR C0 hE hH (ci := 4) rfl i_Plan 7 (by decide) kw_1_53 d_Plan_lowerByFace_58 h (fun v_6 h => ?_)
        refine x_iload C0 hl 3 d_Plan_lowerByFace_61 rfl ?_
        refine x_aload_n C0 hl 0 d_Plan_lowerByFace_63 rfl rfl ?_
        refine x_getI C0 hE hH (ci := 4) rfl i_Plan 8 (by decide) kw_1_54 d_Plan_lowerByFace_64 h (fun v_7 h => ?_)
        refine lv_imul C0.1 C0.2.1 d_Plan_lowerByFace_67 ?_
        refine x_iload C0 hl 5 d_Plan_lowerByFace_68 rfl ?_
        refine x_iload_n C0 hl 2 d_Plan_lowerByFace_70 rfl rfl ?_
        refine lv_ior C0.1 C0.2.1 d_Plan_lowerByFace_71 ?_
        refine lv_iadd C0.1 C0.2.1 d_Plan_lowerByFace_72 ?_
        refine x_iald C0 hE hH (t := 0) rfl d_Plan_lowerByFace_73 h (fun v_8 h => ?_)
        refine lv_iadd C0.1 C0.2.1 d_Plan_lowerByFace_74 ?_
        refine x_istore (lv' := [(7, .inl (x5 + v_8)), (0, .inr (.inl (some h0))), (1, .inl x1), (3, .inl x3), (4, .inl x4), (5, .inl x5), (6, .inl x6)]) C0 hl d_Plan_lowerByFace_75 (by decide) rfl (fun ls hl => ?_)
        refine x_aload_n C0 hl 1 d_Plan_lowerByFace_77 rfl rfl ?_
        refine x_getR C0 hE hH (ci := 4) rfl i_Plan 7 (by decide) kw_1_53 d_Plan_lowerByFace_78 h (fun v_9 h => ?_)
        refine x_iload_n C0 hl 2 d_Plan_lowerByFace_81 rfl rfl ?_
        refine x_aload_n C0 hl 1 d_Plan_lowerByFace_82 rfl rfl ?_
        refine x_getI C0 hE hH (ci := 4) rfl i_Plan 8 (by decide) kw_1_54 d_Plan_lowerByFace_83 h (fun v_10 h => ?_)
        refine lv_imul C0.1 C0.2.1 d_Plan_lowerByFace_86 ?_
        refine x_iload C0 hl 6 d_Plan_lowerByFace_87 rfl ?_
        refine lv_iadd C0.1 C0.2.1 d_Plan_lowerByFace_89 ?_
        refine x_iload C0 hl 0 d_Plan_lowerByFace_90 rfl ?_
        refine x_aload_n C0 hl 1 d_Plan_lowerByFace_92 rfl rfl ?_
        refine x_getR C0 hE hH (ci := 4) rfl i_Plan 7 (by decide) kw_1_53 d_Plan_lowerByFace_93 h (fun v_11 h => ?_)
        refine x_iload_n C0 hl 2 d_Plan_lowerByFace_96 rfl rfl ?_
        refine x_aload_n C0 hl 1 d_Plan_lowerByFace_97 rfl rfl ?_
        refine x_getI C0 hE hH (ci := 4) rfl i_Plan 8 (by decide) kw_1_54 d_Plan_lowerByFace_98 h (fun v_12 h => ?_)
        refine lv_imul C0.1 C0.2.1 d_Plan_lowerByFace_101 ?_
        refine x_iload C0 hl 6 d_Plan_lowerByFace_102 rfl ?_
        refine lv_iadd C0.1 C0.2.1 d_Plan_lowerByFace_104 ?_
        refine x_iald C0 hE hH (t := 0) rfl d_Plan_lowerByFace_105 h (fun v_13 h => ?_)
        refine va_mmin C0.1 C0.2.1 (C0.2.2.1.trans hl.1.symm) C0.2.2.2.1 (C0.2.2.2.2 _ kw_4_54) (C0.2.2.2.2 _ kw_2_217) (C0.2.2.2.2 _ kw_1_13) (C0.2.2.2.2 _ kw_2_218) (Nat.le_trans (by decide) hR1) (Nat.le_trans (by first | exact Nat.le_of_ble_eq_true rfl | simp only [List.map_cons, List.map_nil, List.sum_cons, List.sum_nil, va_rf_cat, x_catI, x_catL, x_catA] <;> decide) hR2) hR3 hR4 d_Plan_lowerByFace_106 ?_
        refine x_iast C0 hE hH hS (t := 0) rfl d_Plan_lowerByFace_109 h (fun w_14 H locs hH hS hz9 h => ?_)
        have hz := hz9.trans hz
        refine x_iinc (v := 1) (lv' := [(6, .inl (x6 + 1)), (7, .inl (x5 + v_8)), (0, .inr (.inl (some h0))), (1, .inl x1), (3, .inl x3), (4, .inl x4), (5, .inl x5)]) C0 hl 6 d_Plan_lowerByFace_110 rfl (by decide) (by decide) rfl (fun ls hl => ?_)
        refine x_goto C0 39 d_Plan_lowerByFace_113 (by decide) ?_
        exact ih _ _ _ _ q ls hH hS hz (x_sub hl [2, 3, 4, 5, 6, 0] rfl) h K
def f_Plan_lowerByFace (w : Mp) (h0 : Nat) (x1 : Int32) (x2 : Int32) : Option (Unit × Mp) := (gR w (some h0) 4 5).bind fun v_1 => (aI w v_1 0 ((x1 * (8 : Int32)) + x2)).bind fun v_2 => (gR w (some h0) 4 6).bind fun v_3 => (aI w v_3 0 ((x1 * (8 : Int32)) + x2)).bind fun v_4 => if v_2 = 0 then (some ((), w)) else ((f_Plan_lowerByFace_L39 h0 x1 ((1 : Int32) <<< (x2 &&& 31)) v_2 v_4 100000 (0 : Int32) w).bind fun q_15 => some ((), q_15.2.2))
set_option maxHeartbeats 4000000 in
set_option maxRecDepth 100000 in
theorem c_Plan_lowerByFace (l : Launch) (G : Gx) (w : Mp) (sz : Nat) (h0 : Nat) (x1 : Int32) (x2 : Int32) (res : Unit × Mp) (hf : f_Plan_lowerByFace w h0 x1 x2 = some res) : Met l y_Plan_lowerByFace (xws y_Plan_lowerByFace b_Plan_lowerByFace 8 none) { frames := 1, cells := 0, slots := 0, locals := 24 } (xPc G vwCl xaty w sz [va_rf (some h0), .int x1, .int x2]) (xQ G vwCl (none) res.2 sz) (0) (0) (xA G) := by
  refine Met.ofW (cc := b_Plan_lowerByFace) (maxL := 8) (ret := none) (by decide) rfl ?_
  intro p e s m args below meth c s₁ B hml hv
  obtain ⟨ha, hE, hH, hz⟩ := hv
  have C0 : CallFix p m c b_Plan_lowerByFace 8 s args wA R_Plan := ⟨B.exec, B.bytes, hml, findClass_of_methodNamed B.named, fun w hw => atoms_spec (ws := xws y_Plan_lowerByFace b_Plan_lowerByFace 8 none) B.pre w (List.mem_cons_of_mem _ hw)⟩
  have hr := B.returns
  have hlocks := B.notSynchronized
  obtain ⟨R, hR⟩ : ∃ R, R = (headSpec (xws y_Plan_lowerByFace b_Plan_lowerByFace 8 none) { frames := 1, cells := 0, slots := 0, locals := 24 }).room := ⟨_, rfl⟩
  have hR1 : 1 ≤ R.frames := by rw [hR]; exact Nat.le_of_ble_eq_true rfl
  have hR2 : 24 ≤ R.locals := by rw [hR]; exact Nat.le_of_ble_eq_true rfl
  have hR3 : 0 ≤ R.cells := by rw [hR]; exact Nat.le_refl _
  have hR4 : 0 ≤ R.slots := by rw [hR]; exact Nat.le_refl _
  rw [← hR]
  obtain ⟨Q, hQ⟩ : ∃ Q, Q = MQ below (xQ G vwCl (none) res.2 sz) args s (0) (0) (xA G) := ⟨_, rfl⟩
  rw [← hQ]
  have hS : xS G s s.heap [] := va_S.rf
  obtain ⟨ls, he, hl⟩ := x_entry m [.inr (.inl (some h0)), .inl x1, .inl x2] 8 (Nat.le_of_ble_eq_true rfl)
  rw [show entryFrame m args 8 = F0 m 0 ls [] by rw [ha]; exact he]
  have hl : xL ls 8 [(0, .inr (.inl (some h0))), (1, .inl x1), (2, .inl x2)] := hl
  have h := hf
  unfold f_Plan_lowerByFace at h
  suffices hmain : ∀ (H : Heap) (locs : List Loc), xhd G vwCl w H → xS G s H locs → H.size = sz → (H = s.heap ∧ locs = []) → W p l e R s m args below meth c H locs 0 0 Q (F0 m 0 ls []) from hmain _ _ hH hS hz ⟨rfl, rfl⟩
  clear hH hS hz
  intro H locs hH hS hz hP0
  refine lv_iconst (v := 1) C0.1 C0.2.1 d_Plan_lowerByFace_0 (by decide) ?_
  refine x_iload_n C0 hl 2 d_Plan_lowerByFace_1 rfl rfl ?_
  refine lv_ishl C0.1 C0.2.1 d_Plan_lowerByFace_2 ?_
  refine x_istore_n (lv' := [(3, .inl ((1 : Int32) <<< (x2 &&& 31))), (0, .inr (.inl (some h0))), (1, .inl x1), (2, .inl x2)]) C0 hl d_Plan_lowerByFace_3 rfl (by decide) rfl (fun ls hl => ?_)
  refine x_aload_n C0 hl 1 d_Plan_lowerByFace_4 rfl rfl ?_
  refine x_getR C0 hE hH (ci := 4) rfl i_Plan 5 (by decide) kw_1_51 d_Plan_lowerByFace_5 h (fun v_1 h => ?_)
  refine x_iload_n C0 hl 2 d_Plan_lowerByFace_8 rfl rfl ?_
  refine lv_bipush (v := 8) C0.1 C0.2.1 d_Plan_lowerByFace_9 (by decide) ?_
  refine lv_imul C0.1 C0.2.1 d_Plan_lowerByFace_11 ?_
  refine x_iload_n C0 hl 3 d_Plan_lowerByFace_12 rfl rfl ?_
  refine lv_iadd C0.1 C0.2.1 d_Plan_lowerByFace_13 ?_
  refine x_iald C0 hE hH (t := 0) rfl d_Plan_lowerByFace_14 h (fun v_2 h => ?_)
  refine x_istore (lv' := [(4, .inl v_2), (3, .inl ((1 : Int32) <<< (x2 &&& 31))), (0, .inr (.inl (some h0))), (1, .inl x1), (2, .inl x2)]) C0 hl d_Plan_lowerByFace_15 (by decide) rfl (fun ls hl => ?_)
  refine x_aload_n C0 hl 2 d_Plan_lowerByFace_17 rfl rfl ?_
  refine x_getR C0 hE hH (ci := 4) rfl i_Plan 6 (by decide) kw_1_52 d_Plan_lowerByFace_18 h (fun v_3 h => ?_)
  refine x_iload_n C0 hl 3 d_Plan_lowerByFace_21 rfl rfl ?_
  refine lv_bipush (v := 8) C0.1 C0.2.1 d_Plan_lowerByFace_22 (by decide) ?_
  refine lv_imul C0.1 C0.2.1 d_Plan_lowerByFace_24 ?_
  refine x_iload_n C0 hl 4 d_Plan_lowerByFace_25 rfl rfl ?_
  refine lv_iadd C0.1 C0.2.1 d_Plan_lowerByFace_26 ?_
  refine x_iald C0 hE hH (t := 0) rfl d_Plan_lowerByFace_27 h (fun v_4 h => ?_)
  refine x_istore (lv' := [(5, .inl v_4), (4, .inl v_2), (3, .inl ((1 : Int32) <<< (x2 &&& 31))), (0, .inr (.inl (some h0))), (1, .inl x1), (2, .inl x2)]) C0 hl d_Plan_lowerByFace_28 (by decide) rfl (fun ls hl => ?_)
  refine x_iload C0 hl 1 d_Plan_lowerByFace_30 rfl ?_
  refine x_if_ne C0 36 d_Plan_lowerByFace_32 (by decide) h (fun h => ?_) (fun h => ?_)
  · refine lv_iconst (v := 0) C0.1 C0.2.1 d_Plan_lowerByFace_36 (by decide) ?_
    refine x_istore (lv' := [(6, .inl (0 : Int32)), (5, .inl v_4), (4, .inl v_2), (3, .inl ((1 : Int32) <<< (x2 &&& 31))), (0, .inr (.inl (some h0))), (1, .inl x1), (2, .inl x2)]) C0 hl d_Plan_lowerByFace_37 (by decide) rfl (fun ls hl => ?_)
    obtain ⟨q_15, e9, h⟩ := Option.bind_eq_some_iff.mp h
    refine w_Plan_lowerByFace_L39 C0 hE hR1 hR2 hR3 hR4 100000 _ _ _ _ q_15 ls hH hS hz (x_sub hl [4, 5, 3, 2, 1, 0] rfl) e9 (fun H locs ls hH hS hz hl => ?_)
    cases h
    rw [hQ]
    exact x_vret C0 hr hlocks hH hS hz d_Plan_lowerByFace_116
  · cases h
    rw [hQ]
    exact x_vret C0 hr hlocks hH hS hz d_Plan_lowerByFace_35
theorem d_Plan_findLeastLoss_0 : decode b_Plan_findLeastLoss 0 = .ok (.iconst 0, 1) := by decide +kernel
theorem d_Plan_findLeastLoss_1 : decode b_Plan_findLeastLoss 1 = .ok (.istore_n 2, 1) := by decide +kernel
theorem d_Plan_findLeastLoss_2 : decode b_Plan_findLeastLoss 2 = .ok (.iload_n 2, 1) := by decide +kernel
theorem d_Plan_findLeastLoss_3 : decode b_Plan_findLeastLoss 3 = .ok (.aload_n 0, 1) := by decide +kernel
theorem d_Plan_findLeastLoss_4 : decode b_Plan_findLeastLoss 4 = .ok (.getfield 38, 3) := by decide +kernel
theorem d_Plan_findLeastLoss_7 : decode b_Plan_findLeastLoss 7 = .ok (.if_icmp .ge 38, 3) := by decide +kernel
theorem d_Plan_findLeastLoss_10 : decode b_Plan_findLeastLoss 10 = .ok (.aload_n 0, 1) := by decide +kernel
theorem d_Plan_findLeastLoss_11 : decode b_Plan_findLeastLoss 11 = .ok (.getfield 35, 3) := by decide +kernel
theorem d_Plan_findLeastLoss_14 : decode b_Plan_findLeastLoss 14 = .ok (.iload_n 1, 1) := by decide +kernel
theorem d_Plan_findLeastLoss_15 : decode b_Plan_findLeastLoss 15 = .ok (.aload_n 0, 1) := by decide +kernel
theorem d_Plan_findLeastLoss_16 : decode b_Plan_findLeastLoss 16 = .ok (.getfield 38, 3) := by decide +kernel
theorem d_Plan_findLeastLoss_19 : decode b_Plan_findLeastLoss 19 = .ok (.imul, 1) := by decide +kernel
theorem d_Plan_findLeastLoss_20 : decode b_Plan_findLeastLoss 20 = .ok (.iload_n 2, 1) := by decide +kernel
theorem d_Plan_findLeastLoss_21 : decode b_Plan_findLeastLoss 21 = .ok (.iadd, 1) := by decide +kernel
theorem d_Plan_findLeastLoss_22 : decode b_Plan_findLeastLoss 22 = .ok (.iload_n 2, 1) := by decide +kernel
theorem d_Plan_findLeastLoss_23 : decode b_Plan_findLeastLoss 23 = .ok (.aload_n 0, 1) := by decide +kernel
theorem d_Plan_findLeastLoss_24 : decode b_Plan_findLeastLoss 24 = .ok (.getfield 38, 3) := by decide +kernel
theorem d_Plan_findLeastLoss_27 : decode b_Plan_findLeastLoss 27 = .ok (.iconst 1, 1) := by decide +kernel
theorem d_Plan_findLeastLoss_28 : decode b_Plan_findLeastLoss 28 = .ok (.isub, 1) := by decide +kernel
theorem d_Plan_findLeastLoss_29 : decode b_Plan_findLeastLoss 29 = .ok (.if_icmp .ne 7, 3) := by decide +kernel
theorem d_Plan_findLeastLoss_32 : decode b_Plan_findLeastLoss 32 = .ok (.iconst 0, 1) := by decide +kernel
theorem d_Plan_findLeastLoss_33 : decode b_Plan_findLeastLoss 33 = .ok (.goto 5, 3) := by decide +kernel
theorem d_Plan_findLeastLoss_36 : decode b_Plan_findLeastLoss 36 = .ok (.ldc 52, 2) := by decide +kernel
theorem d_Plan_findLeastLoss_38 : decode b_Plan_findLeastLoss 38 = .ok (.iastore, 1) := by decide +kernel
theorem d_Plan_findLeastLoss_39 : decode b_Plan_findLeastLoss 39 = .ok (.iinc 2 1, 3) := by decide +kernel
theorem d_Plan_findLeastLoss_42 : decode b_Plan_findLeastLoss 42 = .ok (.goto (-40), 3) := by decide +kernel
theorem d_Plan_findLeastLoss_45 : decode b_Plan_findLeastLoss 45 = .ok (.iload_n 1, 1) := by decide +kernel
theorem d_Plan_findLeastLoss_46 : decode b_Plan_findLeastLoss 46 = .ok (.iconst 1, 1) := by decide +kernel
theorem d_Plan_findLeastLoss_47 : decode b_Plan_findLeastLoss 47 = .ok (.isub, 1) := by decide +kernel
theorem d_Plan_findLeastLoss_48 : decode b_Plan_findLeastLoss 48 = .ok (.istore_n 2, 1) := by decide +kernel
theorem d_Plan_findLeastLoss_49 : decode b_Plan_findLeastLoss 49 = .ok (.iload_n 2, 1) := by decide +kernel
theorem d_Plan_findLeastLoss_50 : decode b_Plan_findLeastLoss 50 = .ok (.ifCond .lt 75, 3) := by decide +kernel
theorem d_Plan_findLeastLoss_53 : decode b_Plan_findLeastLoss 53 = .ok (.iconst 0, 1) := by decide +kernel
theorem d_Plan_findLeastLoss_54 : decode b_Plan_findLeastLoss 54 = .ok (.istore_n 3, 1) := by decide +kernel
theorem d_Plan_findLeastLoss_55 : decode b_Plan_findLeastLoss 55 = .ok (.iload_n 3, 1) := by decide +kernel
theorem d_Plan_findLeastLoss_56 : decode b_Plan_findLeastLoss 56 = .ok (.aload_n 0, 1) := by decide +kernel
theorem d_Plan_findLeastLoss_57 : decode b_Plan_findLeastLoss 57 = .ok (.getfield 38, 3) := by decide +kernel
theorem d_Plan_findLeastLoss_60 : decode b_Plan_findLeastLoss 60 = .ok (.if_icmp .ge 37, 3) := by decide +kernel
theorem d_Plan_findLeastLoss_63 : decode b_Plan_findLeastLoss 63 = .ok (.aload_n 0, 1) := by decide +kernel
theorem d_Plan_findLeastLoss_64 : decode b_Plan_findLeastLoss 64 = .ok (.getfield 35, 3) := by decide +kernel
theorem d_Plan_findLeastLoss_67 : decode b_Plan_findLeastLoss 67 = .ok (.iload_n 2, 1) := by decide +kernel
theorem d_Plan_findLeastLoss_68 : decode b_Plan_findLeastLoss 68 = .ok (.aload_n 0, 1) := by decide +kernel
theorem d_Plan_findLeastLoss_69 : decode b_Plan_findLeastLoss 69 = .ok (.getfield 38, 3) := by decide +kernel
theorem d_Plan_findLeastLoss_72 : decode b_Plan_findLeastLoss 72 = .ok (.imul, 1) := by decide +kernel
theorem d_Plan_findLeastLoss_73 : decode b_Plan_findLeastLoss 73 = .ok (.iload_n 3, 1) := by decide +kernel
theorem d_Plan_findLeastLoss_74 : decode b_Plan_findLeastLoss 74 = .ok (.iadd, 1) := by decide +kernel
theorem d_Plan_findLeastLoss_75 : decode b_Plan_findLeastLoss 75 = .ok (.aload_n 0, 1) := by decide +kernel
theorem d_Plan_findLeastLoss_76 : decode b_Plan_findLeastLoss 76 = .ok (.getfield 35, 3) := by decide +kernel
theorem d_Plan_findLeastLoss_79 : decode b_Plan_findLeastLoss 79 = .ok (.iload_n 2, 1) := by decide +kernel
theorem d_Plan_findLeastLoss_80 : decode b_Plan_findLeastLoss 80 = .ok (.iconst 1, 1) := by decide +kernel
theorem d_Plan_findLeastLoss_81 : decode b_Plan_findLeastLoss 81 = .ok (.iadd, 1) := by decide +kernel
theorem d_Plan_findLeastLoss_82 : decode b_Plan_findLeastLoss 82 = .ok (.aload_n 0, 1) := by decide +kernel
theorem d_Plan_findLeastLoss_83 : decode b_Plan_findLeastLoss 83 = .ok (.getfield 38, 3) := by decide +kernel
theorem d_Plan_findLeastLoss_86 : decode b_Plan_findLeastLoss 86 = .ok (.imul, 1) := by decide +kernel
theorem d_Plan_findLeastLoss_87 : decode b_Plan_findLeastLoss 87 = .ok (.iload_n 3, 1) := by decide +kernel
theorem d_Plan_findLeastLoss_88 : decode b_Plan_findLeastLoss 88 = .ok (.iadd, 1) := by decide +kernel
theorem d_Plan_findLeastLoss_89 : decode b_Plan_findLeastLoss 89 = .ok (.iaload, 1) := by decide +kernel
theorem d_Plan_findLeastLoss_90 : decode b_Plan_findLeastLoss 90 = .ok (.iastore, 1) := by decide +kernel
theorem d_Plan_findLeastLoss_91 : decode b_Plan_findLeastLoss 91 = .ok (.iinc 3 1, 3) := by decide +kernel
theorem d_Plan_findLeastLoss_94 : decode b_Plan_findLeastLoss 94 = .ok (.goto (-39), 3) := by decide +kernel
theorem d_Plan_findLeastLoss_97 : decode b_Plan_findLeastLoss 97 = .ok (.iconst 0, 1) := by decide +kernel
theorem d_Plan_findLeastLoss_98 : decode b_Plan_findLeastLoss 98 = .ok (.istore_n 3, 1) := by decide +kernel
theorem d_Plan_findLeastLoss_99 : decode b_Plan_findLeastLoss 99 = .ok (.iload_n 3, 1) := by decide +kernel
theorem d_Plan_findLeastLoss_100 : decode b_Plan_findLeastLoss 100 = .ok (.aload_n 0, 1) := by decide +kernel
theorem d_Plan_findLeastLoss_101 : decode b_Plan_findLeastLoss 101 = .ok (.getfield 15, 3) := by decide +kernel
theorem d_Plan_findLeastLoss_104 : decode b_Plan_findLeastLoss 104 = .ok (.if_icmp .ge 15, 3) := by decide +kernel
theorem d_Plan_findLeastLoss_107 : decode b_Plan_findLeastLoss 107 = .ok (.aload_n 0, 1) := by decide +kernel
theorem d_Plan_findLeastLoss_108 : decode b_Plan_findLeastLoss 108 = .ok (.iload_n 2, 1) := by decide +kernel
theorem d_Plan_findLeastLoss_109 : decode b_Plan_findLeastLoss 109 = .ok (.iload_n 3, 1) := by decide +kernel
theorem d_Plan_findLeastLoss_110 : decode b_Plan_findLeastLoss 110 = .ok (.invokevirtual 79, 3) := by decide +kernel
theorem d_Plan_findLeastLoss_113 : decode b_Plan_findLeastLoss 113 = .ok (.iinc 3 1, 3) := by decide +kernel
theorem d_Plan_findLeastLoss_116 : decode b_Plan_findLeastLoss 116 = .ok (.goto (-17), 3) := by decide +kernel
theorem d_Plan_findLeastLoss_119 : decode b_Plan_findLeastLoss 119 = .ok (.iinc 2 (-1), 3) := by decide +kernel
theorem d_Plan_findLeastLoss_122 : decode b_Plan_findLeastLoss 122 = .ok (.goto (-73), 3) := by decide +kernel
theorem d_Plan_findLeastLoss_125 : decode b_Plan_findLeastLoss 125 = .ok (.return_, 1) := by decide +kernel
def f_Plan_findLeastLoss_L2 (h0 : Nat) (x1 : Int32) : Nat → Int32 → Mp → Option (Nat × Int32 × Mp)
  | 0, _, _ => none
  | n + 1, x2, w => (gI w (some h0) 4 8).bind fun v_1 => if v_1 ≤ x2 then (some (0, x2, w)) else ((gR w (some h0) 4 7).bind fun v_2 => (gI w (some h0) 4 8).bind fun v_3 => (gI w (some h0) 4 8).bind fun v_4 => if x2 = (v_4 - (1 : Int32)) then ((sI w v_2 0 ((x1 * v_3) + x2) (0 : Int32)).bind fun w_6 => f_Plan_findLeastLoss_L2 h0 x1 n (x2 + 1) w_6) else ((sI w v_2 0 ((x1 * v_3) + x2) (1000000 : Int32)).bind fun w_5 => f_Plan_findLeastLoss_L2 h0 x1 n (x2 + 1) w_5))
set_option maxHeartbeats 4000000 in
set_option maxRecDepth 100000 in
theorem w_Plan_findLeastLoss_L2 {p : Program} {l : Launch} {e : Env} {R : Room} {s : State} {m : MethodId} {args : Array Value} {below : List Frame} {meth : Method} {c : Code} {Q : State → Prop} {cells slots sz : Nat} {G : Gx} {h0 : Nat} {x1 : Int32} (C0 : CallFix p m c b_Plan_findLeastLoss 4 s args wA R_Plan) (hE : xE G vwCl xaty s) (hR1 : 2 ≤ R.frames) (hR2 : 51 ≤ R.locals) (hR3 : cells ≤ R.cells) (hR4 : slots ≤ R.slots) : ∀ (n : Nat) (x2 : Int32) (w : Mp) (H : Heap) (locs : List Loc) (q : Nat × Int32 × Mp) (ls : Array Slot), xhd G vwCl w H → xS G s H locs → H.size = sz → xL ls 4 [(0, .inr (.inl (some h0))), (1, .inl x1), (2, .inl x2)] → f_Plan_findLeastLoss_L2 h0 x1 n x2 w = some q → (∀ (H : Heap) (locs : List Loc) (ls : Array Slot), xhd G vwCl q.2.2 H → xS G s H locs → H.size = sz → xL ls 4 [(0, .inr (.inl (some h0))), (1, .inl x1), (2, .inl q.2.1)] → W p l e R s m args below meth c H locs cells slots Q (F0 m 45 ls [])) → W p l e R s m args below meth c H locs cells slots Q (F0 m 2 ls []) := by
  intro n
  induction n with
  | zero => intro _ _ _ _ q ls hH hS hz hl h; cases h
  | succ n ih =>
    intro x2 w H locs q ls hH hS hz hl h K
    rw [f_Plan_findLeastLoss_L2] at h
    refine x_iload_n C0 hl 2 d_Plan_findLeastLoss_2 rfl rfl ?_
    refine x_aload_n C0 hl 0 d_Plan_findLeastLoss_3 rfl rfl ?_
    refine x_getI C0 hE hH (ci := 4) rfl i_Plan 8 (by decide) kw_1_54 d_Plan_findLeastLoss_4 h (fun v_1 h => ?_)
    refine x_icmp_ge C0 45 d_Plan_findLeastLoss_7 (by decide) h (fun h => ?_) (fun h => ?_)
    · cases h
      exact K _ _ ls hH hS hz (x_sub hl [0, 1, 2] rfl)
    · refine x_aload_n C0 hl 0 d_Plan_findLeastLoss_10 rfl rfl ?_
      refine x_getR C0 hE hH (ci := 4) rfl i_Plan 7 (by decide) kw_1_53 d_Plan_findLeastLoss_11 h (fun v_2 h => ?_)
      refine x_iload_n C0 hl 1 d_Plan_findLeastLoss_14 rfl rfl ?_
      refine x_aload_n C0 hl 0 d_Plan_findLeastLoss_15 rfl rfl ?_
      refine x_getI C0 hE hH (ci := 4) rfl i_Plan 8 (by decide) kw_1_54 d_Plan_findLeastLoss_16 h (fun v_3 h => ?_)
      refine lv_imul C0.1 C0.2.1 d_Plan_findLeastLoss_19 ?_
      refine x_iload_n C0 hl 2 d_Plan_findLeastLoss_20 rfl rfl ?_
      refine lv_iadd C0.1 C0.2.1 d_Plan_findLeastLoss_21 ?_
      refine x_iload_n C0 hl 2 d_Plan_findLeastLoss_22 rfl rfl ?_
      refine x_aload_n C0 hl 0 d_Plan_findLeastLoss_23 rfl rfl ?_
      refine x_getI C0 hE hH (ci := 4) rfl i_Plan 8 (by decide) kw_1_54 d_Plan_findLeastLoss_24 h (fun v_4 h => ?_)
      refine lv_iconst (v := 1) C0.1 C0.2.1 d_Plan_findLeastLoss_27 (by decide) ?_
      refine lv_isub C0.1 C0.2.1 d_Plan_findLeastLoss_28 ?_
      refine x_icmp_ne C0 36 d_Plan_findLeastLoss_29 (by decide) h (fun h => ?_) (fun h => ?_)
      · refine lv_ldc (v := 1000000) C0.1 C0.2.1 C0.2.2.2.1 (C0.2.2.2.2 _ kw_4_49) d_Plan_findLeastLoss_36 ?_
        refine x_iast C0 hE hH hS (t := 0) rfl d_Plan_findLeastLoss_38 h (fun w_5 H locs hH hS hz9 h => ?_)
        have hz := hz9.trans hz
        refine x_iinc (v := 1) (lv' := [(2, .inl (x2 + 1)), (0, .inr (.inl (some h0))), (1, .inl x1)]) C0 hl 2 d_Plan_findLeastLoss_39 rfl (by decide) (by decide) rfl (fun ls hl => ?_)
        refine x_goto C0 2 d_Plan_findLeastLoss_42 (by decide) ?_
        exact ih _ _ _ _ q ls hH hS hz (x_sub hl [1, 2, 0] rfl) h K
      · refine lv_iconst (v := 0) C0.1 C0.2.1 d_Plan_findLeastLoss_32 (by decide) ?_
        refine x_goto C0 38 d_Plan_findLeastLoss_33 (by decide) ?_
        refine x_iast C0 hE hH hS (t := 0) rfl d_Plan_findLeastLoss_38 h (fun w_6 H locs hH hS hz9 h => ?_)
        have hz := hz9.trans hz
        refine x_iinc (v := 1) (lv' := [(2, .inl (x2 + 1)), (0, .inr (.inl (some h0))), (1, .inl x1)]) C0 hl 2 d_Plan_findLeastLoss_39 rfl (by decide) (by decide) rfl (fun ls hl => ?_)
        refine x_goto C0 2 d_Plan_findLeastLoss_42 (by decide) ?_
        exact ih _ _ _ _ q ls hH hS hz (x_sub hl [1, 2, 0] rfl) h K
def f_Plan_findLeastLoss_L55 (h0 : Nat) (x2 : Int32) : Nat → Int32 → Mp → Option (Nat × Int32 × Mp)
  | 0, _, _ => none
  | n + 1, x3, w => (gI w (some h0) 4 8).bind fun v_8 => if v_8 ≤ x3 then (some (0, x3, w)) else ((gR w (some h0) 4 7).bind fun v_9 => (gI w (some h0) 4 8).bind fun v_10 => (gR w (some h0) 4 7).bind fun v_11 => (gI w (some h0) 4 8).bind fun v_12 => (aI w v_11 0 (((x2 + (1 : Int32)) * v_12) + x3)).bind fun v_13 => (sI w v_9 0 ((x2 * v_10) + x3) v_13).bind fun w_14 => f_Plan_findLeastLoss_L55 h0 x2 n (x3 + 1) w_14)
set_option maxHeartbeats 4000000 in
set_option maxRecDepth 100000 in
theorem w_Plan_findLeastLoss_L55 {p : Program} {l : Launch} {e : Env} {R : Room} {s : State} {m : MethodId} {args : Array Value} {below : List Frame} {meth : Method} {c : Code} {Q : State → Prop} {cells slots sz : Nat} {G : Gx} {h0 : Nat} {x2 : Int32} (C0 : CallFix p m c b_Plan_findLeastLoss 4 s args wA R_Plan) (hE : xE G vwCl xaty s) (hR1 : 2 ≤ R.frames) (hR2 : 51 ≤ R.locals) (hR3 : cells ≤ R.cells) (hR4 : slots ≤ R.slots) : ∀ (n : Nat) (x3 : Int32) (w : Mp) (H : Heap) (locs : List Loc) (q : Nat × Int32 × Mp) (ls : Array Slot), xhd G vwCl w H → xS G s H locs → H.size = sz → xL ls 4 [(0, .inr (.inl (some h0))), (2, .inl x2), (3, .inl x3)] → f_Plan_findLeastLoss_L55 h0 x2 n x3 w = some q → (∀ (H : Heap) (locs : List Loc) (ls : Array Slot), xhd G vwCl q.2.2 H → xS G s H locs → H.size = sz → xL ls 4 [(0, .inr (.inl (some h0))), (2, .inl x2), (3, .inl q.2.1)] → W p l e R s m args below meth c H locs cells slots Q (F0 m 97 ls [])) → W p l e R s m args below meth c H locs cells slots Q (F0 m 55 ls []) := by
  intro n
  induction n with
  | zero => intro _ _ _ _ q ls hH hS hz hl h; cases h
  | succ n ih =>
    intro x3 w H locs q ls hH hS hz hl h K
    rw [f_Plan_findLeastLoss_L55] at h
    refine x_iload_n C0 hl 2 d_Plan_findLeastLoss_55 rfl rfl ?_
    refine x_aload_n C0 hl 0 d_Plan_findLeastLoss_56 rfl rfl ?_
    refine x_getI C0 hE hH (ci := 4) rfl i_Plan 8 (by decide) kw_1_54 d_Plan_findLeastLoss_57 h (fun v_8 h => ?_)
    refine x_icmp_ge C0 97 d_Plan_findLeastLoss_60 (by decide) h (fun h => ?_) (fun h => ?_)
    · cases h
      exact K _ _ ls hH hS hz (x_sub hl [0, 1, 2] rfl)
    · refine x_aload_n C0 hl 0 d_Plan_findLeastLoss_63 rfl rfl ?_
      refine x_getR C0 hE hH (ci := 4) rfl i_Plan 7 (by decide) kw_1_53 d_Plan_findLeastLoss_64 h (fun v_9 h => ?_)
      refine x_iload_n C0 hl 1 d_Plan_findLeastLoss_67 rfl rfl ?_
      refine x_aload_n C0 hl 0 d_Plan_findLeastLoss_68 rfl rfl ?_
      refine x_getI C0 hE hH (ci := 4) rfl i_Plan 8 (by decide) kw_1_54 d_Plan_findLeastLoss_69 h (fun v_10 h => ?_)
      refine lv_imul C0.1 C0.2.1 d_Plan_findLeastLoss_72 ?_
      refine x_iload_n C0 hl 2 d_Plan_findLeastLoss_73 rfl rfl ?_
      refine lv_iadd C0.1 C0.2.1 d_Plan_findLeastLoss_74 ?_
      refine x_aload_n C0 hl 0 d_Plan_findLeastLoss_75 rfl rfl ?_
      refine x_getR C0 hE hH (ci := 4) rfl i_Plan 7 (by decide) kw_1_53 d_Plan_findLeastLoss_76 h (fun v_11 h => ?_)
      refine x_iload_n C0 hl 1 d_Plan_findLeastLoss_79 rfl rfl ?_
      refine lv_iconst (v := 1) C0.1 C0.2.1 d_Plan_findLeastLoss_80 (by decide) ?_
      refine lv_iadd C0.1 C0.2.1 d_Plan_findLeastLoss_81 ?_
      refine x_aload_n C0 hl 0 d_Plan_findLeastLoss_82 rfl rfl ?_
      refine x_getI C0 hE hH (ci := 4) rfl i_Plan 8 (by decide) kw_1_54 d_Plan_findLeastLoss_83 h (fun v_12 h => ?_)
      refine lv_imul C0.1 C0.2.1 d_Plan_findLeastLoss_86 ?_
      refine x_iload_n C0 hl 2 d_Plan_findLeastLoss_87 rfl rfl ?_
      refine lv_iadd C0.1 C0.2.1 d_Plan_findLeastLoss_88 ?_
      refine x_iald C0 hE hH (t := 0) rfl d_Plan_findLeastLoss_89 h (fun v_13 h => ?_)
      refine x_iast C0 hE hH hS (t := 0) rfl d_Plan_findLeastLoss_90 h (fun w_14 H locs hH hS hz9 h => ?_)
      have hz := hz9.trans hz
      refine x_iinc (v := 1) (lv' := [(3, .inl (x3 + 1)), (0, .inr (.inl (some h0))), (2, .inl x2)]) C0 hl 2 d_Plan_findLeastLoss_91 rfl (by decide) (by decide) rfl (fun ls hl => ?_)
      refine x_goto C0 55 d_Plan_findLeastLoss_94 (by decide) ?_
      exact ih _ _ _ _ q ls hH hS hz (x_sub hl [1, 2, 0] rfl) h K
def f_Plan_findLeastLoss_L99 (h0 : Nat) (x2 : Int32) : Nat → Int32 → Mp → Option (Nat × Int32 × Mp)
  | 0, _, _ => none
  | n + 1, x3, w => (gI w (some h0) 4 1).bind fun v_16 => if v_16 ≤ x3 then (some (0, x3, w)) else ((xo w (some h0) 4).bind fun b_18 => (f_Plan_lowerByFace w b_18 x2 x3).bind fun q_17 => f_Plan_findLeastLoss_L99 h0 x2 n (x3 + 1) q_17.2)
set_option maxHeartbeats 4000000 in
set_option maxRecDepth 100000 in
theorem w_Plan_findLeastLoss_L99 {p : Program} {l : Launch} {e : Env} {R : Room} {s : State} {m : MethodId} {args : Array Value} {below : List Frame} {meth : Method} {c : Code} {Q : State → Prop} {cells slots sz : Nat} {G : Gx} {h0 : Nat} {x2 : Int32} (C0 : CallFix p m c b_Plan_findLeastLoss 4 s args wA R_Plan) (hE : xE G vwCl xaty s) (hR1 : 2 ≤ R.frames) (hR2 : 51 ≤ R.locals) (hR3 : cells ≤ R.cells) (hR4 : slots ≤ R.slots) : ∀ (n : Nat) (x3 : Int32) (w : Mp) (H : Heap) (locs : List Loc) (q : Nat × Int32 × Mp) (ls : Array Slot), xhd G vwCl w H → xS G s H locs → H.size = sz → xL ls 4 [(0, .inr (.inl (some h0))), (2, .inl x2), (3, .inl x3)] → f_Plan_findLeastLoss_L99 h0 x2 n x3 w = some q → (∀ (H : Heap) (locs : List Loc) (ls : Array Slot), xhd G vwCl q.2.2 H → xS G s H locs → H.size = sz → xL ls 4 [(0, .inr (.inl (some h0))), (2, .inl x2), (3, .inl q.2.1)] → W p l e R s m args below meth c H locs cells slots Q (F0 m 119 ls [])) → W p l e R s m args below meth c H locs cells slots Q (F0 m 99 ls []) := by
  intro n
  induction n with
  | zero => intro _ _ _ _ q ls hH hS hz hl h; cases h
  | succ n ih =>
    intro x3 w H locs q ls hH hS hz hl h K
    rw [f_Plan_findLeastLoss_L99] at h
    refine x_iload_n C0 hl 2 d_Plan_findLeastLoss_99 rfl rfl ?_
    refine x_aload_n C0 hl 0 d_Plan_findLeastLoss_100 rfl rfl ?_
    refine x_getI C0 hE hH (ci := 4) rfl i_Plan 1 (by decide) kw_1_43 d_Plan_findLeastLoss_101 h (fun v_16 h => ?_)
    refine x_icmp_ge C0 119 d_Plan_findLeastLoss_104 (by decide) h (fun h => ?_) (fun h => ?_)
    · cases h
      exact K _ _ ls hH hS hz (x_sub hl [0, 1, 2] rfl)
    · refine x_aload_n C0 hl 0 d_Plan_findLeastLoss_107 rfl rfl ?_
      refine x_iload_n C0 hl 1 d_Plan_findLeastLoss_108 rfl rfl ?_
      refine x_iload_n C0 hl 2 d_Plan_findLeastLoss_109 rfl rfl ?_
      obtain ⟨b_18, e9, h⟩ := Option.bind_eq_some_iff.mp h
      obtain ⟨e8, fs9, hb9⟩ := xo_inv e9
      obtain ⟨q_17, e9, h⟩ := Option.bind_eq_some_iff.mp h
      refine x_call0 hS (va_runV (As := [.int x2, .int x3]) (rest := []) C0 (c_Plan_lowerByFace l G w _ b_18 x2 x3 q_17 e9) (x_cwV 2 C0 kw_4_50 kw_4_53 kw_1_2 kw_4_52 kw_0_12 (by decide +kernel) (x_rm hR1 hR2 (Nat.le_of_ble_eq_true rfl) (Nat.le_of_ble_eq_true rfl))) (x_preV hE hH hS (ci := 4) rfl hb9) rfl rfl hl.1 (by rw [e8]; rfl) (lv_room (by first | exact Nat.le_of_ble_eq_true rfl | simp only [List.map_cons, List.map_nil, List.sum_cons, List.sum_nil, va_rf_cat, x_catI, x_catL, x_catA] <;> decide)) d_Plan_findLeastLoss_110 (x_le0 hR3 hR4)) (fun H locs hH hS hz9 => ?_)
      have hz := hz9.trans hz
      refine x_iinc (v := 1) (lv' := [(3, .inl (x3 + 1)), (0, .inr (.inl (some h0))), (2, .inl x2)]) C0 hl 2 d_Plan_findLeastLoss_113 rfl (by decide) (by decide) rfl (fun ls hl => ?_)
      refine x_goto C0 99 d_Plan_findLeastLoss_116 (by decide) ?_
      exact ih _ _ _ _ q ls hH hS hz (x_sub hl [1, 2, 0] rfl) h K
def f_Plan_findLeastLoss_L49 (h0 : Nat) : Nat → Int32 → Mp → Option (Nat × Int32 × Mp)
  | 0, _, _ => none
  | n + 1, x2, w => if x2 < 0 then (some (0, x2, w)) else ((f_Plan_findLeastLoss_L55 h0 x2 100000 (0 : Int32) w).bind fun q_15 => (f_Plan_findLeastLoss_L99 h0 x2 100000 (0 : Int32) q_15.2.2).bind fun q_19 => f_Plan_findLeastLoss_L49 h0 n (x2 + (-1)) q_19.2.2)
set_option maxHeartbeats 4000000 in
set_option maxRecDepth 100000 in
theorem w_Plan_findLeastLoss_L49 {p : Program} {l : Launch} {e : Env} {R : Room} {s : State} {m : MethodId} {args : Array Value} {below : List Frame} {meth : Method} {c : Code} {Q : State → Prop} {cells slots sz : Nat} {G : Gx} {h0 : Nat} (C0 : CallFix p m c b_Plan_findLeastLoss 4 s args wA R_Plan) (hE : xE G vwCl xaty s) (hR1 : 2 ≤ R.frames) (hR2 : 51 ≤ R.locals) (hR3 : cells ≤ R.cells) (hR4 : slots ≤ R.slots) : ∀ (n : Nat) (x2 : Int32) (w : Mp) (H : Heap) (locs : List Loc) (q : Nat × Int32 × Mp) (ls : Array Slot), xhd G vwCl w H → xS G s H locs → H.size = sz → xL ls 4 [(0, .inr (.inl (some h0))), (2, .inl x2)] → f_Plan_findLeastLoss_L49 h0 n x2 w = some q → (∀ (H : Heap) (locs : List Loc) (ls : Array Slot), xhd G vwCl q.2.2 H → xS G s H locs → H.size = sz → xL ls 4 [(0, .inr (.inl (some h0))), (2, .inl q.2.1)] → W p l e R s m args below meth c H locs cells slots Q (F0 m 125 ls [])) → W p l e R s m args below meth c H locs cells slots Q (F0 m 49 ls []) := by
  intro n
  induction n with
  | zero => intro _ _ _ _ q ls hH hS hz hl h; cases h
  | succ n ih =>
    intro x2 w H locs q ls hH hS hz hl h K
    rw [f_Plan_findLeastLoss_L49] at h
    refine x_iload_n C0 hl 1 d_Plan_findLeastLoss_49 rfl rfl ?_
    refine x_if_lt C0 125 d_Plan_findLeastLoss_50 (by decide) h (fun h => ?_) (fun h => ?_)
    · cases h
      exact K _ _ ls hH hS hz (x_sub hl [0, 1] rfl)
    · refine lv_iconst (v := 0) C0.1 C0.2.1 d_Plan_findLeastLoss_53 (by decide) ?_
      refine x_istore_n (lv' := [(3, .inl (0 : Int32)), (0, .inr (.inl (some h0))), (2, .inl x2)]) C0 hl d_Plan_findLeastLoss_54 rfl (by decide) rfl (fun ls hl => ?_)
      obtain ⟨q_15, e9, h⟩ := Option.bind_eq_some_iff.mp h
      refine w_Plan_findLeastLoss_L55 C0 hE hR1 hR2 hR3 hR4 100000 _ _ _ _ q_15 ls hH hS hz (x_sub hl [1, 2, 0] rfl) e9 (fun H locs ls hH hS hz hl => ?_)
      refine lv_iconst (v := 0) C0.1 C0.2.1 d_Plan_findLeastLoss_97 (by decide) ?_
      refine x_istore_n (lv' := [(3, .inl (0 : Int32)), (0, .inr (.inl (some h0))), (2, .inl x2)]) C0 hl d_Plan_findLeastLoss_98 rfl (by decide) rfl (fun ls hl => ?_)
      obtain ⟨q_19, e9, h⟩ := Option.bind_eq_some_iff.mp h
      refine w_Plan_findLeastLoss_L99 C0 hE hR1 hR2 hR3 hR4 100000 _ _ _ _ q_19 ls hH hS hz (x_sub hl [1, 2, 0] rfl) e9 (fun H locs ls hH hS hz hl => ?_)
      refine x_iinc (v := -1) (lv' := [(2, .inl (x2 + (-1))), (0, .inr (.inl (some h0))), (3, .inl q_19.2.1)]) C0 hl 1 d_Plan_findLeastLoss_119 rfl (by decide) (by decide) rfl (fun ls hl => ?_)
      refine x_goto C0 49 d_Plan_findLeastLoss_122 (by decide) ?_
      exact ih _ _ _ _ q ls hH hS hz (x_sub hl [1, 0] rfl) h K
def f_Plan_findLeastLoss (w : Mp) (h0 : Nat) (x1 : Int32) : Option (Unit × Mp) := (f_Plan_findLeastLoss_L2 h0 x1 100000 (0 : Int32) w).bind fun q_7 => (f_Plan_findLeastLoss_L49 h0 100000 (x1 - (1 : Int32)) q_7.2.2).bind fun q_20 => some ((), q_20.2.2)
set_option maxHeartbeats 4000000 in
set_option maxRecDepth 100000 in
theorem c_Plan_findLeastLoss (l : Launch) (G : Gx) (w : Mp) (sz : Nat) (h0 : Nat) (x1 : Int32) (res : Unit × Mp) (hf : f_Plan_findLeastLoss w h0 x1 = some res) : Met l y_Plan_findLeastLoss (xws y_Plan_findLeastLoss b_Plan_findLeastLoss 4 none) { frames := 2, cells := 0, slots := 0, locals := 51 } (xPc G vwCl xaty w sz [va_rf (some h0), .int x1]) (xQ G vwCl (none) res.2 sz) (0) (0) (xA G) := by
  refine Met.ofW (cc := b_Plan_findLeastLoss) (maxL := 4) (ret := none) (by decide) rfl ?_
  intro p e s m args below meth c s₁ B hml hv
  obtain ⟨ha, hE, hH, hz⟩ := hv
  have C0 : CallFix p m c b_Plan_findLeastLoss 4 s args wA R_Plan := ⟨B.exec, B.bytes, hml, findClass_of_methodNamed B.named, fun w hw => atoms_spec (ws := xws y_Plan_findLeastLoss b_Plan_findLeastLoss 4 none) B.pre w (List.mem_cons_of_mem _ hw)⟩
  have hr := B.returns
  have hlocks := B.notSynchronized
  obtain ⟨R, hR⟩ : ∃ R, R = (headSpec (xws y_Plan_findLeastLoss b_Plan_findLeastLoss 4 none) { frames := 2, cells := 0, slots := 0, locals := 51 }).room := ⟨_, rfl⟩
  have hR1 : 2 ≤ R.frames := by rw [hR]; exact Nat.le_of_ble_eq_true rfl
  have hR2 : 51 ≤ R.locals := by rw [hR]; exact Nat.le_of_ble_eq_true rfl
  have hR3 : 0 ≤ R.cells := by rw [hR]; exact Nat.le_refl _
  have hR4 : 0 ≤ R.slots := by rw [hR]; exact Nat.le_refl _
  rw [← hR]
  obtain ⟨Q, hQ⟩ : ∃ Q, Q = MQ below (xQ G vwCl (none) res.2 sz) args s (0) (0) (xA G) := ⟨_, rfl⟩
  rw [← hQ]
  have hS : xS G s s.heap [] := va_S.rf
  obtain ⟨ls, he, hl⟩ := x_entry m [.inr (.inl (some h0)), .inl x1] 4 (Nat.le_of_ble_eq_true rfl)
  rw [show entryFrame m args 4 = F0 m 0 ls [] by rw [ha]; exact he]
  have hl : xL ls 4 [(0, .inr (.inl (some h0))), (1, .inl x1)] := hl
  have h := hf
  unfold f_Plan_findLeastLoss at h
  suffices hmain : ∀ (H : Heap) (locs : List Loc), xhd G vwCl w H → xS G s H locs → H.size = sz → (H = s.heap ∧ locs = []) → W p l e R s m args below meth c H locs 0 0 Q (F0 m 0 ls []) from hmain _ _ hH hS hz ⟨rfl, rfl⟩
  clear hH hS hz
  intro H locs hH hS hz hP0
  refine lv_iconst (v := 0) C0.1 C0.2.1 d_Plan_findLeastLoss_0 (by decide) ?_
  refine x_istore_n (lv' := [(2, .inl (0 : Int32)), (0, .inr (.inl (some h0))), (1, .inl x1)]) C0 hl d_Plan_findLeastLoss_1 rfl (by decide) rfl (fun ls hl => ?_)
  obtain ⟨q_7, e9, h⟩ := Option.bind_eq_some_iff.mp h
  refine w_Plan_findLeastLoss_L2 C0 hE hR1 hR2 hR3 hR4 100000 _ _ _ _ q_7 ls hH hS hz (x_sub hl [1, 2, 0] rfl) e9 (fun H locs ls hH hS hz hl => ?_)
  refine x_iload_n C0 hl 1 d_Plan_findLeastLoss_45 rfl rfl ?_
  refine lv_iconst (v := 1) C0.1 C0.2.1 d_Plan_findLeastLoss_46 (by decide) ?_
  refine lv_isub C0.1 C0.2.1 d_Plan_findLeastLoss_47 ?_
  refine x_istore_n (lv' := [(2, .inl (x1 - (1 : Int32))), (0, .inr (.inl (some h0))), (1, .inl x1)]) C0 hl d_Plan_findLeastLoss_48 rfl (by decide) rfl (fun ls hl => ?_)
  obtain ⟨q_20, e9, h⟩ := Option.bind_eq_some_iff.mp h
  refine w_Plan_findLeastLoss_L49 C0 hE hR1 hR2 hR3 hR4 100000 _ _ _ _ q_20 ls hH hS hz (x_sub hl [1, 0] rfl) e9 (fun H locs ls hH hS hz hl => ?_)
  cases h
  rw [hQ]
  exact x_vret C0 hr hlocks hH hS hz d_Plan_findLeastLoss_125
theorem d_Plan_keepPlan_0 : decode b_Plan_keepPlan 0 = .ok (.iconst 0, 1) := by decide +kernel
theorem d_Plan_keepPlan_1 : decode b_Plan_keepPlan 1 = .ok (.istore_n 3, 1) := by decide +kernel
theorem d_Plan_keepPlan_2 : decode b_Plan_keepPlan 2 = .ok (.iconst 0, 1) := by decide +kernel
theorem d_Plan_keepPlan_3 : decode b_Plan_keepPlan 3 = .ok (.istore 4, 2) := by decide +kernel
theorem d_Plan_keepPlan_5 : decode b_Plan_keepPlan 5 = .ok (.iconst 0, 1) := by decide +kernel
theorem d_Plan_keepPlan_6 : decode b_Plan_keepPlan 6 = .ok (.istore 5, 2) := by decide +kernel
theorem d_Plan_keepPlan_8 : decode b_Plan_keepPlan 8 = .ok (.iload 5, 2) := by decide +kernel
theorem d_Plan_keepPlan_10 : decode b_Plan_keepPlan 10 = .ok (.iload_n 2, 1) := by decide +kernel
theorem d_Plan_keepPlan_11 : decode b_Plan_keepPlan 11 = .ok (.if_icmp .ge 83, 3) := by decide +kernel
theorem d_Plan_keepPlan_14 : decode b_Plan_keepPlan 14 = .ok (.iload 5, 2) := by decide +kernel
theorem d_Plan_keepPlan_16 : decode b_Plan_keepPlan 16 = .ok (.iload 4, 2) := by decide +kernel
theorem d_Plan_keepPlan_18 : decode b_Plan_keepPlan 18 = .ok (.if_icmp .ge 7, 3) := by decide +kernel
theorem d_Plan_keepPlan_21 : decode b_Plan_keepPlan 21 = .ok (.iconst (-1), 1) := by decide +kernel
theorem d_Plan_keepPlan_22 : decode b_Plan_keepPlan 22 = .ok (.goto 10, 3) := by decide +kernel
theorem d_Plan_keepPlan_25 : decode b_Plan_keepPlan 25 = .ok (.aload_n 0, 1) := by decide +kernel
theorem d_Plan_keepPlan_26 : decode b_Plan_keepPlan 26 = .ok (.iload 5, 2) := by decide +kernel
theorem d_Plan_keepPlan_28 : decode b_Plan_keepPlan 28 = .ok (.iload_n 3, 1) := by decide +kernel
theorem d_Plan_keepPlan_29 : decode b_Plan_keepPlan 29 = .ok (.invokevirtual 86, 3) := by decide +kernel
theorem d_Plan_keepPlan_32 : decode b_Plan_keepPlan 32 = .ok (.istore 6, 2) := by decide +kernel
theorem d_Plan_keepPlan_34 : decode b_Plan_keepPlan 34 = .ok (.iload 6, 2) := by decide +kernel
theorem d_Plan_keepPlan_36 : decode b_Plan_keepPlan 36 = .ok (.iconst (-1), 1) := by decide +kernel
theorem d_Plan_keepPlan_37 : decode b_Plan_keepPlan 37 = .ok (.if_icmp .eq 51, 3) := by decide +kernel
theorem d_Plan_keepPlan_40 : decode b_Plan_keepPlan 40 = .ok (.aload_n 0, 1) := by decide +kernel
theorem d_Plan_keepPlan_41 : decode b_Plan_keepPlan 41 = .ok (.getfield 29, 3) := by decide +kernel
theorem d_Plan_keepPlan_44 : decode b_Plan_keepPlan 44 = .ok (.iload 5, 2) := by decide +kernel
theorem d_Plan_keepPlan_46 : decode b_Plan_keepPlan 46 = .ok (.bipush 8, 2) := by decide +kernel
theorem d_Plan_keepPlan_48 : decode b_Plan_keepPlan 48 = .ok (.imul, 1) := by decide +kernel
theorem d_Plan_keepPlan_49 : decode b_Plan_keepPlan 49 = .ok (.iload 6, 2) := by decide +kernel
theorem d_Plan_keepPlan_51 : decode b_Plan_keepPlan 51 = .ok (.iadd, 1) := by decide +kernel
theorem d_Plan_keepPlan_52 : decode b_Plan_keepPlan 52 = .ok (.iaload, 1) := by decide +kernel
theorem d_Plan_keepPlan_53 : decode b_Plan_keepPlan 53 = .ok (.istore 4, 2) := by decide +kernel
theorem d_Plan_keepPlan_55 : decode b_Plan_keepPlan 55 = .ok (.aload_n 0, 1) := by decide +kernel
theorem d_Plan_keepPlan_56 : decode b_Plan_keepPlan 56 = .ok (.getfield 23, 3) := by decide +kernel
theorem d_Plan_keepPlan_59 : decode b_Plan_keepPlan 59 = .ok (.iload 6, 2) := by decide +kernel
theorem d_Plan_keepPlan_61 : decode b_Plan_keepPlan 61 = .ok (.aload_n 1, 1) := by decide +kernel
theorem d_Plan_keepPlan_62 : decode b_Plan_keepPlan 62 = .ok (.iload 5, 2) := by decide +kernel
theorem d_Plan_keepPlan_64 : decode b_Plan_keepPlan 64 = .ok (.aaload, 1) := by decide +kernel
theorem d_Plan_keepPlan_65 : decode b_Plan_keepPlan 65 = .ok (.getfield 89, 3) := by decide +kernel
theorem d_Plan_keepPlan_68 : decode b_Plan_keepPlan 68 = .ok (.iastore, 1) := by decide +kernel
theorem d_Plan_keepPlan_69 : decode b_Plan_keepPlan 69 = .ok (.aload_n 0, 1) := by decide +kernel
theorem d_Plan_keepPlan_70 : decode b_Plan_keepPlan 70 = .ok (.getfield 26, 3) := by decide +kernel
theorem d_Plan_keepPlan_73 : decode b_Plan_keepPlan 73 = .ok (.iload 6, 2) := by decide +kernel
theorem d_Plan_keepPlan_75 : decode b_Plan_keepPlan 75 = .ok (.iload 4, 2) := by decide +kernel
theorem d_Plan_keepPlan_77 : decode b_Plan_keepPlan 77 = .ok (.iload 5, 2) := by decide +kernel
theorem d_Plan_keepPlan_79 : decode b_Plan_keepPlan 79 = .ok (.isub, 1) := by decide +kernel
theorem d_Plan_keepPlan_80 : decode b_Plan_keepPlan 80 = .ok (.iastore, 1) := by decide +kernel
theorem d_Plan_keepPlan_81 : decode b_Plan_keepPlan 81 = .ok (.iload_n 3, 1) := by decide +kernel
theorem d_Plan_keepPlan_82 : decode b_Plan_keepPlan 82 = .ok (.iconst 1, 1) := by decide +kernel
theorem d_Plan_keepPlan_83 : decode b_Plan_keepPlan 83 = .ok (.iload 6, 2) := by decide +kernel
theorem d_Plan_keepPlan_85 : decode b_Plan_keepPlan 85 = .ok (.ishl, 1) := by decide +kernel
theorem d_Plan_keepPlan_86 : decode b_Plan_keepPlan 86 = .ok (.ior, 1) := by decide +kernel
theorem d_Plan_keepPlan_87 : decode b_Plan_keepPlan 87 = .ok (.istore_n 3, 1) := by decide +kernel
theorem d_Plan_keepPlan_88 : decode b_Plan_keepPlan 88 = .ok (.iinc 5 1, 3) := by decide +kernel
theorem d_Plan_keepPlan_91 : decode b_Plan_keepPlan 91 = .ok (.goto (-83), 3) := by decide +kernel
theorem d_Plan_keepPlan_94 : decode b_Plan_keepPlan 94 = .ok (.return_, 1) := by decide +kernel
def f_Plan_keepPlan_L8 (h0 : Nat) (r1 : Option Nat) (x2 : Int32) : Nat → Int32 → Int32 → Int32 → Mp → Option (Nat × Int32 × Int32 × Int32 × Mp)
  | 0, _, _, _, _ => none
  | n + 1, x3, x4, x5, w => if x2 ≤ x5 then (some (0, x3, x4, x5, w)) else (xJ1 (fun (x_1 : Int32) => if x_1 = (-1 : Int32) then (f_Plan_keepPlan_L8 h0 r1 x2 n x3 x4 (x5 + 1) w) else ((gR w (some h0) 4 5).bind fun v_3 => (aI w v_3 0 ((x5 * (8 : Int32)) + x_1)).bind fun v_4 => (gR w (some h0) 4 3).bind fun v_5 => (aR w r1 1 x5).bind fun v_6 => (gI w v_6 1 0).bind fun v_7 => (sI w v_5 0 x_1 v_7).bind fun w_8 => (gR w_8 (some h0) 4 4).bind fun v_9 => (sI w_8 v_9 0 x_1 (v_4 - x5)).bind fun w_10 => f_Plan_keepPlan_L8 h0 r1 x2 n (x3 ||| ((1 : Int32) <<< (x_1 &&& 31))) v_4 (x5 + 1) w_10)) fun J_2 => if x4 ≤ x5 then ((xo w (some h0) 4).bind fun b_12 => (f_Plan_faceBegunAt w b_12 x5 x3).bind fun q_11 => J_2 q_11) else (J_2 (-1 : Int32)))
set_option maxHeartbeats 4000000 in
set_option maxRecDepth 100000 in
theorem w_Plan_keepPlan_L8 {p : Program} {l : Launch} {e : Env} {R : Room} {s : State} {m : MethodId} {args : Array Value} {below : List Frame} {meth : Method} {c : Code} {Q : State → Prop} {cells slots sz : Nat} {G : Gx} {h0 : Nat} {r1 : Option Nat} {x2 : Int32} (C0 : CallFix p m c b_Plan_keepPlan 7 s args wA R_Plan) (hE : xE G vwCl xaty s) (hR1 : 1 ≤ R.frames) (hR2 : 26 ≤ R.locals) (hR3 : cells ≤ R.cells) (hR4 : slots ≤ R.slots) : ∀ (n : Nat) (x3 : Int32) (x4 : Int32) (x5 : Int32) (w : Mp) (H : Heap) (locs : List Loc) (q : Nat × Int32 × Int32 × Int32 × Mp) (ls : Array Slot), xhd G vwCl w H → xS G s H locs → H.size = sz → xL ls 7 [(0, .inr (.inl (some h0))), (1, .inr (.inl r1)), (2, .inl x2), (3, .inl x3), (4, .inl x4), (5, .inl x5)] → f_Plan_keepPlan_L8 h0 r1 x2 n x3 x4 x5 w = some q → (∀ (H : Heap) (locs : List Loc) (ls : Array Slot), xhd G vwCl q.2.2.2.2 H → xS G s H locs → H.size = sz → xL ls 7 [(0, .inr (.inl (some h0))), (1, .inr (.inl r1)), (2, .inl x2), (3, .inl q.2.1), (4, .inl q.2.2.1), (5, .inl q.2.2.2.1)] → W p l e R s m args below meth c H locs cells slots Q (F0 m 94 ls [])) → W p l e R s m args below meth c H locs cells slots Q (F0 m 8 ls []) := by
  intro n
  induction n with
  | zero => intro _ _ _ _ _ _ q ls hH hS hz hl h; cases h
  | succ n ih =>
    intro x3 x4 x5 w H locs q ls hH hS hz hl h K
    rw [f_Plan_keepPlan_L8] at h
    refine x_iload C0 hl 5 d_Plan_keepPlan_8 rfl ?_
    refine x_iload_n C0 hl 2 d_Plan_keepPlan_10 rfl rfl ?_
    refine x_icmp_ge C0 94 d_Plan_keepPlan_11 (by decide) h (fun h => ?_) (fun h => ?_)
    · cases h
      exact K _ _ ls hH hS hz (x_sub hl [0, 1, 2, 3, 4, 5] rfl)
    · refine x_iload C0 hl 5 d_Plan_keepPlan_14 rfl ?_
      refine x_iload C0 hl 4 d_Plan_keepPlan_16 rfl ?_
      refine xj1 h (fun J_2 eJ_2 h => ?_)
      have kJ_2 : ∀ (x_1 : Int32) (ls : Array Slot), xL ls 7 [(0, .inr (.inl (some h0))), (1, .inr (.inl r1)), (2, .inl x2), (3, .inl x3), (4, .inl x4), (5, .inl x5)] → J_2 x_1 = some q → W p l e R s m args below meth c H locs cells slots Q (F0 m 32 ls [.int x_1]) := by
        intro x_1 ls hl h
        rw [eJ_2] at h
        refine x_istore (lv' := [(6, .inl x_1), (0, .inr (.inl (some h0))), (1, .inr (.inl r1)), (2, .inl x2), (3, .inl x3), (4, .inl x4), (5, .inl x5)]) C0 hl d_Plan_keepPlan_32 (by decide) rfl (fun ls hl => ?_)
        refine x_iload C0 hl 0 d_Plan_keepPlan_34 rfl ?_
        refine lv_iconst (v := -1) C0.1 C0.2.1 d_Plan_keepPlan_36 (by decide) ?_
        refine x_icmp_eq C0 88 d_Plan_keepPlan_37 (by decide) h (fun h => ?_) (fun h => ?_)
        · refine x_iinc (v := 1) (lv' := [(5, .inl (x5 + 1)), (6, .inl x_1), (0, .inr (.inl (some h0))), (1, .inr (.inl r1)), (2, .inl x2), (3, .inl x3), (4, .inl x4)]) C0 hl 6 d_Plan_keepPlan_88 rfl (by decide) (by decide) rfl (fun ls hl => ?_)
          refine x_goto C0 8 d_Plan_keepPlan_91 (by decide) ?_
          exact ih _ _ _ _ _ _ q ls hH hS hz (x_sub hl [2, 3, 4, 5, 6, 0] rfl) h K
        · refine x_aload_n C0 hl 1 d_Plan_keepPlan_40 rfl rfl ?_
          refine x_getR C0 hE hH (ci := 4) rfl i_Plan 5 (by decide) kw_1_51 d_Plan_keepPlan_41 h (fun v_3 h => ?_)
          refine x_iload C0 hl 6 d_Plan_keepPlan_44 rfl ?_
          refine lv_bipush (v := 8) C0.1 C0.2.1 d_Plan_keepPlan_46 (by decide) ?_
          refine lv_imul C0.1 C0.2.1 d_Plan_keepPlan_48 ?_
          refine x_iload C0 hl 0 d_Plan_keepPlan_49 rfl ?_
          refine lv_iadd C0.1 C0.2.1 d_Plan_keepPlan_51 ?_
          refine x_iald C0 hE hH (t := 0) rfl d_Plan_keepPlan_52 h (fun v_4 h => ?_)
          refine x_istore (lv' := [(4, .inl v_4), (6, .inl x_1), (0, .inr (.inl (some h0))), (1, .inr (.inl r1)), (2, .inl x2), (3, .inl x3), (5, .inl x5)]) C0 hl d_Plan_keepPlan_53 (by decide) rfl (fun ls hl => ?_)
          refine x_aload_n C0 hl 2 d_Plan_keepPlan_55 rfl rfl ?_
          refine x_getR C0 hE hH (ci := 4) rfl i_Plan 3 (by decide) kw_1_47 d_Plan_keepPlan_56 h (fun v_5 h => ?_)
          refine x_iload C0 hl 1 d_Plan_keepPlan_59 rfl ?_
          refine x_aload_n C0 hl 3 d_Plan_keepPlan_61 rfl rfl ?_
          refine x_iload C0 hl 6 d_Plan_keepPlan_62 rfl ?_
          refine x_aald C0 hE hH (t := 1) rfl d_Plan_keepPlan_64 h (fun v_6 h => ?_)
          refine x_getI C0 hE hH (ci := 1) rfl i_Leaf 0 (by decide) kw_1_211 d_Plan_keepPlan_65 h (fun v_7 h => ?_)
          refine x_iast C0 hE hH hS (t := 0) rfl d_Plan_keepPlan_68 h (fun w_8 H locs hH hS hz9 h => ?_)
          have hz := hz9.trans hz
          refine x_aload_n C0 hl 2 d_Plan_keepPlan_69 rfl rfl ?_
          refine x_getR C0 hE hH (ci := 4) rfl i_Plan 4 (by decide) kw_1_49 d_Plan_keepPlan_70 h (fun v_9 h => ?_)
          refine x_iload C0 hl 1 d_Plan_keepPlan_73 rfl ?_
          refine x_iload C0 hl 0 d_Plan_keepPlan_75 rfl ?_
          refine x_iload C0 hl 6 d_Plan_keepPlan_77 rfl ?_
          refine lv_isub C0.1 C0.2.1 d_Plan_keepPlan_79 ?_
          refine x_iast C0 hE hH hS (t := 0) rfl d_Plan_keepPlan_80 h (fun w_10 H locs hH hS hz9 h => ?_)
          have hz := hz9.trans hz
          refine x_iload_n C0 hl 5 d_Plan_keepPlan_81 rfl rfl ?_
          refine lv_iconst (v := 1) C0.1 C0.2.1 d_Plan_keepPlan_82 (by decide) ?_
          refine x_iload C0 hl 1 d_Plan_keepPlan_83 rfl ?_
          refine lv_ishl C0.1 C0.2.1 d_Plan_keepPlan_85 ?_
          refine lv_ior C0.1 C0.2.1 d_Plan_keepPlan_86 ?_
          refine x_istore_n (lv' := [(3, .inl (x3 ||| ((1 : Int32) <<< (x_1 &&& 31)))), (4, .inl v_4), (6, .inl x_1), (0, .inr (.inl (some h0))), (1, .inr (.inl r1)), (2, .inl x2), (5, .inl x5)]) C0 hl d_Plan_keepPlan_87 rfl (by decide) rfl (fun ls hl => ?_)
          refine x_iinc (v := 1) (lv' := [(5, .inl (x5 + 1)), (3, .inl (x3 ||| ((1 : Int32) <<< (x_1 &&& 31)))), (4, .inl v_4), (6, .inl x_1), (0, .inr (.inl (some h0))), (1, .inr (.inl r1)), (2, .inl x2)]) C0 hl 6 d_Plan_keepPlan_88 rfl (by decide) (by decide) rfl (fun ls hl => ?_)
          refine x_goto C0 8 d_Plan_keepPlan_91 (by decide) ?_
          exact ih _ _ _ _ _ _ q ls hH hS hz (x_sub hl [4, 5, 6, 1, 2, 0] rfl) h K
      refine x_icmp_ge C0 25 d_Plan_keepPlan_18 (by decide) h (fun h => ?_) (fun h => ?_)
      · refine x_aload_n C0 hl 0 d_Plan_keepPlan_25 rfl rfl ?_
        refine x_iload C0 hl 5 d_Plan_keepPlan_26 rfl ?_
        refine x_iload_n C0 hl 3 d_Plan_keepPlan_28 rfl rfl ?_
        obtain ⟨b_12, e9, h⟩ := Option.bind_eq_some_iff.mp h
        obtain ⟨e8, fs9, hb9⟩ := xo_inv e9
        obtain ⟨q_11, e9, h⟩ := Option.bind_eq_some_iff.mp h
        refine x_callP (va_runV (As := [.int x5, .int x3]) (rest := []) C0 (c_Plan_faceBegunAt l G w _ b_12 x5 x3 q_11 e9) (x_cwV 2 C0 kw_4_59 kw_4_62 kw_1_2 kw_4_61 kw_0_14 (by decide +kernel) (x_rm hR1 hR2 (Nat.le_of_ble_eq_true rfl) (Nat.le_of_ble_eq_true rfl))) (x_preV hE hH hS (ci := 4) rfl hb9) rfl rfl hl.1 (by rw [e8]; rfl) (lv_room (by first | exact Nat.le_of_ble_eq_true rfl | simp only [List.map_cons, List.map_nil, List.sum_cons, List.sum_nil, va_rf_cat, x_catI, x_catL, x_catA] <;> decide)) d_Plan_keepPlan_29 (x_le0 hR3 hR4)) ?_
        exact kJ_2 _ ls (x_sub hl [0, 1, 2, 3, 4, 5] rfl) h
      · refine lv_iconst (v := -1) C0.1 C0.2.1 d_Plan_keepPlan_21 (by decide) ?_
        refine x_goto C0 32 d_Plan_keepPlan_22 (by decide) ?_
        exact kJ_2 _ ls (x_sub hl [0, 1, 2, 3, 4, 5] rfl) h
def f_Plan_keepPlan (w : Mp) (h0 : Nat) (r1 : Option Nat) (x2 : Int32) : Option (Unit × Mp) := (f_Plan_keepPlan_L8 h0 r1 x2 100000 (0 : Int32) (0 : Int32) (0 : Int32) w).bind fun q_13 => some ((), q_13.2.2.2.2)
set_option maxHeartbeats 4000000 in
set_option maxRecDepth 100000 in
theorem c_Plan_keepPlan (l : Launch) (G : Gx) (w : Mp) (sz : Nat) (h0 : Nat) (r1 : Option Nat) (x2 : Int32) (res : Unit × Mp) (hf : f_Plan_keepPlan w h0 r1 x2 = some res) : Met l y_Plan_keepPlan (xws y_Plan_keepPlan b_Plan_keepPlan 7 none) { frames := 1, cells := 0, slots := 0, locals := 26 } (xPc G vwCl xaty w sz [va_rf (some h0), va_rf r1, .int x2]) (xQ G vwCl (none) res.2 sz) (0) (0) (xA G) := by
  refine Met.ofW (cc := b_Plan_keepPlan) (maxL := 7) (ret := none) (by decide) rfl ?_
  intro p e s m args below meth c s₁ B hml hv
  obtain ⟨ha, hE, hH, hz⟩ := hv
  have C0 : CallFix p m c b_Plan_keepPlan 7 s args wA R_Plan := ⟨B.exec, B.bytes, hml, findClass_of_methodNamed B.named, fun w hw => atoms_spec (ws := xws y_Plan_keepPlan b_Plan_keepPlan 7 none) B.pre w (List.mem_cons_of_mem _ hw)⟩
  have hr := B.returns
  have hlocks := B.notSynchronized
  obtain ⟨R, hR⟩ : ∃ R, R = (headSpec (xws y_Plan_keepPlan b_Plan_keepPlan 7 none) { frames := 1, cells := 0, slots := 0, locals := 26 }).room := ⟨_, rfl⟩
  have hR1 : 1 ≤ R.frames := by rw [hR]; exact Nat.le_of_ble_eq_true rfl
  have hR2 : 26 ≤ R.locals := by rw [hR]; exact Nat.le_of_ble_eq_true rfl
  have hR3 : 0 ≤ R.cells := by rw [hR]; exact Nat.le_refl _
  have hR4 : 0 ≤ R.slots := by rw [hR]; exact Nat.le_refl _
  rw [← hR]
  obtain ⟨Q, hQ⟩ : ∃ Q, Q = MQ below (xQ G vwCl (none) res.2 sz) args s (0) (0) (xA G) := ⟨_, rfl⟩
  rw [← hQ]
  have hS : xS G s s.heap [] := va_S.rf
  obtain ⟨ls, he, hl⟩ := x_entry m [.inr (.inl (some h0)), .inr (.inl r1), .inl x2] 7 (Nat.le_of_ble_eq_true rfl)
  rw [show entryFrame m args 7 = F0 m 0 ls [] by rw [ha]; exact he]
  have hl : xL ls 7 [(0, .inr (.inl (some h0))), (1, .inr (.inl r1)), (2, .inl x2)] := hl
  have h := hf
  unfold f_Plan_keepPlan at h
  suffices hmain : ∀ (H : Heap) (locs : List Loc), xhd G vwCl w H → xS G s H locs → H.size = sz → (H = s.heap ∧ locs = []) → W p l e R s m args below meth c H locs 0 0 Q (F0 m 0 ls []) from hmain _ _ hH hS hz ⟨rfl, rfl⟩
  clear hH hS hz
  intro H locs hH hS hz hP0
  refine lv_iconst (v := 0) C0.1 C0.2.1 d_Plan_keepPlan_0 (by decide) ?_
  refine x_istore_n (lv' := [(3, .inl (0 : Int32)), (0, .inr (.inl (some h0))), (1, .inr (.inl r1)), (2, .inl x2)]) C0 hl d_Plan_keepPlan_1 rfl (by decide) rfl (fun ls hl => ?_)
  refine lv_iconst (v := 0) C0.1 C0.2.1 d_Plan_keepPlan_2 (by decide) ?_
  refine x_istore (lv' := [(4, .inl (0 : Int32)), (3, .inl (0 : Int32)), (0, .inr (.inl (some h0))), (1, .inr (.inl r1)), (2, .inl x2)]) C0 hl d_Plan_keepPlan_3 (by decide) rfl (fun ls hl => ?_)
  refine lv_iconst (v := 0) C0.1 C0.2.1 d_Plan_keepPlan_5 (by decide) ?_
  refine x_istore (lv' := [(5, .inl (0 : Int32)), (4, .inl (0 : Int32)), (3, .inl (0 : Int32)), (0, .inr (.inl (some h0))), (1, .inr (.inl r1)), (2, .inl x2)]) C0 hl d_Plan_keepPlan_6 (by decide) rfl (fun ls hl => ?_)
  obtain ⟨q_13, e9, h⟩ := Option.bind_eq_some_iff.mp h
  refine w_Plan_keepPlan_L8 C0 hE hR1 hR2 hR3 hR4 100000 _ _ _ _ _ _ q_13 ls hH hS hz (x_sub hl [3, 4, 5, 2, 1, 0] rfl) e9 (fun H locs ls hH hS hz hl => ?_)
  cases h
  rw [hQ]
  exact x_vret C0 hr hlocks hH hS hz d_Plan_keepPlan_94
