theorem kw_0_4 : (Jvm.Cond.selects "LeafMatches" ({ cls := "LeafMatches", name := "countFree", desc := "(I)I" } : Jvm.MethodName) ({ cls := "LeafMatches", name := "countFree", desc := "(I)I" } : Jvm.MethodName)) ∈ wA := ku_0 4 rfl rfl
theorem kw_1_1 : (Jvm.Cond.initialized "LeafMatches") ∈ wA := ku_1 1 rfl rfl
theorem kw_1_75 : (Jvm.Cond.fieldLink "LeafMatches" (11 : Nat) "LeafMatches" "leaves" "[LLeafMatches$Leaf;") ∈ wA := ku_1 75 rfl rfl
theorem kw_1_76 : (Jvm.Cond.fieldLink "LeafMatches" (15 : Nat) "LeafMatches" "leafCount" "I") ∈ wA := ku_1 76 rfl rfl
theorem kw_1_77 : (Jvm.Cond.fieldLink "LeafMatches" (21 : Nat) "LeafMatches" "madeFaces" "[LLeafMatches$Face;") ∈ wA := ku_1 77 rfl rfl
theorem kw_1_78 : (Jvm.Cond.fieldLink "LeafMatches" (25 : Nat) "LeafMatches" "faceCount" "I") ∈ wA := ku_1 78 rfl rfl
theorem kw_1_80 : (Jvm.Cond.fieldLink "LeafMatches" (35 : Nat) "LeafMatches" "free" "[LLeafMatches$Leaf;") ∈ wA := ku_1 80 rfl rfl
theorem kw_1_184 : (Jvm.Cond.methodLink "LeafMatches" (51 : Nat) ({ cls := "LeafMatches", name := "isWithin", desc := "(III)Z" } : Jvm.MethodName)) ∈ wA := ku_1 184 rfl rfl
theorem kw_1_185 : (Jvm.Cond.static ({ cls := "LeafMatches", name := "isWithin", desc := "(III)Z" } : Jvm.MethodName)) ∈ wA := ku_1 185 rfl rfl
theorem kw_1_186 : (Jvm.Cond.code ({ cls := "LeafMatches", name := "isWithin", desc := "(III)Z" } : Jvm.MethodName) prog_1_method_19_code (3 : Nat) (Option.some Jvm.ClassFile.FieldType.boolean)) ∈ wA := ku_1 186 rfl rfl
theorem kw_1_213 : (Jvm.Cond.fieldLink "LeafMatches" (252 : Nat) "LeafMatches$Leaf" "flitch" "I") ∈ wA := ku_1 213 rfl rfl
theorem kw_1_215 : (Jvm.Cond.fieldLink "LeafMatches" (255 : Nat) "LeafMatches$Leaf" "number" "I") ∈ wA := ku_1 215 rfl rfl
theorem kw_2_69 : (Jvm.Cond.methodLink "LeafMatches" (261 : Nat) ({ cls := "LeafMatches", name := "countFree", desc := "(I)I" } : Jvm.MethodName)) ∈ wA := ku_2 69 rfl rfl
theorem kw_2_71 : (Jvm.Cond.instanceMethod ({ cls := "LeafMatches", name := "countFree", desc := "(I)I" } : Jvm.MethodName)) ∈ wA := ku_2 71 rfl rfl
theorem kw_2_72 : (Jvm.Cond.code ({ cls := "LeafMatches", name := "countFree", desc := "(I)I" } : Jvm.MethodName) prog_1_method_23_code (4 : Nat) (Option.some Jvm.ClassFile.FieldType.int)) ∈ wA := ku_2 72 rfl rfl
theorem kw_2_73 : (Jvm.Cond.methodLink "LeafMatches" (258 : Nat) ({ cls := "LeafMatches$Leaf", name := "isFree", desc := "()Z" } : Jvm.MethodName)) ∈ wA := ku_2 73 rfl rfl
theorem kw_2_74 : (Jvm.Cond.instanceMethod ({ cls := "LeafMatches$Leaf", name := "isFree", desc := "()Z" } : Jvm.MethodName)) ∈ wA := ku_2 74 rfl rfl
theorem kw_2_75 : (Jvm.Cond.selects "LeafMatches$Leaf" ({ cls := "LeafMatches$Leaf", name := "isFree", desc := "()Z" } : Jvm.MethodName) ({ cls := "LeafMatches$Leaf", name := "isFree", desc := "()Z" } : Jvm.MethodName)) ∈ wA := ku_2 75 rfl rfl
theorem kw_2_76 : (Jvm.Cond.code ({ cls := "LeafMatches$Leaf", name := "isFree", desc := "()Z" } : Jvm.MethodName) prog_3_method_2_code (1 : Nat) (Option.some Jvm.ClassFile.FieldType.boolean)) ∈ wA := ku_2 76 rfl rfl
theorem kw_2_88 : (Jvm.Cond.methodLink "LeafMatches" (264 : Nat) ({ cls := "LeafMatches$Leaf", name := "follows", desc := "(LLeafMatches$Leaf;)Z" } : Jvm.MethodName)) ∈ wA := ku_2 88 rfl rfl
theorem kw_2_89 : (Jvm.Cond.instanceMethod ({ cls := "LeafMatches$Leaf", name := "follows", desc := "(LLeafMatches$Leaf;)Z" } : Jvm.MethodName)) ∈ wA := ku_2 89 rfl rfl
theorem kw_2_90 : (Jvm.Cond.selects "LeafMatches$Leaf" ({ cls := "LeafMatches$Leaf", name := "follows", desc := "(LLeafMatches$Leaf;)Z" } : Jvm.MethodName) ({ cls := "LeafMatches$Leaf", name := "follows", desc := "(LLeafMatches$Leaf;)Z" } : Jvm.MethodName)) ∈ wA := ku_2 90 rfl rfl
theorem kw_2_91 : (Jvm.Cond.code ({ cls := "LeafMatches$Leaf", name := "follows", desc := "(LLeafMatches$Leaf;)Z" } : Jvm.MethodName) prog_3_method_3_code (2 : Nat) (Option.some Jvm.ClassFile.FieldType.boolean)) ∈ wA := ku_2 91 rfl rfl
theorem d_LM_isWithin_0 : decode b_LM_isWithin 0 = .ok (.iload_n 0, 1) := by decide +kernel
theorem d_LM_isWithin_1 : decode b_LM_isWithin 1 = .ok (.iload_n 1, 1) := by decide +kernel
theorem d_LM_isWithin_2 : decode b_LM_isWithin 2 = .ok (.if_icmp .lt 12, 3) := by decide +kernel
theorem d_LM_isWithin_5 : decode b_LM_isWithin 5 = .ok (.iload_n 0, 1) := by decide +kernel
theorem d_LM_isWithin_6 : decode b_LM_isWithin 6 = .ok (.iload_n 2, 1) := by decide +kernel
theorem d_LM_isWithin_7 : decode b_LM_isWithin 7 = .ok (.if_icmp .gt 7, 3) := by decide +kernel
theorem d_LM_isWithin_10 : decode b_LM_isWithin 10 = .ok (.iconst 1, 1) := by decide +kernel
theorem d_LM_isWithin_11 : decode b_LM_isWithin 11 = .ok (.goto 4, 3) := by decide +kernel
theorem d_LM_isWithin_14 : decode b_LM_isWithin 14 = .ok (.iconst 0, 1) := by decide +kernel
theorem d_LM_isWithin_15 : decode b_LM_isWithin 15 = .ok (.ireturn, 1) := by decide +kernel
def f_LM_isWithin (w : Mp) (x0 : Int32) (x1 : Int32) (x2 : Int32) : Option (Int32) := if x0 < x1 then (some (0 : Int32)) else (if x2 < x0 then (some (0 : Int32)) else (some (1 : Int32)))
set_option maxHeartbeats 4000000 in
set_option maxRecDepth 100000 in
theorem c_LM_isWithin (l : Launch) (G : Gx) (w : Mp) (sz : Nat) (x0 : Int32) (x1 : Int32) (x2 : Int32) (res : Int32) (hf : f_LM_isWithin w x0 x1 x2 = some res) : Met l y_LM_isWithin (xws y_LM_isWithin b_LM_isWithin 3 (some .boolean)) { frames := 0, cells := 0, slots := 0, locals := 0 } (xPc G vwCl xaty w sz [.int x0, .int x1, .int x2]) (qP (some (.int res))) (0) (0) (fun _ => False) := by
  refine Met.ofW (cc := b_LM_isWithin) (maxL := 3) (ret := (some .boolean)) (by decide) rfl ?_
  intro p e s m args below meth c s₁ B hml hv
  obtain ⟨ha, hE, hH, hz⟩ := hv
  have C0 : CallFix p m c b_LM_isWithin 3 s args wA R_LM := ⟨B.exec, B.bytes, hml, findClass_of_methodNamed B.named, fun w hw => atoms_spec (ws := xws y_LM_isWithin b_LM_isWithin 3 (some .boolean)) B.pre w (List.mem_cons_of_mem _ hw)⟩
  have hr := B.returns
  have hlocks := B.notSynchronized
  obtain ⟨R, hR⟩ : ∃ R, R = (headSpec (xws y_LM_isWithin b_LM_isWithin 3 (some .boolean)) { frames := 0, cells := 0, slots := 0, locals := 0 }).room := ⟨_, rfl⟩
  have hR1 : 0 ≤ R.frames := by rw [hR]; exact Nat.le_of_ble_eq_true rfl
  have hR2 : 0 ≤ R.locals := by rw [hR]; exact Nat.le_of_ble_eq_true rfl
  have hR3 : 0 ≤ R.cells := by rw [hR]; exact Nat.le_refl _
  have hR4 : 0 ≤ R.slots := by rw [hR]; exact Nat.le_refl _
  rw [← hR]
  obtain ⟨Q, hQ⟩ : ∃ Q, Q = MQ below (qP (some (.int res))) args s (0) (0) (fun _ => False) := ⟨_, rfl⟩
  rw [← hQ]
  have hS : xS G s s.heap [] := va_S.rf
  obtain ⟨ls, he, hl⟩ := x_entry m [.inl x0, .inl x1, .inl x2] 3 (Nat.le_of_ble_eq_true rfl)
  rw [show entryFrame m args 3 = F0 m 0 ls [] by rw [ha]; exact he]
  have hl : xL ls 3 [(0, .inl x0), (1, .inl x1), (2, .inl x2)] := hl
  have h := hf
  unfold f_LM_isWithin at h
  suffices hmain : ∀ (H : Heap) (locs : List Loc), xhd G vwCl w H → xS G s H locs → H.size = sz → (H = s.heap ∧ locs = []) → W p l e R s m args below meth c H locs 0 0 Q (F0 m 0 ls []) from hmain _ _ hH hS hz ⟨rfl, rfl⟩
  clear hH hS hz
  intro H locs hH hS hz hP0
  refine x_iload_n C0 hl 0 d_LM_isWithin_0 rfl rfl ?_
  refine x_iload_n C0 hl 1 d_LM_isWithin_1 rfl rfl ?_
  refine x_icmp_lt C0 14 d_LM_isWithin_2 (by decide) h (fun h => ?_) (fun h => ?_)
  · refine lv_iconst (v := 0) C0.1 C0.2.1 d_LM_isWithin_14 (by decide) ?_
    cases h
    rw [hQ]
    exact x_zretP C0 hr hlocks hP0 rfl d_LM_isWithin_15
  · refine x_iload_n C0 hl 0 d_LM_isWithin_5 rfl rfl ?_
    refine x_iload_n C0 hl 2 d_LM_isWithin_6 rfl rfl ?_
    refine x_icmp_gt C0 14 d_LM_isWithin_7 (by decide) h (fun h => ?_) (fun h => ?_)
    · refine lv_iconst (v := 0) C0.1 C0.2.1 d_LM_isWithin_14 (by decide) ?_
      cases h
      rw [hQ]
      exact x_zretP C0 hr hlocks hP0 rfl d_LM_isWithin_15
    · refine lv_iconst (v := 1) C0.1 C0.2.1 d_LM_isWithin_10 (by decide) ?_
      refine x_goto C0 15 d_LM_isWithin_11 (by decide) ?_
      cases h
      rw [hQ]
      exact x_zretP C0 hr hlocks hP0 rfl d_LM_isWithin_15
theorem d_LM_leafOrNull_0 : decode b_LM_leafOrNull 0 = .ok (.iload_n 1, 1) := by decide +kernel
theorem d_LM_leafOrNull_1 : decode b_LM_leafOrNull 1 = .ok (.iconst 0, 1) := by decide +kernel
theorem d_LM_leafOrNull_2 : decode b_LM_leafOrNull 2 = .ok (.aload_n 0, 1) := by decide +kernel
theorem d_LM_leafOrNull_3 : decode b_LM_leafOrNull 3 = .ok (.getfield 15, 3) := by decide +kernel
theorem d_LM_leafOrNull_6 : decode b_LM_leafOrNull 6 = .ok (.iconst 1, 1) := by decide +kernel
theorem d_LM_leafOrNull_7 : decode b_LM_leafOrNull 7 = .ok (.isub, 1) := by decide +kernel
theorem d_LM_leafOrNull_8 : decode b_LM_leafOrNull 8 = .ok (.invokestatic 51, 3) := by decide +kernel
theorem d_LM_leafOrNull_11 : decode b_LM_leafOrNull 11 = .ok (.ifCond .eq 12, 3) := by decide +kernel
theorem d_LM_leafOrNull_14 : decode b_LM_leafOrNull 14 = .ok (.aload_n 0, 1) := by decide +kernel
theorem d_LM_leafOrNull_15 : decode b_LM_leafOrNull 15 = .ok (.getfield 11, 3) := by decide +kernel
theorem d_LM_leafOrNull_18 : decode b_LM_leafOrNull 18 = .ok (.iload_n 1, 1) := by decide +kernel
theorem d_LM_leafOrNull_19 : decode b_LM_leafOrNull 19 = .ok (.aaload, 1) := by decide +kernel
theorem d_LM_leafOrNull_20 : decode b_LM_leafOrNull 20 = .ok (.goto 4, 3) := by decide +kernel
theorem d_LM_leafOrNull_23 : decode b_LM_leafOrNull 23 = .ok (.aconst_null, 1) := by decide +kernel
theorem d_LM_leafOrNull_24 : decode b_LM_leafOrNull 24 = .ok (.areturn, 1) := by decide +kernel
def f_LM_leafOrNull (w : Mp) (h0 : Nat) (x1 : Int32) : Option (Option Nat) := (gI w (some h0) 0 1).bind fun v_1 => (f_LM_isWithin w x1 (0 : Int32) (v_1 - (1 : Int32))).bind fun q_2 => if q_2 = 0 then (some none) else ((gR w (some h0) 0 0).bind fun v_3 => (aR w v_3 1 x1).bind fun v_4 => some v_4)
set_option maxHeartbeats 4000000 in
set_option maxRecDepth 100000 in
theorem c_LM_leafOrNull (l : Launch) (G : Gx) (w : Mp) (sz : Nat) (h0 : Nat) (x1 : Int32) (res : Option Nat) (hf : f_LM_leafOrNull w h0 x1 = some res) : Met l y_LM_leafOrNull (xws y_LM_leafOrNull b_LM_leafOrNull 2 (some (.object "LeafMatches$Leaf"))) { frames := 1, cells := 0, slots := 0, locals := 22 } (xPc G vwCl xaty w sz [va_rf (some h0), .int x1]) (qP (some (va_rf res))) (0) (0) (fun _ => False) := by
  refine Met.ofW (cc := b_LM_leafOrNull) (maxL := 2) (ret := (some (.object "LeafMatches$Leaf"))) (by decide) rfl ?_
  intro p e s m args below meth c s₁ B hml hv
  obtain ⟨ha, hE, hH, hz⟩ := hv
  have C0 : CallFix p m c b_LM_leafOrNull 2 s args wA R_LM := ⟨B.exec, B.bytes, hml, findClass_of_methodNamed B.named, fun w hw => atoms_spec (ws := xws y_LM_leafOrNull b_LM_leafOrNull 2 (some (.object "LeafMatches$Leaf"))) B.pre w (List.mem_cons_of_mem _ hw)⟩
  have hr := B.returns
  have hlocks := B.notSynchronized
  obtain ⟨R, hR⟩ : ∃ R, R = (headSpec (xws y_LM_leafOrNull b_LM_leafOrNull 2 (some (.object "LeafMatches$Leaf"))) { frames := 1, cells := 0, slots := 0, locals := 22 }).room := ⟨_, rfl⟩
  have hR1 : 1 ≤ R.frames := by rw [hR]; exact Nat.le_of_ble_eq_true rfl
  have hR2 : 22 ≤ R.locals := by rw [hR]; exact Nat.le_of_ble_eq_true rfl
  have hR3 : 0 ≤ R.cells := by rw [hR]; exact Nat.le_refl _
  have hR4 : 0 ≤ R.slots := by rw [hR]; exact Nat.le_refl _
  rw [← hR]
  obtain ⟨Q, hQ⟩ : ∃ Q, Q = MQ below (qP (some (va_rf res))) args s (0) (0) (fun _ => False) := ⟨_, rfl⟩
  rw [← hQ]
  have hS : xS G s s.heap [] := va_S.rf
  obtain ⟨ls, he, hl⟩ := x_entry m [.inr (.inl (some h0)), .inl x1] 2 (Nat.le_of_ble_eq_true rfl)
  rw [show entryFrame m args 2 = F0 m 0 ls [] by rw [ha]; exact he]
  have hl : xL ls 2 [(0, .inr (.inl (some h0))), (1, .inl x1)] := hl
  have h := hf
  unfold f_LM_leafOrNull at h
  suffices hmain : ∀ (H : Heap) (locs : List Loc), xhd G vwCl w H → xS G s H locs → H.size = sz → (H = s.heap ∧ locs = []) → W p l e R s m args below meth c H locs 0 0 Q (F0 m 0 ls []) from hmain _ _ hH hS hz ⟨rfl, rfl⟩
  clear hH hS hz
  intro H locs hH hS hz hP0
  refine x_iload_n C0 hl 1 d_LM_leafOrNull_0 rfl rfl ?_
  refine lv_iconst (v := 0) C0.1 C0.2.1 d_LM_leafOrNull_1 (by decide) ?_
  refine x_aload_n C0 hl 0 d_LM_leafOrNull_2 rfl rfl ?_
  refine x_getI C0 hE hH (ci := 0) rfl i_LM 1 (by decide) kw_1_76 d_LM_leafOrNull_3 h (fun v_1 h => ?_)
  refine lv_iconst (v := 1) C0.1 C0.2.1 d_LM_leafOrNull_6 (by decide) ?_
  refine lv_isub C0.1 C0.2.1 d_LM_leafOrNull_7 ?_
  obtain ⟨q_2, e9, h⟩ := Option.bind_eq_some_iff.mp h
  refine x_callP (va_runS (As := [.int x1, .int (0 : Int32), .int (v_1 - (1 : Int32))]) (rest := []) C0 (c_LM_isWithin l G w _ x1 (0 : Int32) (v_1 - (1 : Int32)) q_2 e9) (x_cwS 3 C0 kw_1_184 kw_1_186 kw_1_1 kw_1_185 (by decide +kernel) (x_rm hR1 hR2 (Nat.le_of_ble_eq_true rfl) (Nat.le_of_ble_eq_true rfl))) (x_preS hE hH hS) rfl rfl hl.1 rfl (lv_room (by first | exact Nat.le_of_ble_eq_true rfl | simp only [List.map_cons, List.map_nil, List.sum_cons, List.sum_nil, va_rf_cat, x_catI, x_catL, x_catA] <;> decide)) d_LM_leafOrNull_8 (x_le0 hR3 hR4)) ?_
  refine x_if_eq C0 23 d_LM_leafOrNull_11 (by decide) h (fun h => ?_) (fun h => ?_)
  · refine x_null C0 d_LM_leafOrNull_23 ?_
    cases h
    rw [hQ]
    exact x_aretP C0 hr (Or.inl ⟨_, rfl⟩) hlocks hP0 d_LM_leafOrNull_24
  · refine x_aload_n C0 hl 0 d_LM_leafOrNull_14 rfl rfl ?_
    refine x_getR C0 hE hH (ci := 0) rfl i_LM 0 (by decide) kw_1_75 d_LM_leafOrNull_15 h (fun v_3 h => ?_)
    refine x_iload_n C0 hl 1 d_LM_leafOrNull_18 rfl rfl ?_
    refine x_aald C0 hE hH (t := 1) rfl d_LM_leafOrNull_19 h (fun v_4 h => ?_)
    refine x_goto C0 24 d_LM_leafOrNull_20 (by decide) ?_
    cases h
    rw [hQ]
    exact x_aretP C0 hr (Or.inl ⟨_, rfl⟩) hlocks hP0 d_LM_leafOrNull_24
theorem d_LM_faceOrNull_0 : decode b_LM_faceOrNull 0 = .ok (.iload_n 1, 1) := by decide +kernel
theorem d_LM_faceOrNull_1 : decode b_LM_faceOrNull 1 = .ok (.iconst 0, 1) := by decide +kernel
theorem d_LM_faceOrNull_2 : decode b_LM_faceOrNull 2 = .ok (.aload_n 0, 1) := by decide +kernel
theorem d_LM_faceOrNull_3 : decode b_LM_faceOrNull 3 = .ok (.getfield 25, 3) := by decide +kernel
theorem d_LM_faceOrNull_6 : decode b_LM_faceOrNull 6 = .ok (.iconst 1, 1) := by decide +kernel
theorem d_LM_faceOrNull_7 : decode b_LM_faceOrNull 7 = .ok (.isub, 1) := by decide +kernel
theorem d_LM_faceOrNull_8 : decode b_LM_faceOrNull 8 = .ok (.invokestatic 51, 3) := by decide +kernel
theorem d_LM_faceOrNull_11 : decode b_LM_faceOrNull 11 = .ok (.ifCond .eq 12, 3) := by decide +kernel
theorem d_LM_faceOrNull_14 : decode b_LM_faceOrNull 14 = .ok (.aload_n 0, 1) := by decide +kernel
theorem d_LM_faceOrNull_15 : decode b_LM_faceOrNull 15 = .ok (.getfield 21, 3) := by decide +kernel
theorem d_LM_faceOrNull_18 : decode b_LM_faceOrNull 18 = .ok (.iload_n 1, 1) := by decide +kernel
theorem d_LM_faceOrNull_19 : decode b_LM_faceOrNull 19 = .ok (.aaload, 1) := by decide +kernel
theorem d_LM_faceOrNull_20 : decode b_LM_faceOrNull 20 = .ok (.goto 4, 3) := by decide +kernel
theorem d_LM_faceOrNull_23 : decode b_LM_faceOrNull 23 = .ok (.aconst_null, 1) := by decide +kernel
theorem d_LM_faceOrNull_24 : decode b_LM_faceOrNull 24 = .ok (.areturn, 1) := by decide +kernel
def f_LM_faceOrNull (w : Mp) (h0 : Nat) (x1 : Int32) : Option (Option Nat) := (gI w (some h0) 0 3).bind fun v_1 => (f_LM_isWithin w x1 (0 : Int32) (v_1 - (1 : Int32))).bind fun q_2 => if q_2 = 0 then (some none) else ((gR w (some h0) 0 2).bind fun v_3 => (aR w v_3 2 x1).bind fun v_4 => some v_4)
set_option maxHeartbeats 4000000 in
set_option maxRecDepth 100000 in
theorem c_LM_faceOrNull (l : Launch) (G : Gx) (w : Mp) (sz : Nat) (h0 : Nat) (x1 : Int32) (res : Option Nat) (hf : f_LM_faceOrNull w h0 x1 = some res) : Met l y_LM_faceOrNull (xws y_LM_faceOrNull b_LM_faceOrNull 2 (some (.object "LeafMatches$Face"))) { frames := 1, cells := 0, slots := 0, locals := 22 } (xPc G vwCl xaty w sz [va_rf (some h0), .int x1]) (qP (some (va_rf res))) (0) (0) (fun _ => False) := by
  refine Met.ofW (cc := b_LM_faceOrNull) (maxL := 2) (ret := (some (.object "LeafMatches$Face"))) (by decide) rfl ?_
  intro p e s m args below meth c s₁ B hml hv
  obtain ⟨ha, hE, hH, hz⟩ := hv
  have C0 : CallFix p m c b_LM_faceOrNull 2 s args wA R_LM := ⟨B.exec, B.bytes, hml, findClass_of_methodNamed B.named, fun w hw => atoms_spec (ws := xws y_LM_faceOrNull b_LM_faceOrNull 2 (some (.object "LeafMatches$Face"))) B.pre w (List.mem_cons_of_mem _ hw)⟩
  have hr := B.returns
  have hlocks := B.notSynchronized
  obtain ⟨R, hR⟩ : ∃ R, R = (headSpec (xws y_LM_faceOrNull b_LM_faceOrNull 2 (some (.object "LeafMatches$Face"))) { frames := 1, cells := 0, slots := 0, locals := 22 }).room := ⟨_, rfl⟩
  have hR1 : 1 ≤ R.frames := by rw [hR]; exact Nat.le_of_ble_eq_true rfl
  have hR2 : 22 ≤ R.locals := by rw [hR]; exact Nat.le_of_ble_eq_true rfl
  have hR3 : 0 ≤ R.cells := by rw [hR]; exact Nat.le_refl _
  have hR4 : 0 ≤ R.slots := by rw [hR]; exact Nat.le_refl _
  rw [← hR]
  obtain ⟨Q, hQ⟩ : ∃ Q, Q = MQ below (qP (some (va_rf res))) args s (0) (0) (fun _ => False) := ⟨_, rfl⟩
  rw [← hQ]
  have hS : xS G s s.heap [] := va_S.rf
  obtain ⟨ls, he, hl⟩ := x_entry m [.inr (.inl (some h0)), .inl x1] 2 (Nat.le_of_ble_eq_true rfl)
  rw [show entryFrame m args 2 = F0 m 0 ls [] by rw [ha]; exact he]
  have hl : xL ls 2 [(0, .inr (.inl (some h0))), (1, .inl x1)] := hl
  have h := hf
  unfold f_LM_faceOrNull at h
  suffices hmain : ∀ (H : Heap) (locs : List Loc), xhd G vwCl w H → xS G s H locs → H.size = sz → (H = s.heap ∧ locs = []) → W p l e R s m args below meth c H locs 0 0 Q (F0 m 0 ls []) from hmain _ _ hH hS hz ⟨rfl, rfl⟩
  clear hH hS hz
  intro H locs hH hS hz hP0
  refine x_iload_n C0 hl 1 d_LM_faceOrNull_0 rfl rfl ?_
  refine lv_iconst (v := 0) C0.1 C0.2.1 d_LM_faceOrNull_1 (by decide) ?_
  refine x_aload_n C0 hl 0 d_LM_faceOrNull_2 rfl rfl ?_
  refine x_getI C0 hE hH (ci := 0) rfl i_LM 3 (by decide) kw_1_78 d_LM_faceOrNull_3 h (fun v_1 h => ?_)
  refine lv_iconst (v := 1) C0.1 C0.2.1 d_LM_faceOrNull_6 (by decide) ?_
  refine lv_isub C0.1 C0.2.1 d_LM_faceOrNull_7 ?_
  obtain ⟨q_2, e9, h⟩ := Option.bind_eq_some_iff.mp h
  refine x_callP (va_runS (As := [.int x1, .int (0 : Int32), .int (v_1 - (1 : Int32))]) (rest := []) C0 (c_LM_isWithin l G w _ x1 (0 : Int32) (v_1 - (1 : Int32)) q_2 e9) (x_cwS 3 C0 kw_1_184 kw_1_186 kw_1_1 kw_1_185 (by decide +kernel) (x_rm hR1 hR2 (Nat.le_of_ble_eq_true rfl) (Nat.le_of_ble_eq_true rfl))) (x_preS hE hH hS) rfl rfl hl.1 rfl (lv_room (by first | exact Nat.le_of_ble_eq_true rfl | simp only [List.map_cons, List.map_nil, List.sum_cons, List.sum_nil, va_rf_cat, x_catI, x_catL, x_catA] <;> decide)) d_LM_faceOrNull_8 (x_le0 hR3 hR4)) ?_
  refine x_if_eq C0 23 d_LM_faceOrNull_11 (by decide) h (fun h => ?_) (fun h => ?_)
  · refine x_null C0 d_LM_faceOrNull_23 ?_
    cases h
    rw [hQ]
    exact x_aretP C0 hr (Or.inl ⟨_, rfl⟩) hlocks hP0 d_LM_faceOrNull_24
  · refine x_aload_n C0 hl 0 d_LM_faceOrNull_14 rfl rfl ?_
    refine x_getR C0 hE hH (ci := 0) rfl i_LM 2 (by decide) kw_1_77 d_LM_faceOrNull_15 h (fun v_3 h => ?_)
    refine x_iload_n C0 hl 1 d_LM_faceOrNull_18 rfl rfl ?_
    refine x_aald C0 hE hH (t := 2) rfl d_LM_faceOrNull_19 h (fun v_4 h => ?_)
    refine x_goto C0 24 d_LM_faceOrNull_20 (by decide) ?_
    cases h
    rw [hQ]
    exact x_aretP C0 hr (Or.inl ⟨_, rfl⟩) hlocks hP0 d_LM_faceOrNull_24
theorem d_LM_isNumberTaken_0 : decode b_LM_isNumberTaken 0 = .ok (.iconst 0, 1) := by decide +kernel
theorem d_LM_isNumberTaken_1 : decode b_LM_isNumberTaken 1 = .ok (.istore_n 3, 1) := by decide +kernel
theorem d_LM_isNumberTaken_2 : decode b_LM_isNumberTaken 2 = .ok (.iload_n 3, 1) := by decide +kernel
theorem d_LM_isNumberTaken_3 : decode b_LM_isNumberTaken 3 = .ok (.aload_n 0, 1) := by decide +kernel
theorem d_LM_isNumberTaken_4 : decode b_LM_isNumberTaken 4 = .ok (.getfield 15, 3) := by decide +kernel
theorem d_LM_isNumberTaken_7 : decode b_LM_isNumberTaken 7 = .ok (.if_icmp .ge 37, 3) := by decide +kernel
theorem d_LM_isNumberTaken_10 : decode b_LM_isNumberTaken 10 = .ok (.aload_n 0, 1) := by decide +kernel
theorem d_LM_isNumberTaken_11 : decode b_LM_isNumberTaken 11 = .ok (.getfield 11, 3) := by decide +kernel
theorem d_LM_isNumberTaken_14 : decode b_LM_isNumberTaken 14 = .ok (.iload_n 3, 1) := by decide +kernel
theorem d_LM_isNumberTaken_15 : decode b_LM_isNumberTaken 15 = .ok (.aaload, 1) := by decide +kernel
theorem d_LM_isNumberTaken_16 : decode b_LM_isNumberTaken 16 = .ok (.getfield 252, 3) := by decide +kernel
theorem d_LM_isNumberTaken_19 : decode b_LM_isNumberTaken 19 = .ok (.iload_n 1, 1) := by decide +kernel
theorem d_LM_isNumberTaken_20 : decode b_LM_isNumberTaken 20 = .ok (.if_icmp .ne 18, 3) := by decide +kernel
theorem d_LM_isNumberTaken_23 : decode b_LM_isNumberTaken 23 = .ok (.aload_n 0, 1) := by decide +kernel
theorem d_LM_isNumberTaken_24 : decode b_LM_isNumberTaken 24 = .ok (.getfield 11, 3) := by decide +kernel
theorem d_LM_isNumberTaken_27 : decode b_LM_isNumberTaken 27 = .ok (.iload_n 3, 1) := by decide +kernel
theorem d_LM_isNumberTaken_28 : decode b_LM_isNumberTaken 28 = .ok (.aaload, 1) := by decide +kernel
theorem d_LM_isNumberTaken_29 : decode b_LM_isNumberTaken 29 = .ok (.getfield 255, 3) := by decide +kernel
theorem d_LM_isNumberTaken_32 : decode b_LM_isNumberTaken 32 = .ok (.iload_n 2, 1) := by decide +kernel
theorem d_LM_isNumberTaken_33 : decode b_LM_isNumberTaken 33 = .ok (.if_icmp .ne 5, 3) := by decide +kernel
theorem d_LM_isNumberTaken_36 : decode b_LM_isNumberTaken 36 = .ok (.iconst 1, 1) := by decide +kernel
theorem d_LM_isNumberTaken_37 : decode b_LM_isNumberTaken 37 = .ok (.ireturn, 1) := by decide +kernel
theorem d_LM_isNumberTaken_38 : decode b_LM_isNumberTaken 38 = .ok (.iinc 3 1, 3) := by decide +kernel
theorem d_LM_isNumberTaken_41 : decode b_LM_isNumberTaken 41 = .ok (.goto (-39), 3) := by decide +kernel
theorem d_LM_isNumberTaken_44 : decode b_LM_isNumberTaken 44 = .ok (.iconst 0, 1) := by decide +kernel
theorem d_LM_isNumberTaken_45 : decode b_LM_isNumberTaken 45 = .ok (.ireturn, 1) := by decide +kernel
def f_LM_isNumberTaken_L2 (w : Mp) (h0 : Nat) (x1 : Int32) (x2 : Int32) : Nat → Int32 → Option (Nat × Int32)
  | 0, _ => none
  | n + 1, x3 => (gI w (some h0) 0 1).bind fun v_1 => if v_1 ≤ x3 then (some (0, x3)) else ((gR w (some h0) 0 0).bind fun v_2 => (aR w v_2 1 x3).bind fun v_3 => (gI w v_3 1 1).bind fun v_4 => if v_4 = x1 then ((gR w (some h0) 0 0).bind fun v_5 => (aR w v_5 1 x3).bind fun v_6 => (gI w v_6 1 2).bind fun v_7 => if v_7 = x2 then (some (1, x3)) else (f_LM_isNumberTaken_L2 w h0 x1 x2 n (x3 + 1))) else (f_LM_isNumberTaken_L2 w h0 x1 x2 n (x3 + 1)))
set_option maxHeartbeats 4000000 in
set_option maxRecDepth 100000 in
theorem w_LM_isNumberTaken_L2 {p : Program} {l : Launch} {e : Env} {R : Room} {s : State} {m : MethodId} {args : Array Value} {below : List Frame} {meth : Method} {c : Code} {Q : State → Prop} {cells slots sz : Nat} {G : Gx} {h0 : Nat} {x1 : Int32} {x2 : Int32} (C0 : CallFix p m c b_LM_isNumberTaken 4 s args wA R_LM) (hE : xE G vwCl xaty s) (hR1 : 0 ≤ R.frames) (hR2 : 0 ≤ R.locals) (hR3 : cells ≤ R.cells) (hR4 : slots ≤ R.slots) {w : Mp} {H : Heap} {locs : List Loc} (hH : xhd G vwCl w H) (hS : xS G s H locs) (hz : H.size = sz) : ∀ (n : Nat) (x3 : Int32) (q : Nat × Int32) (ls : Array Slot), xL ls 4 [(0, .inr (.inl (some h0))), (1, .inl x1), (2, .inl x2), (3, .inl x3)] → f_LM_isNumberTaken_L2 w h0 x1 x2 n x3 = some q → ((q.1 = 0 → ∀ (ls : Array Slot), xL ls 4 [(0, .inr (.inl (some h0))), (1, .inl x1), (2, .inl x2), (3, .inl q.2)] → W p l e R s m args below meth c H locs cells slots Q (F0 m 44 ls [])) ∧ (q.1 = 1 → ∀ (ls : Array Slot), xL ls 4 [(0, .inr (.inl (some h0))), (1, .inl x1), (2, .inl x2), (3, .inl q.2)] → W p l e R s m args below meth c H locs cells slots Q (F0 m 36 ls []))) → W p l e R s m args below meth c H locs cells slots Q (F0 m 2 ls []) := by
  intro n
  induction n with
  | zero => intro _ q ls hl h; cases h
  | succ n ih =>
    intro x3 q ls hl h K
    rw [f_LM_isNumberTaken_L2] at h
    refine x_iload_n C0 hl 3 d_LM_isNumberTaken_2 rfl rfl ?_
    refine x_aload_n C0 hl 0 d_LM_isNumberTaken_3 rfl rfl ?_
    refine x_getI C0 hE hH (ci := 0) rfl i_LM 1 (by decide) kw_1_76 d_LM_isNumberTaken_4 h (fun v_1 h => ?_)
    refine x_icmp_ge C0 44 d_LM_isNumberTaken_7 (by decide) h (fun h => ?_) (fun h => ?_)
    · cases h
      exact K.1 rfl ls (x_sub hl [0, 1, 2, 3] rfl)
    · refine x_aload_n C0 hl 0 d_LM_isNumberTaken_10 rfl rfl ?_
      refine x_getR C0 hE hH (ci := 0) rfl i_LM 0 (by decide) kw_1_75 d_LM_isNumberTaken_11 h (fun v_2 h => ?_)
      refine x_iload_n C0 hl 3 d_LM_isNumberTaken_14 rfl rfl ?_
      refine x_aald C0 hE hH (t := 1) rfl d_LM_isNumberTaken_15 h (fun v_3 h => ?_)
      refine x_getI C0 hE hH (ci := 1) rfl i_Leaf 1 (by decide) kw_1_213 d_LM_isNumberTaken_16 h (fun v_4 h => ?_)
      refine x_iload_n C0 hl 1 d_LM_isNumberTaken_19 rfl rfl ?_
      refine x_icmp_ne C0 38 d_LM_isNumberTaken_20 (by decide) h (fun h => ?_) (fun h => ?_)
      · refine x_iinc (v := 1) (lv' := [(3, .inl (x3 + 1)), (0, .inr (.inl (some h0))), (1, .inl x1), (2, .inl x2)]) C0 hl 3 d_LM_isNumberTaken_38 rfl (by decide) (by decide) rfl (fun ls hl => ?_)
        refine x_goto C0 2 d_LM_isNumberTaken_41 (by decide) ?_
        exact ih _ q ls (x_sub hl [1, 2, 3, 0] rfl) h K
      · refine x_aload_n C0 hl 0 d_LM_isNumberTaken_23 rfl rfl ?_
        refine x_getR C0 hE hH (ci := 0) rfl i_LM 0 (by decide) kw_1_75 d_LM_isNumberTaken_24 h (fun v_5 h => ?_)
        refine x_iload_n C0 hl 3 d_LM_isNumberTaken_27 rfl rfl ?_
        refine x_aald C0 hE hH (t := 1) rfl d_LM_isNumberTaken_28 h (fun v_6 h => ?_)
        refine x_getI C0 hE hH (ci := 1) rfl i_Leaf 2 (by decide) kw_1_215 d_LM_isNumberTaken_29 h (fun v_7 h => ?_)
        refine x_iload_n C0 hl 2 d_LM_isNumberTaken_32 rfl rfl ?_
        refine x_icmp_ne C0 38 d_LM_isNumberTaken_33 (by decide) h (fun h => ?_) (fun h => ?_)
        · refine x_iinc (v := 1) (lv' := [(3, .inl (x3 + 1)), (0, .inr (.inl (some h0))), (1, .inl x1), (2, .inl x2)]) C0 hl 3 d_LM_isNumberTaken_38 rfl (by decide) (by decide) rfl (fun ls hl => ?_)
          refine x_goto C0 2 d_LM_isNumberTaken_41 (by decide) ?_
          exact ih _ q ls (x_sub hl [1, 2, 3, 0] rfl) h K
        · cases h
          exact K.2 rfl ls (x_sub hl [0, 1, 2, 3] rfl)
def f_LM_isNumberTaken (w : Mp) (h0 : Nat) (x1 : Int32) (x2 : Int32) : Option (Int32) := (f_LM_isNumberTaken_L2 w h0 x1 x2 100000 (0 : Int32)).bind fun q_8 => if q_8.1 = 0 then (some (0 : Int32)) else (if q_8.1 = 1 then (some (1 : Int32)) else (none))
set_option maxHeartbeats 4000000 in
set_option maxRecDepth 100000 in
theorem c_LM_isNumberTaken (l : Launch) (G : Gx) (w : Mp) (sz : Nat) (h0 : Nat) (x1 : Int32) (x2 : Int32) (res : Int32) (hf : f_LM_isNumberTaken w h0 x1 x2 = some res) : Met l y_LM_isNumberTaken (xws y_LM_isNumberTaken b_LM_isNumberTaken 4 (some .boolean)) { frames := 0, cells := 0, slots := 0, locals := 0 } (xPc G vwCl xaty w sz [va_rf (some h0), .int x1, .int x2]) (qP (some (.int res))) (0) (0) (fun _ => False) := by
  refine Met.ofW (cc := b_LM_isNumberTaken) (maxL := 4) (ret := (some .boolean)) (by decide) rfl ?_
  intro p e s m args below meth c s₁ B hml hv
  obtain ⟨ha, hE, hH, hz⟩ := hv
  have C0 : CallFix p m c b_LM_isNumberTaken 4 s args wA R_LM := ⟨B.exec, B.bytes, hml, findClass_of_methodNamed B.named, fun w hw => atoms_spec (ws := xws y_LM_isNumberTaken b_LM_isNumberTaken 4 (some .boolean)) B.pre w (List.mem_cons_of_mem _ hw)⟩
  have hr := B.returns
  have hlocks := B.notSynchronized
  obtain ⟨R, hR⟩ : ∃ R, R = (headSpec (xws y_LM_isNumberTaken b_LM_isNumberTaken 4 (some .boolean)) { frames := 0, cells := 0, slots := 0, locals := 0 }).room := ⟨_, rfl⟩
  have hR1 : 0 ≤ R.frames := by rw [hR]; exact Nat.le_of_ble_eq_true rfl
  have hR2 : 0 ≤ R.locals := by rw [hR]; exact Nat.le_of_ble_eq_true rfl
  have hR3 : 0 ≤ R.cells := by rw [hR]; exact Nat.le_refl _
  have hR4 : 0 ≤ R.slots := by rw [hR]; exact Nat.le_refl _
  rw [← hR]
  obtain ⟨Q, hQ⟩ : ∃ Q, Q = MQ below (qP (some (.int res))) args s (0) (0) (fun _ => False) := ⟨_, rfl⟩
  rw [← hQ]
  have hS : xS G s s.heap [] := va_S.rf
  obtain ⟨ls, he, hl⟩ := x_entry m [.inr (.inl (some h0)), .inl x1, .inl x2] 4 (Nat.le_of_ble_eq_true rfl)
  rw [show entryFrame m args 4 = F0 m 0 ls [] by rw [ha]; exact he]
  have hl : xL ls 4 [(0, .inr (.inl (some h0))), (1, .inl x1), (2, .inl x2)] := hl
  have h := hf
  unfold f_LM_isNumberTaken at h
  suffices hmain : ∀ (H : Heap) (locs : List Loc), xhd G vwCl w H → xS G s H locs → H.size = sz → (H = s.heap ∧ locs = []) → W p l e R s m args below meth c H locs 0 0 Q (F0 m 0 ls []) from hmain _ _ hH hS hz ⟨rfl, rfl⟩
  clear hH hS hz
  intro H locs hH hS hz hP0
  refine lv_iconst (v := 0) C0.1 C0.2.1 d_LM_isNumberTaken_0 (by decide) ?_
  refine x_istore_n (lv' := [(3, .inl (0 : Int32)), (0, .inr (.inl (some h0))), (1, .inl x1), (2, .inl x2)]) C0 hl d_LM_isNumberTaken_1 rfl (by decide) rfl (fun ls hl => ?_)
  obtain ⟨q_8, e9, h⟩ := Option.bind_eq_some_iff.mp h
  refine w_LM_isNumberTaken_L2 C0 hE hR1 hR2 hR3 hR4 hH hS hz 100000 _ q_8 ls (x_sub hl [1, 2, 3, 0] rfl) e9 ⟨fun z9 ls hl => ?_, fun z9 ls hl => ?_⟩
  · rw [if_pos z9] at h
    refine lv_iconst (v := 0) C0.1 C0.2.1 d_LM_isNumberTaken_44 (by decide) ?_
    cases h
    rw [hQ]
    exact x_zretP C0 hr hlocks hP0 rfl d_LM_isNumberTaken_45
  · rw [if_neg (by rw [z9]; decide), if_pos z9] at h
    refine lv_iconst (v := 1) C0.1 C0.2.1 d_LM_isNumberTaken_36 (by decide) ?_
    cases h
    rw [hQ]
    exact x_zretP C0 hr hlocks hP0 rfl d_LM_isNumberTaken_37
theorem d_LM_countFree_0 : decode b_LM_countFree 0 = .ok (.iconst 0, 1) := by decide +kernel
theorem d_LM_countFree_1 : decode b_LM_countFree 1 = .ok (.istore_n 2, 1) := by decide +kernel
theorem d_LM_countFree_2 : decode b_LM_countFree 2 = .ok (.iconst 0, 1) := by decide +kernel
theorem d_LM_countFree_3 : decode b_LM_countFree 3 = .ok (.istore_n 3, 1) := by decide +kernel
theorem d_LM_countFree_4 : decode b_LM_countFree 4 = .ok (.iload_n 3, 1) := by decide +kernel
theorem d_LM_countFree_5 : decode b_LM_countFree 5 = .ok (.aload_n 0, 1) := by decide +kernel
theorem d_LM_countFree_6 : decode b_LM_countFree 6 = .ok (.getfield 15, 3) := by decide +kernel
theorem d_LM_countFree_9 : decode b_LM_countFree 9 = .ok (.if_icmp .ge 37, 3) := by decide +kernel
theorem d_LM_countFree_12 : decode b_LM_countFree 12 = .ok (.aload_n 0, 1) := by decide +kernel
theorem d_LM_countFree_13 : decode b_LM_countFree 13 = .ok (.getfield 11, 3) := by decide +kernel
theorem d_LM_countFree_16 : decode b_LM_countFree 16 = .ok (.iload_n 3, 1) := by decide +kernel
theorem d_LM_countFree_17 : decode b_LM_countFree 17 = .ok (.aaload, 1) := by decide +kernel
theorem d_LM_countFree_18 : decode b_LM_countFree 18 = .ok (.getfield 252, 3) := by decide +kernel
theorem d_LM_countFree_21 : decode b_LM_countFree 21 = .ok (.iload_n 1, 1) := by decide +kernel
theorem d_LM_countFree_22 : decode b_LM_countFree 22 = .ok (.if_icmp .ne 18, 3) := by decide +kernel
theorem d_LM_countFree_25 : decode b_LM_countFree 25 = .ok (.aload_n 0, 1) := by decide +kernel
theorem d_LM_countFree_26 : decode b_LM_countFree 26 = .ok (.getfield 11, 3) := by decide +kernel
theorem d_LM_countFree_29 : decode b_LM_countFree 29 = .ok (.iload_n 3, 1) := by decide +kernel
theorem d_LM_countFree_30 : decode b_LM_countFree 30 = .ok (.aaload, 1) := by decide +kernel
theorem d_LM_countFree_31 : decode b_LM_countFree 31 = .ok (.invokevirtual 258, 3) := by decide +kernel
theorem d_LM_countFree_34 : decode b_LM_countFree 34 = .ok (.ifCond .eq 6, 3) := by decide +kernel
theorem d_LM_countFree_37 : decode b_LM_countFree 37 = .ok (.iinc 2 1, 3) := by decide +kernel
theorem d_LM_countFree_40 : decode b_LM_countFree 40 = .ok (.iinc 3 1, 3) := by decide +kernel
theorem d_LM_countFree_43 : decode b_LM_countFree 43 = .ok (.goto (-39), 3) := by decide +kernel
theorem d_LM_countFree_46 : decode b_LM_countFree 46 = .ok (.iload_n 2, 1) := by decide +kernel
theorem d_LM_countFree_47 : decode b_LM_countFree 47 = .ok (.ireturn, 1) := by decide +kernel
def f_LM_countFree_L4 (w : Mp) (h0 : Nat) (x1 : Int32) : Nat → Int32 → Int32 → Option (Nat × Int32 × Int32)
  | 0, _, _ => none
  | n + 1, x2, x3 => (gI w (some h0) 0 1).bind fun v_1 => if v_1 ≤ x3 then (some (0, x2, x3)) else ((gR w (some h0) 0 0).bind fun v_2 => (aR w v_2 1 x3).bind fun v_3 => (gI w v_3 1 1).bind fun v_4 => if v_4 = x1 then ((gR w (some h0) 0 0).bind fun v_5 => (aR w v_5 1 x3).bind fun v_6 => (xo w v_6 1).bind fun b_8 => (f_Leaf_isFree w b_8).bind fun q_7 => if q_7 = 0 then (f_LM_countFree_L4 w h0 x1 n x2 (x3 + 1)) else (f_LM_countFree_L4 w h0 x1 n (x2 + 1) (x3 + 1))) else (f_LM_countFree_L4 w h0 x1 n x2 (x3 + 1)))
set_option maxHeartbeats 4000000 in
set_option maxRecDepth 100000 in
theorem w_LM_countFree_L4 {p : Program} {l : Launch} {e : Env} {R : Room} {s : State} {m : MethodId} {args : Array Value} {below : List Frame} {meth : Method} {c : Code} {Q : State → Prop} {cells slots sz : Nat} {G : Gx} {h0 : Nat} {x1 : Int32} (C0 : CallFix p m c b_LM_countFree 4 s args wA R_LM) (hE : xE G vwCl xaty s) (hR1 : 1 ≤ R.frames) (hR2 : 20 ≤ R.locals) (hR3 : cells ≤ R.cells) (hR4 : slots ≤ R.slots) {w : Mp} {H : Heap} {locs : List Loc} (hH : xhd G vwCl w H) (hS : xS G s H locs) (hz : H.size = sz) : ∀ (n : Nat) (x2 : Int32) (x3 : Int32) (q : Nat × Int32 × Int32) (ls : Array Slot), xL ls 4 [(0, .inr (.inl (some h0))), (1, .inl x1), (2, .inl x2), (3, .inl x3)] → f_LM_countFree_L4 w h0 x1 n x2 x3 = some q → (∀ (ls : Array Slot), xL ls 4 [(0, .inr (.inl (some h0))), (1, .inl x1), (2, .inl q.2.1), (3, .inl q.2.2)] → W p l e R s m args below meth c H locs cells slots Q (F0 m 46 ls [])) → W p l e R s m args below meth c H locs cells slots Q (F0 m 4 ls []) := by
  intro n
  induction n with
  | zero => intro _ _ q ls hl h; cases h
  | succ n ih =>
    intro x2 x3 q ls hl h K
    rw [f_LM_countFree_L4] at h
    refine x_iload_n C0 hl 3 d_LM_countFree_4 rfl rfl ?_
    refine x_aload_n C0 hl 0 d_LM_countFree_5 rfl rfl ?_
    refine x_getI C0 hE hH (ci := 0) rfl i_LM 1 (by decide) kw_1_76 d_LM_countFree_6 h (fun v_1 h => ?_)
    refine x_icmp_ge C0 46 d_LM_countFree_9 (by decide) h (fun h => ?_) (fun h => ?_)
    · cases h
      exact K ls (x_sub hl [0, 1, 2, 3] rfl)
    · refine x_aload_n C0 hl 0 d_LM_countFree_12 rfl rfl ?_
      refine x_getR C0 hE hH (ci := 0) rfl i_LM 0 (by decide) kw_1_75 d_LM_countFree_13 h (fun v_2 h => ?_)
      refine x_iload_n C0 hl 3 d_LM_countFree_16 rfl rfl ?_
      refine x_aald C0 hE hH (t := 1) rfl d_LM_countFree_17 h (fun v_3 h => ?_)
      refine x_getI C0 hE hH (ci := 1) rfl i_Leaf 1 (by decide) kw_1_213 d_LM_countFree_18 h (fun v_4 h => ?_)
      refine x_iload_n C0 hl 1 d_LM_countFree_21 rfl rfl ?_
      refine x_icmp_ne C0 40 d_LM_countFree_22 (by decide) h (fun h => ?_) (fun h => ?_)
      · refine x_iinc (v := 1) (lv' := [(3, .inl (x3 + 1)), (0, .inr (.inl (some h0))), (1, .inl x1), (2, .inl x2)]) C0 hl 3 d_LM_countFree_40 rfl (by decide) (by decide) rfl (fun ls hl => ?_)
        refine x_goto C0 4 d_LM_countFree_43 (by decide) ?_
        exact ih _ _ q ls (x_sub hl [1, 2, 3, 0] rfl) h K
      · refine x_aload_n C0 hl 0 d_LM_countFree_25 rfl rfl ?_
        refine x_getR C0 hE hH (ci := 0) rfl i_LM 0 (by decide) kw_1_75 d_LM_countFree_26 h (fun v_5 h => ?_)
        refine x_iload_n C0 hl 3 d_LM_countFree_29 rfl rfl ?_
        refine x_aald C0 hE hH (t := 1) rfl d_LM_countFree_30 h (fun v_6 h => ?_)
        obtain ⟨b_8, e9, h⟩ := Option.bind_eq_some_iff.mp h
        obtain ⟨e8, fs9, hb9⟩ := xo_inv e9
        obtain ⟨q_7, e9, h⟩ := Option.bind_eq_some_iff.mp h
        refine x_callP (va_runV (As := []) (rest := []) C0 (c_Leaf_isFree l G w _ b_8 q_7 e9) (x_cwV 0 C0 kw_2_73 kw_2_76 kw_1_9 kw_2_74 kw_2_75 (by decide +kernel) (x_rm hR1 hR2 (Nat.le_of_ble_eq_true rfl) (Nat.le_of_ble_eq_true rfl))) (x_preV hE hH hS (ci := 1) rfl hb9) rfl rfl hl.1 (by rw [e8]; rfl) (lv_room (by first | exact Nat.le_of_ble_eq_true rfl | simp only [List.map_cons, List.map_nil, List.sum_cons, List.sum_nil, va_rf_cat, x_catI, x_catL, x_catA] <;> decide)) d_LM_countFree_31 (x_le0 hR3 hR4)) ?_
        refine x_if_eq C0 40 d_LM_countFree_34 (by decide) h (fun h => ?_) (fun h => ?_)
        · refine x_iinc (v := 1) (lv' := [(3, .inl (x3 + 1)), (0, .inr (.inl (some h0))), (1, .inl x1), (2, .inl x2)]) C0 hl 3 d_LM_countFree_40 rfl (by decide) (by decide) rfl (fun ls hl => ?_)
          refine x_goto C0 4 d_LM_countFree_43 (by decide) ?_
          exact ih _ _ q ls (x_sub hl [1, 2, 3, 0] rfl) h K
        · refine x_iinc (v := 1) (lv' := [(2, .inl (x2 + 1)), (0, .inr (.inl (some h0))), (1, .inl x1), (3, .inl x3)]) C0 hl 2 d_LM_countFree_37 rfl (by decide) (by decide) rfl (fun ls hl => ?_)
          refine x_iinc (v := 1) (lv' := [(3, .inl (x3 + 1)), (2, .inl (x2 + 1)), (0, .inr (.inl (some h0))), (1, .inl x1)]) C0 hl 3 d_LM_countFree_40 rfl (by decide) (by decide) rfl (fun ls hl => ?_)
          refine x_goto C0 4 d_LM_countFree_43 (by decide) ?_
          exact ih _ _ q ls (x_sub hl [2, 3, 1, 0] rfl) h K
def f_LM_countFree (w : Mp) (h0 : Nat) (x1 : Int32) : Option (Int32) := (f_LM_countFree_L4 w h0 x1 100000 (0 : Int32) (0 : Int32)).bind fun q_9 => some q_9.2.1
set_option maxHeartbeats 4000000 in
set_option maxRecDepth 100000 in
theorem c_LM_countFree (l : Launch) (G : Gx) (w : Mp) (sz : Nat) (h0 : Nat) (x1 : Int32) (res : Int32) (hf : f_LM_countFree w h0 x1 = some res) : Met l y_LM_countFree (xws y_LM_countFree b_LM_countFree 4 (some .int)) { frames := 1, cells := 0, slots := 0, locals := 20 } (xPc G vwCl xaty w sz [va_rf (some h0), .int x1]) (qP (some (.int res))) (0) (0) (fun _ => False) := by
  refine Met.ofW (cc := b_LM_countFree) (maxL := 4) (ret := (some .int)) (by decide) rfl ?_
  intro p e s m args below meth c s₁ B hml hv
  obtain ⟨ha, hE, hH, hz⟩ := hv
  have C0 : CallFix p m c b_LM_countFree 4 s args wA R_LM := ⟨B.exec, B.bytes, hml, findClass_of_methodNamed B.named, fun w hw => atoms_spec (ws := xws y_LM_countFree b_LM_countFree 4 (some .int)) B.pre w (List.mem_cons_of_mem _ hw)⟩
  have hr := B.returns
  have hlocks := B.notSynchronized
  obtain ⟨R, hR⟩ : ∃ R, R = (headSpec (xws y_LM_countFree b_LM_countFree 4 (some .int)) { frames := 1, cells := 0, slots := 0, locals := 20 }).room := ⟨_, rfl⟩
  have hR1 : 1 ≤ R.frames := by rw [hR]; exact Nat.le_of_ble_eq_true rfl
  have hR2 : 20 ≤ R.locals := by rw [hR]; exact Nat.le_of_ble_eq_true rfl
  have hR3 : 0 ≤ R.cells := by rw [hR]; exact Nat.le_refl _
  have hR4 : 0 ≤ R.slots := by rw [hR]; exact Nat.le_refl _
  rw [← hR]
  obtain ⟨Q, hQ⟩ : ∃ Q, Q = MQ below (qP (some (.int res))) args s (0) (0) (fun _ => False) := ⟨_, rfl⟩
  rw [← hQ]
  have hS : xS G s s.heap [] := va_S.rf
  obtain ⟨ls, he, hl⟩ := x_entry m [.inr (.inl (some h0)), .inl x1] 4 (Nat.le_of_ble_eq_true rfl)
  rw [show entryFrame m args 4 = F0 m 0 ls [] by rw [ha]; exact he]
  have hl : xL ls 4 [(0, .inr (.inl (some h0))), (1, .inl x1)] := hl
  have h := hf
  unfold f_LM_countFree at h
  suffices hmain : ∀ (H : Heap) (locs : List Loc), xhd G vwCl w H → xS G s H locs → H.size = sz → (H = s.heap ∧ locs = []) → W p l e R s m args below meth c H locs 0 0 Q (F0 m 0 ls []) from hmain _ _ hH hS hz ⟨rfl, rfl⟩
  clear hH hS hz
  intro H locs hH hS hz hP0
  refine lv_iconst (v := 0) C0.1 C0.2.1 d_LM_countFree_0 (by decide) ?_
  refine x_istore_n (lv' := [(2, .inl (0 : Int32)), (0, .inr (.inl (some h0))), (1, .inl x1)]) C0 hl d_LM_countFree_1 rfl (by decide) rfl (fun ls hl => ?_)
  refine lv_iconst (v := 0) C0.1 C0.2.1 d_LM_countFree_2 (by decide) ?_
  refine x_istore_n (lv' := [(3, .inl (0 : Int32)), (2, .inl (0 : Int32)), (0, .inr (.inl (some h0))), (1, .inl x1)]) C0 hl d_LM_countFree_3 rfl (by decide) rfl (fun ls hl => ?_)
  obtain ⟨q_9, e9, h⟩ := Option.bind_eq_some_iff.mp h
  refine w_LM_countFree_L4 C0 hE hR1 hR2 hR3 hR4 hH hS hz 100000 _ _ q_9 ls (x_sub hl [2, 3, 1, 0] rfl) e9 (fun ls hl => ?_)
  refine x_iload_n C0 hl 2 d_LM_countFree_46 rfl rfl ?_
  cases h
  rw [hQ]
  exact x_iretP C0 hr hlocks hP0 d_LM_countFree_47
theorem d_LM_leastFlitchWith_0 : decode b_LM_leastFlitchWith 0 = .ok (.iconst 0, 1) := by decide +kernel
theorem d_LM_leastFlitchWith_1 : decode b_LM_leastFlitchWith 1 = .ok (.istore_n 2, 1) := by decide +kernel
theorem d_LM_leastFlitchWith_2 : decode b_LM_leastFlitchWith 2 = .ok (.iload_n 2, 1) := by decide +kernel
theorem d_LM_leastFlitchWith_3 : decode b_LM_leastFlitchWith 3 = .ok (.iconst 4, 1) := by decide +kernel
theorem d_LM_leastFlitchWith_4 : decode b_LM_leastFlitchWith 4 = .ok (.if_icmp .ge 20, 3) := by decide +kernel
theorem d_LM_leastFlitchWith_7 : decode b_LM_leastFlitchWith 7 = .ok (.aload_n 0, 1) := by decide +kernel
theorem d_LM_leastFlitchWith_8 : decode b_LM_leastFlitchWith 8 = .ok (.iload_n 2, 1) := by decide +kernel
theorem d_LM_leastFlitchWith_9 : decode b_LM_leastFlitchWith 9 = .ok (.invokevirtual 261, 3) := by decide +kernel
theorem d_LM_leastFlitchWith_12 : decode b_LM_leastFlitchWith 12 = .ok (.iload_n 1, 1) := by decide +kernel
theorem d_LM_leastFlitchWith_13 : decode b_LM_leastFlitchWith 13 = .ok (.if_icmp .lt 5, 3) := by decide +kernel
theorem d_LM_leastFlitchWith_16 : decode b_LM_leastFlitchWith 16 = .ok (.iload_n 2, 1) := by decide +kernel
theorem d_LM_leastFlitchWith_17 : decode b_LM_leastFlitchWith 17 = .ok (.ireturn, 1) := by decide +kernel
theorem d_LM_leastFlitchWith_18 : decode b_LM_leastFlitchWith 18 = .ok (.iinc 2 1, 3) := by decide +kernel
theorem d_LM_leastFlitchWith_21 : decode b_LM_leastFlitchWith 21 = .ok (.goto (-19), 3) := by decide +kernel
theorem d_LM_leastFlitchWith_24 : decode b_LM_leastFlitchWith 24 = .ok (.iconst (-1), 1) := by decide +kernel
theorem d_LM_leastFlitchWith_25 : decode b_LM_leastFlitchWith 25 = .ok (.ireturn, 1) := by decide +kernel
def f_LM_leastFlitchWith_L2 (w : Mp) (h0 : Nat) (x1 : Int32) : Nat → Int32 → Option (Nat × Int32)
  | 0, _ => none
  | n + 1, x2 => if (4 : Int32) ≤ x2 then (some (0, x2)) else ((xo w (some h0) 0).bind fun b_2 => (f_LM_countFree w b_2 x2).bind fun q_1 => if q_1 < x1 then (f_LM_leastFlitchWith_L2 w h0 x1 n (x2 + 1)) else (some (1, x2)))
set_option maxHeartbeats 4000000 in
set_option maxRecDepth 100000 in
theorem w_LM_leastFlitchWith_L2 {p : Program} {l : Launch} {e : Env} {R : Room} {s : State} {m : MethodId} {args : Array Value} {below : List Frame} {meth : Method} {c : Code} {Q : State → Prop} {cells slots sz : Nat} {G : Gx} {h0 : Nat} {x1 : Int32} (C0 : CallFix p m c b_LM_leastFlitchWith 3 s args wA R_LM) (hE : xE G vwCl xaty s) (hR1 : 2 ≤ R.frames) (hR2 : 43 ≤ R.locals) (hR3 : cells ≤ R.cells) (hR4 : slots ≤ R.slots) {w : Mp} {H : Heap} {locs : List Loc} (hH : xhd G vwCl w H) (hS : xS G s H locs) (hz : H.size = sz) : ∀ (n : Nat) (x2 : Int32) (q : Nat × Int32) (ls : Array Slot), xL ls 3 [(0, .inr (.inl (some h0))), (1, .inl x1), (2, .inl x2)] → f_LM_leastFlitchWith_L2 w h0 x1 n x2 = some q → ((q.1 = 0 → ∀ (ls : Array Slot), xL ls 3 [(0, .inr (.inl (some h0))), (1, .inl x1), (2, .inl q.2)] → W p l e R s m args below meth c H locs cells slots Q (F0 m 24 ls [])) ∧ (q.1 = 1 → ∀ (ls : Array Slot), xL ls 3 [(0, .inr (.inl (some h0))), (1, .inl x1), (2, .inl q.2)] → W p l e R s m args below meth c H locs cells slots Q (F0 m 16 ls []))) → W p l e R s m args below meth c H locs cells slots Q (F0 m 2 ls []) := by
  intro n
  induction n with
  | zero => intro _ q ls hl h; cases h
  | succ n ih =>
    intro x2 q ls hl h K
    rw [f_LM_leastFlitchWith_L2] at h
    refine x_iload_n C0 hl 2 d_LM_leastFlitchWith_2 rfl rfl ?_
    refine lv_iconst (v := 4) C0.1 C0.2.1 d_LM_leastFlitchWith_3 (by decide) ?_
    refine x_icmp_ge C0 24 d_LM_leastFlitchWith_4 (by decide) h (fun h => ?_) (fun h => ?_)
    · cases h
      exact K.1 rfl ls (x_sub hl [0, 1, 2] rfl)
    · refine x_aload_n C0 hl 0 d_LM_leastFlitchWith_7 rfl rfl ?_
      refine x_iload_n C0 hl 2 d_LM_leastFlitchWith_8 rfl rfl ?_
      obtain ⟨b_2, e9, h⟩ := Option.bind_eq_some_iff.mp h
      obtain ⟨e8, fs9, hb9⟩ := xo_inv e9
      obtain ⟨q_1, e9, h⟩ := Option.bind_eq_some_iff.mp h
      refine x_callP (va_runV (As := [.int x2]) (rest := []) C0 (c_LM_countFree l G w _ b_2 x2 q_1 e9) (x_cwV 1 C0 kw_2_69 kw_2_72 kw_1_1 kw_2_71 kw_0_4 (by decide +kernel) (x_rm hR1 hR2 (Nat.le_of_ble_eq_true rfl) (Nat.le_of_ble_eq_true rfl))) (x_preV hE hH hS (ci := 0) rfl hb9) rfl rfl hl.1 (by rw [e8]; rfl) (lv_room (by first | exact Nat.le_of_ble_eq_true rfl | simp only [List.map_cons, List.map_nil, List.sum_cons, List.sum_nil, va_rf_cat, x_catI, x_catL, x_catA] <;> decide)) d_LM_leastFlitchWith_9 (x_le0 hR3 hR4)) ?_
      refine x_iload_n C0 hl 1 d_LM_leastFlitchWith_12 rfl rfl ?_
      refine x_icmp_lt C0 18 d_LM_leastFlitchWith_13 (by decide) h (fun h => ?_) (fun h => ?_)
      · refine x_iinc (v := 1) (lv' := [(2, .inl (x2 + 1)), (0, .inr (.inl (some h0))), (1, .inl x1)]) C0 hl 2 d_LM_leastFlitchWith_18 rfl (by decide) (by decide) rfl (fun ls hl => ?_)
        refine x_goto C0 2 d_LM_leastFlitchWith_21 (by decide) ?_
        exact ih _ q ls (x_sub hl [1, 2, 0] rfl) h K
      · cases h
        exact K.2 rfl ls (x_sub hl [0, 1, 2] rfl)
def f_LM_leastFlitchWith (w : Mp) (h0 : Nat) (x1 : Int32) : Option (Int32) := (f_LM_leastFlitchWith_L2 w h0 x1 100000 (0 : Int32)).bind fun q_3 => if q_3.1 = 0 then (some (-1 : Int32)) else (if q_3.1 = 1 then (some q_3.2) else (none))
set_option maxHeartbeats 4000000 in
set_option maxRecDepth 100000 in
theorem c_LM_leastFlitchWith (l : Launch) (G : Gx) (w : Mp) (sz : Nat) (h0 : Nat) (x1 : Int32) (res : Int32) (hf : f_LM_leastFlitchWith w h0 x1 = some res) : Met l y_LM_leastFlitchWith (xws y_LM_leastFlitchWith b_LM_leastFlitchWith 3 (some .int)) { frames := 2, cells := 0, slots := 0, locals := 43 } (xPc G vwCl xaty w sz [va_rf (some h0), .int x1]) (qP (some (.int res))) (0) (0) (fun _ => False) := by
  refine Met.ofW (cc := b_LM_leastFlitchWith) (maxL := 3) (ret := (some .int)) (by decide) rfl ?_
  intro p e s m args below meth c s₁ B hml hv
  obtain ⟨ha, hE, hH, hz⟩ := hv
  have C0 : CallFix p m c b_LM_leastFlitchWith 3 s args wA R_LM := ⟨B.exec, B.bytes, hml, findClass_of_methodNamed B.named, fun w hw => atoms_spec (ws := xws y_LM_leastFlitchWith b_LM_leastFlitchWith 3 (some .int)) B.pre w (List.mem_cons_of_mem _ hw)⟩
  have hr := B.returns
  have hlocks := B.notSynchronized
  obtain ⟨R, hR⟩ : ∃ R, R = (headSpec (xws y_LM_leastFlitchWith b_LM_leastFlitchWith 3 (some .int)) { frames := 2, cells := 0, slots := 0, locals := 43 }).room := ⟨_, rfl⟩
  have hR1 : 2 ≤ R.frames := by rw [hR]; exact Nat.le_of_ble_eq_true rfl
  have hR2 : 43 ≤ R.locals := by rw [hR]; exact Nat.le_of_ble_eq_true rfl
  have hR3 : 0 ≤ R.cells := by rw [hR]; exact Nat.le_refl _
  have hR4 : 0 ≤ R.slots := by rw [hR]; exact Nat.le_refl _
  rw [← hR]
  obtain ⟨Q, hQ⟩ : ∃ Q, Q = MQ below (qP (some (.int res))) args s (0) (0) (fun _ => False) := ⟨_, rfl⟩
  rw [← hQ]
  have hS : xS G s s.heap [] := va_S.rf
  obtain ⟨ls, he, hl⟩ := x_entry m [.inr (.inl (some h0)), .inl x1] 3 (Nat.le_of_ble_eq_true rfl)
  rw [show entryFrame m args 3 = F0 m 0 ls [] by rw [ha]; exact he]
  have hl : xL ls 3 [(0, .inr (.inl (some h0))), (1, .inl x1)] := hl
  have h := hf
  unfold f_LM_leastFlitchWith at h
  suffices hmain : ∀ (H : Heap) (locs : List Loc), xhd G vwCl w H → xS G s H locs → H.size = sz → (H = s.heap ∧ locs = []) → W p l e R s m args below meth c H locs 0 0 Q (F0 m 0 ls []) from hmain _ _ hH hS hz ⟨rfl, rfl⟩
  clear hH hS hz
  intro H locs hH hS hz hP0
  refine lv_iconst (v := 0) C0.1 C0.2.1 d_LM_leastFlitchWith_0 (by decide) ?_
  refine x_istore_n (lv' := [(2, .inl (0 : Int32)), (0, .inr (.inl (some h0))), (1, .inl x1)]) C0 hl d_LM_leastFlitchWith_1 rfl (by decide) rfl (fun ls hl => ?_)
  obtain ⟨q_3, e9, h⟩ := Option.bind_eq_some_iff.mp h
  refine w_LM_leastFlitchWith_L2 C0 hE hR1 hR2 hR3 hR4 hH hS hz 100000 _ q_3 ls (x_sub hl [1, 2, 0] rfl) e9 ⟨fun z9 ls hl => ?_, fun z9 ls hl => ?_⟩
  · rw [if_pos z9] at h
    refine lv_iconst (v := -1) C0.1 C0.2.1 d_LM_leastFlitchWith_24 (by decide) ?_
    cases h
    rw [hQ]
    exact x_iretP C0 hr hlocks hP0 d_LM_leastFlitchWith_25
  · rw [if_neg (by rw [z9]; decide), if_pos z9] at h
    refine x_iload_n C0 hl 2 d_LM_leastFlitchWith_16 rfl rfl ?_
    cases h
    rw [hQ]
    exact x_iretP C0 hr hlocks hP0 d_LM_leastFlitchWith_17
theorem d_LM_isBroken_0 : decode b_LM_isBroken 0 = .ok (.iconst 1, 1) := by decide +kernel
theorem d_LM_isBroken_1 : decode b_LM_isBroken 1 = .ok (.istore_n 2, 1) := by decide +kernel
theorem d_LM_isBroken_2 : decode b_LM_isBroken 2 = .ok (.iload_n 2, 1) := by decide +kernel
theorem d_LM_isBroken_3 : decode b_LM_isBroken 3 = .ok (.iload_n 1, 1) := by decide +kernel
theorem d_LM_isBroken_4 : decode b_LM_isBroken 4 = .ok (.if_icmp .ge 31, 3) := by decide +kernel
theorem d_LM_isBroken_7 : decode b_LM_isBroken 7 = .ok (.aload_n 0, 1) := by decide +kernel
theorem d_LM_isBroken_8 : decode b_LM_isBroken 8 = .ok (.getfield 35, 3) := by decide +kernel
theorem d_LM_isBroken_11 : decode b_LM_isBroken 11 = .ok (.iload_n 2, 1) := by decide +kernel
theorem d_LM_isBroken_12 : decode b_LM_isBroken 12 = .ok (.aaload, 1) := by decide +kernel
theorem d_LM_isBroken_13 : decode b_LM_isBroken 13 = .ok (.aload_n 0, 1) := by decide +kernel
theorem d_LM_isBroken_14 : decode b_LM_isBroken 14 = .ok (.getfield 35, 3) := by decide +kernel
theorem d_LM_isBroken_17 : decode b_LM_isBroken 17 = .ok (.iload_n 2, 1) := by decide +kernel
theorem d_LM_isBroken_18 : decode b_LM_isBroken 18 = .ok (.iconst 1, 1) := by decide +kernel
theorem d_LM_isBroken_19 : decode b_LM_isBroken 19 = .ok (.isub, 1) := by decide +kernel
theorem d_LM_isBroken_20 : decode b_LM_isBroken 20 = .ok (.aaload, 1) := by decide +kernel
theorem d_LM_isBroken_21 : decode b_LM_isBroken 21 = .ok (.invokevirtual 264, 3) := by decide +kernel
theorem d_LM_isBroken_24 : decode b_LM_isBroken 24 = .ok (.ifCond .ne 5, 3) := by decide +kernel
theorem d_LM_isBroken_27 : decode b_LM_isBroken 27 = .ok (.iconst 1, 1) := by decide +kernel
theorem d_LM_isBroken_28 : decode b_LM_isBroken 28 = .ok (.ireturn, 1) := by decide +kernel
theorem d_LM_isBroken_29 : decode b_LM_isBroken 29 = .ok (.iinc 2 1, 3) := by decide +kernel
theorem d_LM_isBroken_32 : decode b_LM_isBroken 32 = .ok (.goto (-30), 3) := by decide +kernel
theorem d_LM_isBroken_35 : decode b_LM_isBroken 35 = .ok (.iconst 0, 1) := by decide +kernel
theorem d_LM_isBroken_36 : decode b_LM_isBroken 36 = .ok (.ireturn, 1) := by decide +kernel
def f_LM_isBroken_L2 (w : Mp) (h0 : Nat) (x1 : Int32) : Nat → Int32 → Option (Nat × Int32)
  | 0, _ => none
  | n + 1, x2 => if x1 ≤ x2 then (some (0, x2)) else ((gR w (some h0) 0 5).bind fun v_1 => (aR w v_1 1 x2).bind fun v_2 => (gR w (some h0) 0 5).bind fun v_3 => (aR w v_3 1 (x2 - (1 : Int32))).bind fun v_4 => (xo w v_2 1).bind fun b_6 => (f_Leaf_follows w b_6 v_4).bind fun q_5 => if q_5 = 0 then (some (1, x2)) else (f_LM_isBroken_L2 w h0 x1 n (x2 + 1)))
set_option maxHeartbeats 4000000 in
set_option maxRecDepth 100000 in
theorem w_LM_isBroken_L2 {p : Program} {l : Launch} {e : Env} {R : Room} {s : State} {m : MethodId} {args : Array Value} {below : List Frame} {meth : Method} {c : Code} {Q : State → Prop} {cells slots sz : Nat} {G : Gx} {h0 : Nat} {x1 : Int32} (C0 : CallFix p m c b_LM_isBroken 3 s args wA R_LM) (hE : xE G vwCl xaty s) (hR1 : 1 ≤ R.frames) (hR2 : 21 ≤ R.locals) (hR3 : cells ≤ R.cells) (hR4 : slots ≤ R.slots) {w : Mp} {H : Heap} {locs : List Loc} (hH : xhd G vwCl w H) (hS : xS G s H locs) (hz : H.size = sz) : ∀ (n : Nat) (x2 : Int32) (q : Nat × Int32) (ls : Array Slot), xL ls 3 [(0, .inr (.inl (some h0))), (1, .inl x1), (2, .inl x2)] → f_LM_isBroken_L2 w h0 x1 n x2 = some q → ((q.1 = 0 → ∀ (ls : Array Slot), xL ls 3 [(0, .inr (.inl (some h0))), (1, .inl x1), (2, .inl q.2)] → W p l e R s m args below meth c H locs cells slots Q (F0 m 35 ls [])) ∧ (q.1 = 1 → ∀ (ls : Array Slot), xL ls 3 [(0, .inr (.inl (some h0))), (1, .inl x1), (2, .inl q.2)] → W p l e R s m args below meth c H locs cells slots Q (F0 m 27 ls []))) → W p l e R s m args below meth c H locs cells slots Q (F0 m 2 ls []) := by
  intro n
  induction n with
  | zero => intro _ q ls hl h; cases h
  | succ n ih =>
    intro x2 q ls hl h K
    rw [f_LM_isBroken_L2] at h
    refine x_iload_n C0 hl 2 d_LM_isBroken_2 rfl rfl ?_
    refine x_iload_n C0 hl 1 d_LM_isBroken_3 rfl rfl ?_
    refine x_icmp_ge C0 35 d_LM_isBroken_4 (by decide) h (fun h => ?_) (fun h => ?_)
    · cases h
      exact K.1 rfl ls (x_sub hl [0, 1, 2] rfl)
    · refine x_aload_n C0 hl 0 d_LM_isBroken_7 rfl rfl ?_
      refine x_getR C0 hE hH (ci := 0) rfl i_LM 5 (by decide) kw_1_80 d_LM_isBroken_8 h (fun v_1 h => ?_)
      refine x_iload_n C0 hl 2 d_LM_isBroken_11 rfl rfl ?_
      refine x_aald C0 hE hH (t := 1) rfl d_LM_isBroken_12 h (fun v_2 h => ?_)
      refine x_aload_n C0 hl 0 d_LM_isBroken_13 rfl rfl ?_
      refine x_getR C0 hE hH (ci := 0) rfl i_LM 5 (by decide) kw_1_80 d_LM_isBroken_14 h (fun v_3 h => ?_)
      refine x_iload_n C0 hl 2 d_LM_isBroken_17 rfl rfl ?_
      refine lv_iconst (v := 1) C0.1 C0.2.1 d_LM_isBroken_18 (by decide) ?_
      refine lv_isub C0.1 C0.2.1 d_LM_isBroken_19 ?_
      refine x_aald C0 hE hH (t := 1) rfl d_LM_isBroken_20 h (fun v_4 h => ?_)
      obtain ⟨b_6, e9, h⟩ := Option.bind_eq_some_iff.mp h
      obtain ⟨e8, fs9, hb9⟩ := xo_inv e9
      obtain ⟨q_5, e9, h⟩ := Option.bind_eq_some_iff.mp h
      refine x_callP (va_runV (As := [va_rf v_4]) (rest := []) C0 (c_Leaf_follows l G w _ b_6 v_4 q_5 e9) (x_cwV 1 C0 kw_2_88 kw_2_91 kw_1_9 kw_2_89 kw_2_90 (by decide +kernel) (x_rm hR1 hR2 (Nat.le_of_ble_eq_true rfl) (Nat.le_of_ble_eq_true rfl))) (x_preV hE hH hS (ci := 1) rfl hb9) rfl rfl hl.1 (by rw [e8]; rfl) (lv_room (by first | exact Nat.le_of_ble_eq_true rfl | simp only [List.map_cons, List.map_nil, List.sum_cons, List.sum_nil, va_rf_cat, x_catI, x_catL, x_catA] <;> decide)) d_LM_isBroken_21 (x_le0 hR3 hR4)) ?_
      refine x_if_ne C0 29 d_LM_isBroken_24 (by decide) h (fun h => ?_) (fun h => ?_)
      · refine x_iinc (v := 1) (lv' := [(2, .inl (x2 + 1)), (0, .inr (.inl (some h0))), (1, .inl x1)]) C0 hl 2 d_LM_isBroken_29 rfl (by decide) (by decide) rfl (fun ls hl => ?_)
        refine x_goto C0 2 d_LM_isBroken_32 (by decide) ?_
        exact ih _ q ls (x_sub hl [1, 2, 0] rfl) h K
      · cases h
        exact K.2 rfl ls (x_sub hl [0, 1, 2] rfl)
def f_LM_isBroken (w : Mp) (h0 : Nat) (x1 : Int32) : Option (Int32) := (f_LM_isBroken_L2 w h0 x1 100000 (1 : Int32)).bind fun q_7 => if q_7.1 = 0 then (some (0 : Int32)) else (if q_7.1 = 1 then (some (1 : Int32)) else (none))
set_option maxHeartbeats 4000000 in
set_option maxRecDepth 100000 in
theorem c_LM_isBroken (l : Launch) (G : Gx) (w : Mp) (sz : Nat) (h0 : Nat) (x1 : Int32) (res : Int32) (hf : f_LM_isBroken w h0 x1 = some res) : Met l y_LM_isBroken (xws y_LM_isBroken b_LM_isBroken 3 (some .boolean)) { frames := 1, cells := 0, slots := 0, locals := 21 } (xPc G vwCl xaty w sz [va_rf (some h0), .int x1]) (qP (some (.int res))) (0) (0) (fun _ => False) := by
  refine Met.ofW (cc := b_LM_isBroken) (maxL := 3) (ret := (some .boolean)) (by decide) rfl ?_
  intro p e s m args below meth c s₁ B hml hv
  obtain ⟨ha, hE, hH, hz⟩ := hv
  have C0 : CallFix p m c b_LM_isBroken 3 s args wA R_LM := ⟨B.exec, B.bytes, hml, findClass_of_methodNamed B.named, fun w hw => atoms_spec (ws := xws y_LM_isBroken b_LM_isBroken 3 (some .boolean)) B.pre w (List.mem_cons_of_mem _ hw)⟩
  have hr := B.returns
  have hlocks := B.notSynchronized
  obtain ⟨R, hR⟩ : ∃ R, R = (headSpec (xws y_LM_isBroken b_LM_isBroken 3 (some .boolean)) { frames := 1, cells := 0, slots := 0, locals := 21 }).room := ⟨_, rfl⟩
  have hR1 : 1 ≤ R.frames := by rw [hR]; exact Nat.le_of_ble_eq_true rfl
  have hR2 : 21 ≤ R.locals := by rw [hR]; exact Nat.le_of_ble_eq_true rfl
  have hR3 : 0 ≤ R.cells := by rw [hR]; exact Nat.le_refl _
  have hR4 : 0 ≤ R.slots := by rw [hR]; exact Nat.le_refl _
  rw [← hR]
  obtain ⟨Q, hQ⟩ : ∃ Q, Q = MQ below (qP (some (.int res))) args s (0) (0) (fun _ => False) := ⟨_, rfl⟩
  rw [← hQ]
  have hS : xS G s s.heap [] := va_S.rf
  obtain ⟨ls, he, hl⟩ := x_entry m [.inr (.inl (some h0)), .inl x1] 3 (Nat.le_of_ble_eq_true rfl)
  rw [show entryFrame m args 3 = F0 m 0 ls [] by rw [ha]; exact he]
  have hl : xL ls 3 [(0, .inr (.inl (some h0))), (1, .inl x1)] := hl
  have h := hf
  unfold f_LM_isBroken at h
  suffices hmain : ∀ (H : Heap) (locs : List Loc), xhd G vwCl w H → xS G s H locs → H.size = sz → (H = s.heap ∧ locs = []) → W p l e R s m args below meth c H locs 0 0 Q (F0 m 0 ls []) from hmain _ _ hH hS hz ⟨rfl, rfl⟩
  clear hH hS hz
  intro H locs hH hS hz hP0
  refine lv_iconst (v := 1) C0.1 C0.2.1 d_LM_isBroken_0 (by decide) ?_
  refine x_istore_n (lv' := [(2, .inl (1 : Int32)), (0, .inr (.inl (some h0))), (1, .inl x1)]) C0 hl d_LM_isBroken_1 rfl (by decide) rfl (fun ls hl => ?_)
  obtain ⟨q_7, e9, h⟩ := Option.bind_eq_some_iff.mp h
  refine w_LM_isBroken_L2 C0 hE hR1 hR2 hR3 hR4 hH hS hz 100000 _ q_7 ls (x_sub hl [1, 2, 0] rfl) e9 ⟨fun z9 ls hl => ?_, fun z9 ls hl => ?_⟩
  · rw [if_pos z9] at h
    refine lv_iconst (v := 0) C0.1 C0.2.1 d_LM_isBroken_35 (by decide) ?_
    cases h
    rw [hQ]
    exact x_zretP C0 hr hlocks hP0 rfl d_LM_isBroken_36
  · rw [if_neg (by rw [z9]; decide), if_pos z9] at h
    refine lv_iconst (v := 1) C0.1 C0.2.1 d_LM_isBroken_27 (by decide) ?_
    cases h
    rw [hQ]
    exact x_zretP C0 hr hlocks hP0 rfl d_LM_isBroken_28
