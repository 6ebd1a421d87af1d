theorem kw_1_217 : (Jvm.Cond.fieldLink "LeafMatches$Piece" (27 : Nat) "LeafMatches$Leaf" "width" "I") ∈ wA := ku_1 217 rfl rfl
theorem kw_1_221 : (Jvm.Cond.fieldLink "LeafMatches$Piece" (32 : Nat) "LeafMatches$Leaf" "height" "I") ∈ wA := ku_1 221 rfl rfl
theorem kw_2_104 : (Jvm.Cond.fieldLink "LeafMatches$Piece" (16 : Nat) "LeafMatches$Piece" "leaf" "LLeafMatches$Leaf;") ∈ wA := ku_2 104 rfl rfl
theorem kw_2_107 : (Jvm.Cond.fieldLink "LeafMatches$Piece" (20 : Nat) "LeafMatches$Piece" "isMirrored" "Z") ∈ wA := ku_2 107 rfl rfl
theorem kw_2_109 : (Jvm.Cond.fieldLink "LeafMatches$Piece" (24 : Nat) "LeafMatches$Piece" "isTurned" "Z") ∈ wA := ku_2 109 rfl rfl
theorem kw_2_111 : (Jvm.Cond.fieldLink "LeafMatches$Piece" (7 : Nat) "LeafMatches$Piece" "begin" "I") ∈ wA := ku_2 111 rfl rfl
theorem kw_2_114 : (Jvm.Cond.fieldLink "LeafMatches$Piece" (13 : Nat) "LeafMatches$Piece" "top" "I") ∈ wA := ku_2 114 rfl rfl
theorem kw_2_192 : (Jvm.Cond.methodLink "LeafMatches$Piece" (35 : Nat) ({ cls := "LeafMatches$Leaf", name := "greyOrNone", desc := "(II)I" } : Jvm.MethodName)) ∈ wA := ku_2 192 rfl rfl
theorem kw_2_193 : (Jvm.Cond.instanceMethod ({ cls := "LeafMatches$Leaf", name := "greyOrNone", desc := "(II)I" } : Jvm.MethodName)) ∈ wA := ku_2 193 rfl rfl
theorem kw_2_194 : (Jvm.Cond.selects "LeafMatches$Leaf" ({ cls := "LeafMatches$Leaf", name := "greyOrNone", desc := "(II)I" } : Jvm.MethodName) ({ cls := "LeafMatches$Leaf", name := "greyOrNone", desc := "(II)I" } : Jvm.MethodName)) ∈ wA := ku_2 194 rfl rfl
theorem kw_2_195 : (Jvm.Cond.code ({ cls := "LeafMatches$Leaf", name := "greyOrNone", desc := "(II)I" } : Jvm.MethodName) prog_3_method_5_code (3 : Nat) (Option.some Jvm.ClassFile.FieldType.int)) ∈ wA := ku_2 195 rfl rfl
theorem d_Piece_end_0 : decode b_Piece_end 0 = .ok (.aload_n 0, 1) := by decide +kernel
theorem d_Piece_end_1 : decode b_Piece_end 1 = .ok (.getfield 7, 3) := by decide +kernel
theorem d_Piece_end_4 : decode b_Piece_end 4 = .ok (.aload_n 0, 1) := by decide +kernel
theorem d_Piece_end_5 : decode b_Piece_end 5 = .ok (.getfield 16, 3) := by decide +kernel
theorem d_Piece_end_8 : decode b_Piece_end 8 = .ok (.getfield 27, 3) := by decide +kernel
theorem d_Piece_end_11 : decode b_Piece_end 11 = .ok (.iadd, 1) := by decide +kernel
theorem d_Piece_end_12 : decode b_Piece_end 12 = .ok (.ireturn, 1) := by decide +kernel
def f_Piece_end (w : Mp) (h0 : Nat) : Option (Int32) := (gI w (some h0) 2 3).bind fun v_1 => (gR w (some h0) 2 0).bind fun v_2 => (gI w v_2 1 3).bind fun v_3 => some (v_1 + v_3)
set_option maxHeartbeats 4000000 in
set_option maxRecDepth 100000 in
theorem c_Piece_end (l : Launch) (G : Gx) (w : Mp) (sz : Nat) (h0 : Nat) (res : Int32) (hf : f_Piece_end w h0 = some res) : Met l y_Piece_end (xws y_Piece_end b_Piece_end 1 (some .int)) { frames := 0, cells := 0, slots := 0, locals := 0 } (xPc G vwCl xaty w sz [va_rf (some h0)]) (qP (some (.int res))) (0) (0) (fun _ => False) := by
  refine Met.ofW (cc := b_Piece_end) (maxL := 1) (ret := (some .int)) (by decide) rfl ?_
  intro p e s m args below meth c s₁ B hml hv
  obtain ⟨ha, hE, hH, hz⟩ := hv
  have C0 : CallFix p m c b_Piece_end 1 s args wA R_Piece := ⟨B.exec, B.bytes, hml, findClass_of_methodNamed B.named, fun w hw => atoms_spec (ws := xws y_Piece_end b_Piece_end 1 (some .int)) B.pre w (List.mem_cons_of_mem _ hw)⟩
  have hr := B.returns
  have hlocks := B.notSynchronized
  obtain ⟨R, hR⟩ : ∃ R, R = (headSpec (xws y_Piece_end b_Piece_end 1 (some .int)) { frames := 0, cells := 0, slots := 0, locals := 0 }).room := ⟨_, rfl⟩
  have hR1 : 0 ≤ R.frames := by rw [hR]; exact Nat.le_of_ble_eq_true rfl
  have hR2 : 0 ≤ R.locals := by rw [hR]; exact Nat.le_of_ble_eq_true rfl
  have hR3 : 0 ≤ R.cells := by rw [hR]; exact Nat.le_refl _
  have hR4 : 0 ≤ R.slots := by rw [hR]; exact Nat.le_refl _
  rw [← hR]
  obtain ⟨Q, hQ⟩ : ∃ Q, Q = MQ below (qP (some (.int res))) args s (0) (0) (fun _ => False) := ⟨_, rfl⟩
  rw [← hQ]
  have hS : xS G s s.heap [] := va_S.rf
  obtain ⟨ls, he, hl⟩ := x_entry m [.inr (.inl (some h0))] 1 (Nat.le_of_ble_eq_true rfl)
  rw [show entryFrame m args 1 = F0 m 0 ls [] by rw [ha]; exact he]
  have hl : xL ls 1 [(0, .inr (.inl (some h0)))] := hl
  have h := hf
  unfold f_Piece_end at h
  suffices hmain : ∀ (H : Heap) (locs : List Loc), xhd G vwCl w H → xS G s H locs → H.size = sz → (H = s.heap ∧ locs = []) → W p l e R s m args below meth c H locs 0 0 Q (F0 m 0 ls []) from hmain _ _ hH hS hz ⟨rfl, rfl⟩
  clear hH hS hz
  intro H locs hH hS hz hP0
  refine x_aload_n C0 hl 0 d_Piece_end_0 rfl rfl ?_
  refine x_getI C0 hE hH (ci := 2) rfl i_Piece 3 (by decide) kw_2_111 d_Piece_end_1 h (fun v_1 h => ?_)
  refine x_aload_n C0 hl 0 d_Piece_end_4 rfl rfl ?_
  refine x_getR C0 hE hH (ci := 2) rfl i_Piece 0 (by decide) kw_2_104 d_Piece_end_5 h (fun v_2 h => ?_)
  refine x_getI C0 hE hH (ci := 1) rfl i_Leaf 3 (by decide) kw_1_217 d_Piece_end_8 h (fun v_3 h => ?_)
  refine lv_iadd C0.1 C0.2.1 d_Piece_end_11 ?_
  cases h
  rw [hQ]
  exact x_iretP C0 hr hlocks hP0 d_Piece_end_12
theorem d_Piece_bottom_0 : decode b_Piece_bottom 0 = .ok (.aload_n 0, 1) := by decide +kernel
theorem d_Piece_bottom_1 : decode b_Piece_bottom 1 = .ok (.getfield 13, 3) := by decide +kernel
theorem d_Piece_bottom_4 : decode b_Piece_bottom 4 = .ok (.aload_n 0, 1) := by decide +kernel
theorem d_Piece_bottom_5 : decode b_Piece_bottom 5 = .ok (.getfield 16, 3) := by decide +kernel
theorem d_Piece_bottom_8 : decode b_Piece_bottom 8 = .ok (.getfield 32, 3) := by decide +kernel
theorem d_Piece_bottom_11 : decode b_Piece_bottom 11 = .ok (.iadd, 1) := by decide +kernel
theorem d_Piece_bottom_12 : decode b_Piece_bottom 12 = .ok (.ireturn, 1) := by decide +kernel
def f_Piece_bottom (w : Mp) (h0 : Nat) : Option (Int32) := (gI w (some h0) 2 4).bind fun v_1 => (gR w (some h0) 2 0).bind fun v_2 => (gI w v_2 1 4).bind fun v_3 => some (v_1 + v_3)
set_option maxHeartbeats 4000000 in
set_option maxRecDepth 100000 in
theorem c_Piece_bottom (l : Launch) (G : Gx) (w : Mp) (sz : Nat) (h0 : Nat) (res : Int32) (hf : f_Piece_bottom w h0 = some res) : Met l y_Piece_bottom (xws y_Piece_bottom b_Piece_bottom 1 (some .int)) { frames := 0, cells := 0, slots := 0, locals := 0 } (xPc G vwCl xaty w sz [va_rf (some h0)]) (qP (some (.int res))) (0) (0) (fun _ => False) := by
  refine Met.ofW (cc := b_Piece_bottom) (maxL := 1) (ret := (some .int)) (by decide) rfl ?_
  intro p e s m args below meth c s₁ B hml hv
  obtain ⟨ha, hE, hH, hz⟩ := hv
  have C0 : CallFix p m c b_Piece_bottom 1 s args wA R_Piece := ⟨B.exec, B.bytes, hml, findClass_of_methodNamed B.named, fun w hw => atoms_spec (ws := xws y_Piece_bottom b_Piece_bottom 1 (some .int)) B.pre w (List.mem_cons_of_mem _ hw)⟩
  have hr := B.returns
  have hlocks := B.notSynchronized
  obtain ⟨R, hR⟩ : ∃ R, R = (headSpec (xws y_Piece_bottom b_Piece_bottom 1 (some .int)) { frames := 0, cells := 0, slots := 0, locals := 0 }).room := ⟨_, rfl⟩
  have hR1 : 0 ≤ R.frames := by rw [hR]; exact Nat.le_of_ble_eq_true rfl
  have hR2 : 0 ≤ R.locals := by rw [hR]; exact Nat.le_of_ble_eq_true rfl
  have hR3 : 0 ≤ R.cells := by rw [hR]; exact Nat.le_refl _
  have hR4 : 0 ≤ R.slots := by rw [hR]; exact Nat.le_refl _
  rw [← hR]
  obtain ⟨Q, hQ⟩ : ∃ Q, Q = MQ below (qP (some (.int res))) args s (0) (0) (fun _ => False) := ⟨_, rfl⟩
  rw [← hQ]
  have hS : xS G s s.heap [] := va_S.rf
  obtain ⟨ls, he, hl⟩ := x_entry m [.inr (.inl (some h0))] 1 (Nat.le_of_ble_eq_true rfl)
  rw [show entryFrame m args 1 = F0 m 0 ls [] by rw [ha]; exact he]
  have hl : xL ls 1 [(0, .inr (.inl (some h0)))] := hl
  have h := hf
  unfold f_Piece_bottom at h
  suffices hmain : ∀ (H : Heap) (locs : List Loc), xhd G vwCl w H → xS G s H locs → H.size = sz → (H = s.heap ∧ locs = []) → W p l e R s m args below meth c H locs 0 0 Q (F0 m 0 ls []) from hmain _ _ hH hS hz ⟨rfl, rfl⟩
  clear hH hS hz
  intro H locs hH hS hz hP0
  refine x_aload_n C0 hl 0 d_Piece_bottom_0 rfl rfl ?_
  refine x_getI C0 hE hH (ci := 2) rfl i_Piece 4 (by decide) kw_2_114 d_Piece_bottom_1 h (fun v_1 h => ?_)
  refine x_aload_n C0 hl 0 d_Piece_bottom_4 rfl rfl ?_
  refine x_getR C0 hE hH (ci := 2) rfl i_Piece 0 (by decide) kw_2_104 d_Piece_bottom_5 h (fun v_2 h => ?_)
  refine x_getI C0 hE hH (ci := 1) rfl i_Leaf 4 (by decide) kw_1_221 d_Piece_bottom_8 h (fun v_3 h => ?_)
  refine lv_iadd C0.1 C0.2.1 d_Piece_bottom_11 ?_
  cases h
  rw [hQ]
  exact x_iretP C0 hr hlocks hP0 d_Piece_bottom_12
theorem d_Piece_greyShown_0 : decode b_Piece_greyShown 0 = .ok (.aload_n 0, 1) := by decide +kernel
theorem d_Piece_greyShown_1 : decode b_Piece_greyShown 1 = .ok (.getfield 20, 3) := by decide +kernel
theorem d_Piece_greyShown_4 : decode b_Piece_greyShown 4 = .ok (.ifCond .eq 17, 3) := by decide +kernel
theorem d_Piece_greyShown_7 : decode b_Piece_greyShown 7 = .ok (.aload_n 0, 1) := by decide +kernel
theorem d_Piece_greyShown_8 : decode b_Piece_greyShown 8 = .ok (.getfield 16, 3) := by decide +kernel
theorem d_Piece_greyShown_11 : decode b_Piece_greyShown 11 = .ok (.getfield 27, 3) := by decide +kernel
theorem d_Piece_greyShown_14 : decode b_Piece_greyShown 14 = .ok (.iconst 1, 1) := by decide +kernel
theorem d_Piece_greyShown_15 : decode b_Piece_greyShown 15 = .ok (.isub, 1) := by decide +kernel
theorem d_Piece_greyShown_16 : decode b_Piece_greyShown 16 = .ok (.iload_n 1, 1) := by decide +kernel
theorem d_Piece_greyShown_17 : decode b_Piece_greyShown 17 = .ok (.isub, 1) := by decide +kernel
theorem d_Piece_greyShown_18 : decode b_Piece_greyShown 18 = .ok (.goto 4, 3) := by decide +kernel
theorem d_Piece_greyShown_21 : decode b_Piece_greyShown 21 = .ok (.iload_n 1, 1) := by decide +kernel
theorem d_Piece_greyShown_22 : decode b_Piece_greyShown 22 = .ok (.istore_n 3, 1) := by decide +kernel
theorem d_Piece_greyShown_23 : decode b_Piece_greyShown 23 = .ok (.aload_n 0, 1) := by decide +kernel
theorem d_Piece_greyShown_24 : decode b_Piece_greyShown 24 = .ok (.getfield 24, 3) := by decide +kernel
theorem d_Piece_greyShown_27 : decode b_Piece_greyShown 27 = .ok (.ifCond .eq 17, 3) := by decide +kernel
theorem d_Piece_greyShown_30 : decode b_Piece_greyShown 30 = .ok (.aload_n 0, 1) := by decide +kernel
theorem d_Piece_greyShown_31 : decode b_Piece_greyShown 31 = .ok (.getfield 16, 3) := by decide +kernel
theorem d_Piece_greyShown_34 : decode b_Piece_greyShown 34 = .ok (.getfield 32, 3) := by decide +kernel
theorem d_Piece_greyShown_37 : decode b_Piece_greyShown 37 = .ok (.iconst 1, 1) := by decide +kernel
theorem d_Piece_greyShown_38 : decode b_Piece_greyShown 38 = .ok (.isub, 1) := by decide +kernel
theorem d_Piece_greyShown_39 : decode b_Piece_greyShown 39 = .ok (.iload_n 2, 1) := by decide +kernel
theorem d_Piece_greyShown_40 : decode b_Piece_greyShown 40 = .ok (.isub, 1) := by decide +kernel
theorem d_Piece_greyShown_41 : decode b_Piece_greyShown 41 = .ok (.goto 4, 3) := by decide +kernel
theorem d_Piece_greyShown_44 : decode b_Piece_greyShown 44 = .ok (.iload_n 2, 1) := by decide +kernel
theorem d_Piece_greyShown_45 : decode b_Piece_greyShown 45 = .ok (.istore 4, 2) := by decide +kernel
theorem d_Piece_greyShown_47 : decode b_Piece_greyShown 47 = .ok (.aload_n 0, 1) := by decide +kernel
theorem d_Piece_greyShown_48 : decode b_Piece_greyShown 48 = .ok (.getfield 16, 3) := by decide +kernel
theorem d_Piece_greyShown_51 : decode b_Piece_greyShown 51 = .ok (.iload_n 3, 1) := by decide +kernel
theorem d_Piece_greyShown_52 : decode b_Piece_greyShown 52 = .ok (.iload 4, 2) := by decide +kernel
theorem d_Piece_greyShown_54 : decode b_Piece_greyShown 54 = .ok (.invokevirtual 35, 3) := by decide +kernel
theorem d_Piece_greyShown_57 : decode b_Piece_greyShown 57 = .ok (.ireturn, 1) := by decide +kernel
def f_Piece_greyShown (w : Mp) (h0 : Nat) (x1 : Int32) (x2 : Int32) : Option (Int32) := (gI w (some h0) 2 1).bind fun v_1 => xJ1 (fun (x_2 : Int32) => (gI w (some h0) 2 2).bind fun v_4 => xJ1 (fun (x_5 : Int32) => (gR w (some h0) 2 0).bind fun v_7 => (xo w v_7 1).bind fun b_9 => (f_Leaf_greyOrNone w b_9 x_2 x_5).bind fun q_8 => some q_8) fun J_6 => if v_4 = 0 then (J_6 x2) else ((gR w (some h0) 2 0).bind fun v_10 => (gI w v_10 1 4).bind fun v_11 => J_6 ((v_11 - (1 : Int32)) - x2))) fun J_3 => if v_1 = 0 then (J_3 x1) else ((gR w (some h0) 2 0).bind fun v_12 => (gI w v_12 1 3).bind fun v_13 => J_3 ((v_13 - (1 : Int32)) - x1))
set_option maxHeartbeats 4000000 in
set_option maxRecDepth 100000 in
theorem c_Piece_greyShown (l : Launch) (G : Gx) (w : Mp) (sz : Nat) (h0 : Nat) (x1 : Int32) (x2 : Int32) (res : Int32) (hf : f_Piece_greyShown w h0 x1 x2 = some res) : Met l y_Piece_greyShown (xws y_Piece_greyShown b_Piece_greyShown 5 (some .int)) { frames := 2, cells := 0, slots := 0, locals := 44 } (xPc G vwCl xaty w sz [va_rf (some h0), .int x1, .int x2]) (qP (some (.int res))) (0) (0) (fun _ => False) := by
  refine Met.ofW (cc := b_Piece_greyShown) (maxL := 5) (ret := (some .int)) (by decide) rfl ?_
  intro p e s m args below meth c s₁ B hml hv
  obtain ⟨ha, hE, hH, hz⟩ := hv
  have C0 : CallFix p m c b_Piece_greyShown 5 s args wA R_Piece := ⟨B.exec, B.bytes, hml, findClass_of_methodNamed B.named, fun w hw => atoms_spec (ws := xws y_Piece_greyShown b_Piece_greyShown 5 (some .int)) B.pre w (List.mem_cons_of_mem _ hw)⟩
  have hr := B.returns
  have hlocks := B.notSynchronized
  obtain ⟨R, hR⟩ : ∃ R, R = (headSpec (xws y_Piece_greyShown b_Piece_greyShown 5 (some .int)) { frames := 2, cells := 0, slots := 0, locals := 44 }).room := ⟨_, rfl⟩
  have hR1 : 2 ≤ R.frames := by rw [hR]; exact Nat.le_of_ble_eq_true rfl
  have hR2 : 44 ≤ R.locals := by rw [hR]; exact Nat.le_of_ble_eq_true rfl
  have hR3 : 0 ≤ R.cells := by rw [hR]; exact Nat.le_refl _
  have hR4 : 0 ≤ R.slots := by rw [hR]; exact Nat.le_refl _
  rw [← hR]
  obtain ⟨Q, hQ⟩ : ∃ Q, Q = MQ below (qP (some (.int res))) args s (0) (0) (fun _ => False) := ⟨_, rfl⟩
  rw [← hQ]
  have hS : xS G s s.heap [] := va_S.rf
  obtain ⟨ls, he, hl⟩ := x_entry m [.inr (.inl (some h0)), .inl x1, .inl x2] 5 (Nat.le_of_ble_eq_true rfl)
  rw [show entryFrame m args 5 = F0 m 0 ls [] by rw [ha]; exact he]
  have hl : xL ls 5 [(0, .inr (.inl (some h0))), (1, .inl x1), (2, .inl x2)] := hl
  have h := hf
  unfold f_Piece_greyShown at h
  suffices hmain : ∀ (H : Heap) (locs : List Loc), xhd G vwCl w H → xS G s H locs → H.size = sz → (H = s.heap ∧ locs = []) → W p l e R s m args below meth c H locs 0 0 Q (F0 m 0 ls []) from hmain _ _ hH hS hz ⟨rfl, rfl⟩
  clear hH hS hz
  intro H locs hH hS hz hP0
  refine x_aload_n C0 hl 0 d_Piece_greyShown_0 rfl rfl ?_
  refine x_getI C0 hE hH (ci := 2) rfl i_Piece 1 (by decide) kw_2_107 d_Piece_greyShown_1 h (fun v_1 h => ?_)
  refine xj1 h (fun J_3 eJ_3 h => ?_)
  have kJ_3 : ∀ (x_2 : Int32) (ls : Array Slot), xL ls 5 [(0, .inr (.inl (some h0))), (2, .inl x2)] → J_3 x_2 = some res → W p l e R s m args below meth c H locs 0 0 Q (F0 m 22 ls [.int x_2]) := by
    intro x_2 ls hl h
    rw [eJ_3] at h
    refine x_istore_n (lv' := [(3, .inl x_2), (0, .inr (.inl (some h0))), (2, .inl x2)]) C0 hl d_Piece_greyShown_22 rfl (by decide) rfl (fun ls hl => ?_)
    refine x_aload_n C0 hl 1 d_Piece_greyShown_23 rfl rfl ?_
    refine x_getI C0 hE hH (ci := 2) rfl i_Piece 2 (by decide) kw_2_109 d_Piece_greyShown_24 h (fun v_4 h => ?_)
    refine xj1 h (fun J_6 eJ_6 h => ?_)
    have kJ_6 : ∀ (x_5 : Int32) (ls : Array Slot), xL ls 5 [(0, .inr (.inl (some h0))), (3, .inl x_2)] → J_6 x_5 = some res → W p l e R s m args below meth c H locs 0 0 Q (F0 m 45 ls [.int x_5]) := by
      intro x_5 ls hl h
      rw [eJ_6] at h
      refine x_istore (lv' := [(4, .inl x_5), (0, .inr (.inl (some h0))), (3, .inl x_2)]) C0 hl d_Piece_greyShown_45 (by decide) rfl (fun ls hl => ?_)
      refine x_aload_n C0 hl 1 d_Piece_greyShown_47 rfl rfl ?_
      refine x_getR C0 hE hH (ci := 2) rfl i_Piece 0 (by decide) kw_2_104 d_Piece_greyShown_48 h (fun v_7 h => ?_)
      refine x_iload_n C0 hl 2 d_Piece_greyShown_51 rfl rfl ?_
      refine x_iload C0 hl 0 d_Piece_greyShown_52 rfl ?_
      obtain ⟨b_9, e9, h⟩ := Option.bind_eq_some_iff.mp h
      obtain ⟨e8, fs9, hb9⟩ := xo_inv e9
      obtain ⟨q_8, e9, h⟩ := Option.bind_eq_some_iff.mp h
      refine x_callP (va_runV (As := [.int x_2, .int x_5]) (rest := []) C0 (c_Leaf_greyOrNone l G w _ b_9 x_2 x_5 q_8 e9) (x_cwV 2 C0 kw_2_192 kw_2_195 kw_1_9 kw_2_193 kw_2_194 (by decide +kernel) (x_rm hR1 hR2 (Nat.le_of_ble_eq_true rfl) (Nat.le_of_ble_eq_true rfl))) (x_preV hE hH hS (ci := 1) rfl hb9) rfl rfl hl.1 (by rw [e8]; rfl) (lv_room (by first | exact Nat.le_of_ble_eq_true rfl | simp only [List.map_cons, List.map_nil, List.sum_cons, List.sum_nil, va_rf_cat, x_catI, x_catL, x_catA] <;> decide)) d_Piece_greyShown_54 (x_le0 hR3 hR4)) ?_
      cases h
      rw [hQ]
      exact x_iretP C0 hr hlocks hP0 d_Piece_greyShown_57
    refine x_if_eq C0 44 d_Piece_greyShown_27 (by decide) h (fun h => ?_) (fun h => ?_)
    · refine x_iload_n C0 hl 2 d_Piece_greyShown_44 rfl rfl ?_
      exact kJ_6 _ ls (x_sub hl [1, 0] rfl) h
    · refine x_aload_n C0 hl 1 d_Piece_greyShown_30 rfl rfl ?_
      refine x_getR C0 hE hH (ci := 2) rfl i_Piece 0 (by decide) kw_2_104 d_Piece_greyShown_31 h (fun v_10 h => ?_)
      refine x_getI C0 hE hH (ci := 1) rfl i_Leaf 4 (by decide) kw_1_221 d_Piece_greyShown_34 h (fun v_11 h => ?_)
      refine lv_iconst (v := 1) C0.1 C0.2.1 d_Piece_greyShown_37 (by decide) ?_
      refine lv_isub C0.1 C0.2.1 d_Piece_greyShown_38 ?_
      refine x_iload_n C0 hl 2 d_Piece_greyShown_39 rfl rfl ?_
      refine lv_isub C0.1 C0.2.1 d_Piece_greyShown_40 ?_
      refine x_goto C0 45 d_Piece_greyShown_41 (by decide) ?_
      exact kJ_6 _ ls (x_sub hl [1, 0] rfl) h
  refine x_if_eq C0 21 d_Piece_greyShown_4 (by decide) h (fun h => ?_) (fun h => ?_)
  · refine x_iload_n C0 hl 1 d_Piece_greyShown_21 rfl rfl ?_
    exact kJ_3 _ ls (x_sub hl [0, 2] rfl) h
  · refine x_aload_n C0 hl 0 d_Piece_greyShown_7 rfl rfl ?_
    refine x_getR C0 hE hH (ci := 2) rfl i_Piece 0 (by decide) kw_2_104 d_Piece_greyShown_8 h (fun v_12 h => ?_)
    refine x_getI C0 hE hH (ci := 1) rfl i_Leaf 3 (by decide) kw_1_217 d_Piece_greyShown_11 h (fun v_13 h => ?_)
    refine lv_iconst (v := 1) C0.1 C0.2.1 d_Piece_greyShown_14 (by decide) ?_
    refine lv_isub C0.1 C0.2.1 d_Piece_greyShown_15 ?_
    refine x_iload_n C0 hl 1 d_Piece_greyShown_16 rfl rfl ?_
    refine lv_isub C0.1 C0.2.1 d_Piece_greyShown_17 ?_
    refine x_goto C0 22 d_Piece_greyShown_18 (by decide) ?_
    exact kJ_3 _ ls (x_sub hl [0, 2] rfl) h
