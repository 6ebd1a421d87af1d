theorem kw_1_9 : (Jvm.Cond.initialized "LeafMatches$Leaf") ∈ wA := ku_1 9 rfl rfl
theorem kw_1_214 : (Jvm.Cond.fieldLink "LeafMatches$Leaf" (25 : Nat) "LeafMatches$Leaf" "number" "I") ∈ wA := ku_1 214 rfl rfl
theorem kw_1_216 : (Jvm.Cond.fieldLink "LeafMatches$Leaf" (28 : Nat) "LeafMatches$Leaf" "width" "I") ∈ wA := ku_1 216 rfl rfl
theorem kw_1_220 : (Jvm.Cond.fieldLink "LeafMatches$Leaf" (31 : Nat) "LeafMatches$Leaf" "height" "I") ∈ wA := ku_1 220 rfl rfl
theorem kw_1_223 : (Jvm.Cond.fieldLink "LeafMatches$Leaf" (34 : Nat) "LeafMatches$Leaf" "greys" "[I") ∈ wA := ku_1 223 rfl rfl
theorem kw_1_224 : (Jvm.Cond.fieldLink "LeafMatches$Leaf" (9 : Nat) "LeafMatches$Leaf" "order" "I") ∈ wA := ku_1 224 rfl rfl
theorem kw_1_226 : (Jvm.Cond.fieldLink "LeafMatches$Leaf" (15 : Nat) "LeafMatches$Leaf" "used" "Z") ∈ wA := ku_1 226 rfl rfl
theorem kw_2_23 : (Jvm.Cond.instanceMethod ({ cls := "LeafMatches$Leaf", name := "holds", desc := "(II)Z" } : Jvm.MethodName)) ∈ wA := ku_2 23 rfl rfl
theorem kw_2_24 : (Jvm.Cond.selects "LeafMatches$Leaf" ({ cls := "LeafMatches$Leaf", name := "holds", desc := "(II)Z" } : Jvm.MethodName) ({ cls := "LeafMatches$Leaf", name := "holds", desc := "(II)Z" } : Jvm.MethodName)) ∈ wA := ku_2 24 rfl rfl
theorem kw_2_25 : (Jvm.Cond.code ({ cls := "LeafMatches$Leaf", name := "holds", desc := "(II)Z" } : Jvm.MethodName) prog_3_method_4_code (3 : Nat) (Option.some Jvm.ClassFile.FieldType.boolean)) ∈ wA := ku_2 25 rfl rfl
theorem kw_2_196 : (Jvm.Cond.methodLink "LeafMatches$Leaf" (38 : Nat) ({ cls := "LeafMatches$Leaf", name := "holds", desc := "(II)Z" } : Jvm.MethodName)) ∈ wA := ku_2 196 rfl rfl
theorem d_Leaf_isFree_0 : decode b_Leaf_isFree 0 = .ok (.aload_n 0, 1) := by decide +kernel
theorem d_Leaf_isFree_1 : decode b_Leaf_isFree 1 = .ok (.getfield 15, 3) := by decide +kernel
theorem d_Leaf_isFree_4 : decode b_Leaf_isFree 4 = .ok (.ifCond .ne 14, 3) := by decide +kernel
theorem d_Leaf_isFree_7 : decode b_Leaf_isFree 7 = .ok (.aload_n 0, 1) := by decide +kernel
theorem d_Leaf_isFree_8 : decode b_Leaf_isFree 8 = .ok (.getfield 9, 3) := by decide +kernel
theorem d_Leaf_isFree_11 : decode b_Leaf_isFree 11 = .ok (.ifCond .ne 7, 3) := by decide +kernel
theorem d_Leaf_isFree_14 : decode b_Leaf_isFree 14 = .ok (.iconst 1, 1) := by decide +kernel
theorem d_Leaf_isFree_15 : decode b_Leaf_isFree 15 = .ok (.goto 4, 3) := by decide +kernel
theorem d_Leaf_isFree_18 : decode b_Leaf_isFree 18 = .ok (.iconst 0, 1) := by decide +kernel
theorem d_Leaf_isFree_19 : decode b_Leaf_isFree 19 = .ok (.ireturn, 1) := by decide +kernel
def f_Leaf_isFree (w : Mp) (h0 : Nat) : Option (Int32) := (gI w (some h0) 1 7).bind fun v_1 => if v_1 = 0 then ((gI w (some h0) 1 6).bind fun v_2 => if v_2 = 0 then (some (1 : Int32)) else (some (0 : Int32))) else (some (0 : Int32))
set_option maxHeartbeats 4000000 in
set_option maxRecDepth 100000 in
theorem c_Leaf_isFree (l : Launch) (G : Gx) (w : Mp) (sz : Nat) (h0 : Nat) (res : Int32) (hf : f_Leaf_isFree w h0 = some res) : Met l y_Leaf_isFree (xws y_Leaf_isFree b_Leaf_isFree 1 (some .boolean)) { frames := 0, cells := 0, slots := 0, locals := 0 } (xPc G vwCl xaty w sz [va_rf (some h0)]) (qP (some (.int res))) (0) (0) (fun _ => False) := by
  refine Met.ofW (cc := b_Leaf_isFree) (maxL := 1) (ret := (some .boolean)) (by decide) rfl ?_
  intro p e s m args below meth c s₁ B hml hv
  obtain ⟨ha, hE, hH, hz⟩ := hv
  have C0 : CallFix p m c b_Leaf_isFree 1 s args wA R_Leaf := ⟨B.exec, B.bytes, hml, findClass_of_methodNamed B.named, fun w hw => atoms_spec (ws := xws y_Leaf_isFree b_Leaf_isFree 1 (some .boolean)) B.pre w (List.mem_cons_of_mem _ hw)⟩
  have hr := B.returns
  have hlocks := B.notSynchronized
  obtain ⟨R, hR⟩ : ∃ R, R = (headSpec (xws y_Leaf_isFree b_Leaf_isFree 1 (some .boolean)) { frames := 0, cells := 0, slots := 0, locals := 0 }).room := ⟨_, rfl⟩
  have hR1 : 0 ≤ R.frames := by rw [hR]; exact Nat.le_of_ble_eq_true rfl
  have hR2 : 0 ≤ R.locals := by rw [hR]; exact Nat.le_of_ble_eq_true rfl
  have hR3 : 0 ≤ R.cells := by rw [hR]; exact Nat.le_refl _
  have hR4 : 0 ≤ R.slots := by rw [hR]; exact Nat.le_refl _
  rw [← hR]
  obtain ⟨Q, hQ⟩ : ∃ Q, Q = MQ below (qP (some (.int res))) args s (0) (0) (fun _ => False) := ⟨_, rfl⟩
  rw [← hQ]
  have hS : xS G s s.heap [] := va_S.rf
  obtain ⟨ls, he, hl⟩ := x_entry m [.inr (.inl (some h0))] 1 (Nat.le_of_ble_eq_true rfl)
  rw [show entryFrame m args 1 = F0 m 0 ls [] by rw [ha]; exact he]
  have hl : xL ls 1 [(0, .inr (.inl (some h0)))] := hl
  have h := hf
  unfold f_Leaf_isFree at h
  suffices hmain : ∀ (H : Heap) (locs : List Loc), xhd G vwCl w H → xS G s H locs → H.size = sz → (H = s.heap ∧ locs = []) → W p l e R s m args below meth c H locs 0 0 Q (F0 m 0 ls []) from hmain _ _ hH hS hz ⟨rfl, rfl⟩
  clear hH hS hz
  intro H locs hH hS hz hP0
  refine x_aload_n C0 hl 0 d_Leaf_isFree_0 rfl rfl ?_
  refine x_getI C0 hE hH (ci := 1) rfl i_Leaf 7 (by decide) kw_1_226 d_Leaf_isFree_1 h (fun v_1 h => ?_)
  refine x_if_ne C0 18 d_Leaf_isFree_4 (by decide) h (fun h => ?_) (fun h => ?_)
  · refine lv_iconst (v := 0) C0.1 C0.2.1 d_Leaf_isFree_18 (by decide) ?_
    cases h
    rw [hQ]
    exact x_zretP C0 hr hlocks hP0 rfl d_Leaf_isFree_19
  · refine x_aload_n C0 hl 0 d_Leaf_isFree_7 rfl rfl ?_
    refine x_getI C0 hE hH (ci := 1) rfl i_Leaf 6 (by decide) kw_1_224 d_Leaf_isFree_8 h (fun v_2 h => ?_)
    refine x_if_ne C0 18 d_Leaf_isFree_11 (by decide) h (fun h => ?_) (fun h => ?_)
    · refine lv_iconst (v := 0) C0.1 C0.2.1 d_Leaf_isFree_18 (by decide) ?_
      cases h
      rw [hQ]
      exact x_zretP C0 hr hlocks hP0 rfl d_Leaf_isFree_19
    · refine lv_iconst (v := 1) C0.1 C0.2.1 d_Leaf_isFree_14 (by decide) ?_
      refine x_goto C0 19 d_Leaf_isFree_15 (by decide) ?_
      cases h
      rw [hQ]
      exact x_zretP C0 hr hlocks hP0 rfl d_Leaf_isFree_19
theorem d_Leaf_follows_0 : decode b_Leaf_follows 0 = .ok (.aload_n 0, 1) := by decide +kernel
theorem d_Leaf_follows_1 : decode b_Leaf_follows 1 = .ok (.getfield 25, 3) := by decide +kernel
theorem d_Leaf_follows_4 : decode b_Leaf_follows 4 = .ok (.aload_n 1, 1) := by decide +kernel
theorem d_Leaf_follows_5 : decode b_Leaf_follows 5 = .ok (.getfield 25, 3) := by decide +kernel
theorem d_Leaf_follows_8 : decode b_Leaf_follows 8 = .ok (.iconst 1, 1) := by decide +kernel
theorem d_Leaf_follows_9 : decode b_Leaf_follows 9 = .ok (.iadd, 1) := by decide +kernel
theorem d_Leaf_follows_10 : decode b_Leaf_follows 10 = .ok (.if_icmp .ne 7, 3) := by decide +kernel
theorem d_Leaf_follows_13 : decode b_Leaf_follows 13 = .ok (.iconst 1, 1) := by decide +kernel
theorem d_Leaf_follows_14 : decode b_Leaf_follows 14 = .ok (.goto 4, 3) := by decide +kernel
theorem d_Leaf_follows_17 : decode b_Leaf_follows 17 = .ok (.iconst 0, 1) := by decide +kernel
theorem d_Leaf_follows_18 : decode b_Leaf_follows 18 = .ok (.ireturn, 1) := by decide +kernel
def f_Leaf_follows (w : Mp) (h0 : Nat) (r1 : Option Nat) : Option (Int32) := (gI w (some h0) 1 2).bind fun v_1 => (gI w r1 1 2).bind fun v_2 => if v_1 = (v_2 + (1 : Int32)) then (some (1 : Int32)) else (some (0 : Int32))
set_option maxHeartbeats 4000000 in
set_option maxRecDepth 100000 in
theorem c_Leaf_follows (l : Launch) (G : Gx) (w : Mp) (sz : Nat) (h0 : Nat) (r1 : Option Nat) (res : Int32) (hf : f_Leaf_follows w h0 r1 = some res) : Met l y_Leaf_follows (xws y_Leaf_follows b_Leaf_follows 2 (some .boolean)) { frames := 0, cells := 0, slots := 0, locals := 0 } (xPc G vwCl xaty w sz [va_rf (some h0), va_rf r1]) (qP (some (.int res))) (0) (0) (fun _ => False) := by
  refine Met.ofW (cc := b_Leaf_follows) (maxL := 2) (ret := (some .boolean)) (by decide) rfl ?_
  intro p e s m args below meth c s₁ B hml hv
  obtain ⟨ha, hE, hH, hz⟩ := hv
  have C0 : CallFix p m c b_Leaf_follows 2 s args wA R_Leaf := ⟨B.exec, B.bytes, hml, findClass_of_methodNamed B.named, fun w hw => atoms_spec (ws := xws y_Leaf_follows b_Leaf_follows 2 (some .boolean)) B.pre w (List.mem_cons_of_mem _ hw)⟩
  have hr := B.returns
  have hlocks := B.notSynchronized
  obtain ⟨R, hR⟩ : ∃ R, R = (headSpec (xws y_Leaf_follows b_Leaf_follows 2 (some .boolean)) { frames := 0, cells := 0, slots := 0, locals := 0 }).room := ⟨_, rfl⟩
  have hR1 : 0 ≤ R.frames := by rw [hR]; exact Nat.le_of_ble_eq_true rfl
  have hR2 : 0 ≤ R.locals := by rw [hR]; exact Nat.le_of_ble_eq_true rfl
  have hR3 : 0 ≤ R.cells := by rw [hR]; exact Nat.le_refl _
  have hR4 : 0 ≤ R.slots := by rw [hR]; exact Nat.le_refl _
  rw [← hR]
  obtain ⟨Q, hQ⟩ : ∃ Q, Q = MQ below (qP (some (.int res))) args s (0) (0) (fun _ => False) := ⟨_, rfl⟩
  rw [← hQ]
  have hS : xS G s s.heap [] := va_S.rf
  obtain ⟨ls, he, hl⟩ := x_entry m [.inr (.inl (some h0)), .inr (.inl r1)] 2 (Nat.le_of_ble_eq_true rfl)
  rw [show entryFrame m args 2 = F0 m 0 ls [] by rw [ha]; exact he]
  have hl : xL ls 2 [(0, .inr (.inl (some h0))), (1, .inr (.inl r1))] := hl
  have h := hf
  unfold f_Leaf_follows at h
  suffices hmain : ∀ (H : Heap) (locs : List Loc), xhd G vwCl w H → xS G s H locs → H.size = sz → (H = s.heap ∧ locs = []) → W p l e R s m args below meth c H locs 0 0 Q (F0 m 0 ls []) from hmain _ _ hH hS hz ⟨rfl, rfl⟩
  clear hH hS hz
  intro H locs hH hS hz hP0
  refine x_aload_n C0 hl 0 d_Leaf_follows_0 rfl rfl ?_
  refine x_getI C0 hE hH (ci := 1) rfl i_Leaf 2 (by decide) kw_1_214 d_Leaf_follows_1 h (fun v_1 h => ?_)
  refine x_aload_n C0 hl 1 d_Leaf_follows_4 rfl rfl ?_
  refine x_getI C0 hE hH (ci := 1) rfl i_Leaf 2 (by decide) kw_1_214 d_Leaf_follows_5 h (fun v_2 h => ?_)
  refine lv_iconst (v := 1) C0.1 C0.2.1 d_Leaf_follows_8 (by decide) ?_
  refine lv_iadd C0.1 C0.2.1 d_Leaf_follows_9 ?_
  refine x_icmp_ne C0 17 d_Leaf_follows_10 (by decide) h (fun h => ?_) (fun h => ?_)
  · refine lv_iconst (v := 0) C0.1 C0.2.1 d_Leaf_follows_17 (by decide) ?_
    cases h
    rw [hQ]
    exact x_zretP C0 hr hlocks hP0 rfl d_Leaf_follows_18
  · refine lv_iconst (v := 1) C0.1 C0.2.1 d_Leaf_follows_13 (by decide) ?_
    refine x_goto C0 18 d_Leaf_follows_14 (by decide) ?_
    cases h
    rw [hQ]
    exact x_zretP C0 hr hlocks hP0 rfl d_Leaf_follows_18
theorem d_Leaf_holds_0 : decode b_Leaf_holds 0 = .ok (.iload_n 1, 1) := by decide +kernel
theorem d_Leaf_holds_1 : decode b_Leaf_holds 1 = .ok (.ifCond .lt 27, 3) := by decide +kernel
theorem d_Leaf_holds_4 : decode b_Leaf_holds 4 = .ok (.iload_n 1, 1) := by decide +kernel
theorem d_Leaf_holds_5 : decode b_Leaf_holds 5 = .ok (.aload_n 0, 1) := by decide +kernel
theorem d_Leaf_holds_6 : decode b_Leaf_holds 6 = .ok (.getfield 28, 3) := by decide +kernel
theorem d_Leaf_holds_9 : decode b_Leaf_holds 9 = .ok (.if_icmp .ge 19, 3) := by decide +kernel
theorem d_Leaf_holds_12 : decode b_Leaf_holds 12 = .ok (.iload_n 2, 1) := by decide +kernel
theorem d_Leaf_holds_13 : decode b_Leaf_holds 13 = .ok (.ifCond .lt 15, 3) := by decide +kernel
theorem d_Leaf_holds_16 : decode b_Leaf_holds 16 = .ok (.iload_n 2, 1) := by decide +kernel
theorem d_Leaf_holds_17 : decode b_Leaf_holds 17 = .ok (.aload_n 0, 1) := by decide +kernel
theorem d_Leaf_holds_18 : decode b_Leaf_holds 18 = .ok (.getfield 31, 3) := by decide +kernel
theorem d_Leaf_holds_21 : decode b_Leaf_holds 21 = .ok (.if_icmp .ge 7, 3) := by decide +kernel
theorem d_Leaf_holds_24 : decode b_Leaf_holds 24 = .ok (.iconst 1, 1) := by decide +kernel
theorem d_Leaf_holds_25 : decode b_Leaf_holds 25 = .ok (.goto 4, 3) := by decide +kernel
theorem d_Leaf_holds_28 : decode b_Leaf_holds 28 = .ok (.iconst 0, 1) := by decide +kernel
theorem d_Leaf_holds_29 : decode b_Leaf_holds 29 = .ok (.ireturn, 1) := by decide +kernel
def f_Leaf_holds (w : Mp) (h0 : Nat) (x1 : Int32) (x2 : Int32) : Option (Int32) := if x1 < 0 then (some (0 : Int32)) else ((gI w (some h0) 1 3).bind fun v_1 => if v_1 ≤ x1 then (some (0 : Int32)) else (if x2 < 0 then (some (0 : Int32)) else ((gI w (some h0) 1 4).bind fun v_2 => if v_2 ≤ x2 then (some (0 : Int32)) else (some (1 : Int32)))))
set_option maxHeartbeats 4000000 in
set_option maxRecDepth 100000 in
theorem c_Leaf_holds (l : Launch) (G : Gx) (w : Mp) (sz : Nat) (h0 : Nat) (x1 : Int32) (x2 : Int32) (res : Int32) (hf : f_Leaf_holds w h0 x1 x2 = some res) : Met l y_Leaf_holds (xws y_Leaf_holds b_Leaf_holds 3 (some .boolean)) { frames := 0, cells := 0, slots := 0, locals := 0 } (xPc G vwCl xaty w sz [va_rf (some h0), .int x1, .int x2]) (qP (some (.int res))) (0) (0) (fun _ => False) := by
  refine Met.ofW (cc := b_Leaf_holds) (maxL := 3) (ret := (some .boolean)) (by decide) rfl ?_
  intro p e s m args below meth c s₁ B hml hv
  obtain ⟨ha, hE, hH, hz⟩ := hv
  have C0 : CallFix p m c b_Leaf_holds 3 s args wA R_Leaf := ⟨B.exec, B.bytes, hml, findClass_of_methodNamed B.named, fun w hw => atoms_spec (ws := xws y_Leaf_holds b_Leaf_holds 3 (some .boolean)) B.pre w (List.mem_cons_of_mem _ hw)⟩
  have hr := B.returns
  have hlocks := B.notSynchronized
  obtain ⟨R, hR⟩ : ∃ R, R = (headSpec (xws y_Leaf_holds b_Leaf_holds 3 (some .boolean)) { frames := 0, cells := 0, slots := 0, locals := 0 }).room := ⟨_, rfl⟩
  have hR1 : 0 ≤ R.frames := by rw [hR]; exact Nat.le_of_ble_eq_true rfl
  have hR2 : 0 ≤ R.locals := by rw [hR]; exact Nat.le_of_ble_eq_true rfl
  have hR3 : 0 ≤ R.cells := by rw [hR]; exact Nat.le_refl _
  have hR4 : 0 ≤ R.slots := by rw [hR]; exact Nat.le_refl _
  rw [← hR]
  obtain ⟨Q, hQ⟩ : ∃ Q, Q = MQ below (qP (some (.int res))) args s (0) (0) (fun _ => False) := ⟨_, rfl⟩
  rw [← hQ]
  have hS : xS G s s.heap [] := va_S.rf
  obtain ⟨ls, he, hl⟩ := x_entry m [.inr (.inl (some h0)), .inl x1, .inl x2] 3 (Nat.le_of_ble_eq_true rfl)
  rw [show entryFrame m args 3 = F0 m 0 ls [] by rw [ha]; exact he]
  have hl : xL ls 3 [(0, .inr (.inl (some h0))), (1, .inl x1), (2, .inl x2)] := hl
  have h := hf
  unfold f_Leaf_holds at h
  suffices hmain : ∀ (H : Heap) (locs : List Loc), xhd G vwCl w H → xS G s H locs → H.size = sz → (H = s.heap ∧ locs = []) → W p l e R s m args below meth c H locs 0 0 Q (F0 m 0 ls []) from hmain _ _ hH hS hz ⟨rfl, rfl⟩
  clear hH hS hz
  intro H locs hH hS hz hP0
  refine x_iload_n C0 hl 1 d_Leaf_holds_0 rfl rfl ?_
  refine x_if_lt C0 28 d_Leaf_holds_1 (by decide) h (fun h => ?_) (fun h => ?_)
  · refine lv_iconst (v := 0) C0.1 C0.2.1 d_Leaf_holds_28 (by decide) ?_
    cases h
    rw [hQ]
    exact x_zretP C0 hr hlocks hP0 rfl d_Leaf_holds_29
  · refine x_iload_n C0 hl 1 d_Leaf_holds_4 rfl rfl ?_
    refine x_aload_n C0 hl 0 d_Leaf_holds_5 rfl rfl ?_
    refine x_getI C0 hE hH (ci := 1) rfl i_Leaf 3 (by decide) kw_1_216 d_Leaf_holds_6 h (fun v_1 h => ?_)
    refine x_icmp_ge C0 28 d_Leaf_holds_9 (by decide) h (fun h => ?_) (fun h => ?_)
    · refine lv_iconst (v := 0) C0.1 C0.2.1 d_Leaf_holds_28 (by decide) ?_
      cases h
      rw [hQ]
      exact x_zretP C0 hr hlocks hP0 rfl d_Leaf_holds_29
    · refine x_iload_n C0 hl 2 d_Leaf_holds_12 rfl rfl ?_
      refine x_if_lt C0 28 d_Leaf_holds_13 (by decide) h (fun h => ?_) (fun h => ?_)
      · refine lv_iconst (v := 0) C0.1 C0.2.1 d_Leaf_holds_28 (by decide) ?_
        cases h
        rw [hQ]
        exact x_zretP C0 hr hlocks hP0 rfl d_Leaf_holds_29
      · refine x_iload_n C0 hl 2 d_Leaf_holds_16 rfl rfl ?_
        refine x_aload_n C0 hl 0 d_Leaf_holds_17 rfl rfl ?_
        refine x_getI C0 hE hH (ci := 1) rfl i_Leaf 4 (by decide) kw_1_220 d_Leaf_holds_18 h (fun v_2 h => ?_)
        refine x_icmp_ge C0 28 d_Leaf_holds_21 (by decide) h (fun h => ?_) (fun h => ?_)
        · refine lv_iconst (v := 0) C0.1 C0.2.1 d_Leaf_holds_28 (by decide) ?_
          cases h
          rw [hQ]
          exact x_zretP C0 hr hlocks hP0 rfl d_Leaf_holds_29
        · refine lv_iconst (v := 1) C0.1 C0.2.1 d_Leaf_holds_24 (by decide) ?_
          refine x_goto C0 29 d_Leaf_holds_25 (by decide) ?_
          cases h
          rw [hQ]
          exact x_zretP C0 hr hlocks hP0 rfl d_Leaf_holds_29
theorem d_Leaf_greyOrNone_0 : decode b_Leaf_greyOrNone 0 = .ok (.aload_n 0, 1) := by decide +kernel
theorem d_Leaf_greyOrNone_1 : decode b_Leaf_greyOrNone 1 = .ok (.iload_n 1, 1) := by decide +kernel
theorem d_Leaf_greyOrNone_2 : decode b_Leaf_greyOrNone 2 = .ok (.iload_n 2, 1) := by decide +kernel
theorem d_Leaf_greyOrNone_3 : decode b_Leaf_greyOrNone 3 = .ok (.invokevirtual 38, 3) := by decide +kernel
theorem d_Leaf_greyOrNone_6 : decode b_Leaf_greyOrNone 6 = .ok (.ifCond .eq 19, 3) := by decide +kernel
theorem d_Leaf_greyOrNone_9 : decode b_Leaf_greyOrNone 9 = .ok (.aload_n 0, 1) := by decide +kernel
theorem d_Leaf_greyOrNone_10 : decode b_Leaf_greyOrNone 10 = .ok (.getfield 34, 3) := by decide +kernel
theorem d_Leaf_greyOrNone_13 : decode b_Leaf_greyOrNone 13 = .ok (.iload_n 2, 1) := by decide +kernel
theorem d_Leaf_greyOrNone_14 : decode b_Leaf_greyOrNone 14 = .ok (.aload_n 0, 1) := by decide +kernel
theorem d_Leaf_greyOrNone_15 : decode b_Leaf_greyOrNone 15 = .ok (.getfield 28, 3) := by decide +kernel
theorem d_Leaf_greyOrNone_18 : decode b_Leaf_greyOrNone 18 = .ok (.imul, 1) := by decide +kernel
theorem d_Leaf_greyOrNone_19 : decode b_Leaf_greyOrNone 19 = .ok (.iload_n 1, 1) := by decide +kernel
theorem d_Leaf_greyOrNone_20 : decode b_Leaf_greyOrNone 20 = .ok (.iadd, 1) := by decide +kernel
theorem d_Leaf_greyOrNone_21 : decode b_Leaf_greyOrNone 21 = .ok (.iaload, 1) := by decide +kernel
theorem d_Leaf_greyOrNone_22 : decode b_Leaf_greyOrNone 22 = .ok (.goto 4, 3) := by decide +kernel
theorem d_Leaf_greyOrNone_25 : decode b_Leaf_greyOrNone 25 = .ok (.iconst (-1), 1) := by decide +kernel
theorem d_Leaf_greyOrNone_26 : decode b_Leaf_greyOrNone 26 = .ok (.ireturn, 1) := by decide +kernel
def f_Leaf_greyOrNone (w : Mp) (h0 : Nat) (x1 : Int32) (x2 : Int32) : Option (Int32) := (xo w (some h0) 1).bind fun b_2 => (f_Leaf_holds w b_2 x1 x2).bind fun q_1 => if q_1 = 0 then (some (-1 : Int32)) else ((gR w (some h0) 1 5).bind fun v_3 => (gI w (some h0) 1 3).bind fun v_4 => (aI w v_3 0 ((x2 * v_4) + x1)).bind fun v_5 => some v_5)
set_option maxHeartbeats 4000000 in
set_option maxRecDepth 100000 in
theorem c_Leaf_greyOrNone (l : Launch) (G : Gx) (w : Mp) (sz : Nat) (h0 : Nat) (x1 : Int32) (x2 : Int32) (res : Int32) (hf : f_Leaf_greyOrNone w h0 x1 x2 = some res) : Met l y_Leaf_greyOrNone (xws y_Leaf_greyOrNone b_Leaf_greyOrNone 3 (some .int)) { frames := 1, cells := 0, slots := 0, locals := 22 } (xPc G vwCl xaty w sz [va_rf (some h0), .int x1, .int x2]) (qP (some (.int res))) (0) (0) (fun _ => False) := by
  refine Met.ofW (cc := b_Leaf_greyOrNone) (maxL := 3) (ret := (some .int)) (by decide) rfl ?_
  intro p e s m args below meth c s₁ B hml hv
  obtain ⟨ha, hE, hH, hz⟩ := hv
  have C0 : CallFix p m c b_Leaf_greyOrNone 3 s args wA R_Leaf := ⟨B.exec, B.bytes, hml, findClass_of_methodNamed B.named, fun w hw => atoms_spec (ws := xws y_Leaf_greyOrNone b_Leaf_greyOrNone 3 (some .int)) B.pre w (List.mem_cons_of_mem _ hw)⟩
  have hr := B.returns
  have hlocks := B.notSynchronized
  obtain ⟨R, hR⟩ : ∃ R, R = (headSpec (xws y_Leaf_greyOrNone b_Leaf_greyOrNone 3 (some .int)) { frames := 1, cells := 0, slots := 0, locals := 22 }).room := ⟨_, rfl⟩
  have hR1 : 1 ≤ R.frames := by rw [hR]; exact Nat.le_of_ble_eq_true rfl
  have hR2 : 22 ≤ R.locals := by rw [hR]; exact Nat.le_of_ble_eq_true rfl
  have hR3 : 0 ≤ R.cells := by rw [hR]; exact Nat.le_refl _
  have hR4 : 0 ≤ R.slots := by rw [hR]; exact Nat.le_refl _
  rw [← hR]
  obtain ⟨Q, hQ⟩ : ∃ Q, Q = MQ below (qP (some (.int res))) args s (0) (0) (fun _ => False) := ⟨_, rfl⟩
  rw [← hQ]
  have hS : xS G s s.heap [] := va_S.rf
  obtain ⟨ls, he, hl⟩ := x_entry m [.inr (.inl (some h0)), .inl x1, .inl x2] 3 (Nat.le_of_ble_eq_true rfl)
  rw [show entryFrame m args 3 = F0 m 0 ls [] by rw [ha]; exact he]
  have hl : xL ls 3 [(0, .inr (.inl (some h0))), (1, .inl x1), (2, .inl x2)] := hl
  have h := hf
  unfold f_Leaf_greyOrNone at h
  suffices hmain : ∀ (H : Heap) (locs : List Loc), xhd G vwCl w H → xS G s H locs → H.size = sz → (H = s.heap ∧ locs = []) → W p l e R s m args below meth c H locs 0 0 Q (F0 m 0 ls []) from hmain _ _ hH hS hz ⟨rfl, rfl⟩
  clear hH hS hz
  intro H locs hH hS hz hP0
  refine x_aload_n C0 hl 0 d_Leaf_greyOrNone_0 rfl rfl ?_
  refine x_iload_n C0 hl 1 d_Leaf_greyOrNone_1 rfl rfl ?_
  refine x_iload_n C0 hl 2 d_Leaf_greyOrNone_2 rfl rfl ?_
  obtain ⟨b_2, e9, h⟩ := Option.bind_eq_some_iff.mp h
  obtain ⟨e8, fs9, hb9⟩ := xo_inv e9
  obtain ⟨q_1, e9, h⟩ := Option.bind_eq_some_iff.mp h
  refine x_callP (va_runV (As := [.int x1, .int x2]) (rest := []) C0 (c_Leaf_holds l G w _ b_2 x1 x2 q_1 e9) (x_cwV 2 C0 kw_2_196 kw_2_25 kw_1_9 kw_2_23 kw_2_24 (by decide +kernel) (x_rm hR1 hR2 (Nat.le_of_ble_eq_true rfl) (Nat.le_of_ble_eq_true rfl))) (x_preV hE hH hS (ci := 1) rfl hb9) rfl rfl hl.1 (by rw [e8]; rfl) (lv_room (by first | exact Nat.le_of_ble_eq_true rfl | simp only [List.map_cons, List.map_nil, List.sum_cons, List.sum_nil, va_rf_cat, x_catI, x_catL, x_catA] <;> decide)) d_Leaf_greyOrNone_3 (x_le0 hR3 hR4)) ?_
  refine x_if_eq C0 25 d_Leaf_greyOrNone_6 (by decide) h (fun h => ?_) (fun h => ?_)
  · refine lv_iconst (v := -1) C0.1 C0.2.1 d_Leaf_greyOrNone_25 (by decide) ?_
    cases h
    rw [hQ]
    exact x_iretP C0 hr hlocks hP0 d_Leaf_greyOrNone_26
  · refine x_aload_n C0 hl 0 d_Leaf_greyOrNone_9 rfl rfl ?_
    refine x_getR C0 hE hH (ci := 1) rfl i_Leaf 5 (by decide) kw_1_223 d_Leaf_greyOrNone_10 h (fun v_3 h => ?_)
    refine x_iload_n C0 hl 2 d_Leaf_greyOrNone_13 rfl rfl ?_
    refine x_aload_n C0 hl 0 d_Leaf_greyOrNone_14 rfl rfl ?_
    refine x_getI C0 hE hH (ci := 1) rfl i_Leaf 3 (by decide) kw_1_216 d_Leaf_greyOrNone_15 h (fun v_4 h => ?_)
    refine lv_imul C0.1 C0.2.1 d_Leaf_greyOrNone_18 ?_
    refine x_iload_n C0 hl 1 d_Leaf_greyOrNone_19 rfl rfl ?_
    refine lv_iadd C0.1 C0.2.1 d_Leaf_greyOrNone_20 ?_
    refine x_iald C0 hE hH (t := 0) rfl d_Leaf_greyOrNone_21 h (fun v_5 h => ?_)
    refine x_goto C0 26 d_Leaf_greyOrNone_22 (by decide) ?_
    cases h
    rw [hQ]
    exact x_iretP C0 hr hlocks hP0 d_Leaf_greyOrNone_26
