theorem kw_1_29 : (Jvm.Cond.methodLink "LeafMatches" (1 : Nat) ({ cls := "java/lang/Object", name := "<init>", desc := "()V" } : Jvm.MethodName)) ∈ wA := ku_1 29 rfl rfl
theorem kw_1_36 : (Jvm.Cond.classLink "LeafMatches" (28 : Nat) "LeafMatches$Planner") ∈ wA := ku_1 36 rfl rfl
theorem kw_1_37 : (Jvm.Cond.instantiable "LeafMatches$Planner" (9 : Nat)) ∈ wA := ku_1 37 rfl rfl
theorem kw_1_38 : (Jvm.Cond.methodLink "LeafMatches" (30 : Nat) ({ cls := "LeafMatches$Planner", name := "<init>", desc := "()V" } : Jvm.MethodName)) ∈ wA := ku_1 38 rfl rfl
theorem kw_1_39 : (Jvm.Cond.instanceMethod ({ cls := "LeafMatches$Planner", name := "<init>", desc := "()V" } : Jvm.MethodName)) ∈ wA := ku_1 39 rfl rfl
theorem kw_1_40 : (Jvm.Cond.code ({ cls := "LeafMatches$Planner", name := "<init>", desc := "()V" } : Jvm.MethodName) prog_5_method_1_code (1 : Nat) (Option.none : Option Jvm.ClassFile.FieldType)) ∈ wA := ku_1 40 rfl rfl
theorem d_LM_init_0 : decode b_LM_init 0 = .ok (.aload_n 0, 1) := by decide +kernel
theorem d_LM_init_1 : decode b_LM_init 1 = .ok (.invokespecial 1, 3) := by decide +kernel
theorem d_LM_init_4 : decode b_LM_init 4 = .ok (.aload_n 0, 1) := by decide +kernel
theorem d_LM_init_5 : decode b_LM_init 5 = .ok (.bipush 32, 2) := by decide +kernel
theorem d_LM_init_7 : decode b_LM_init 7 = .ok (.anewarray 9, 3) := by decide +kernel
theorem d_LM_init_10 : decode b_LM_init 10 = .ok (.putfield 11, 3) := by decide +kernel
theorem d_LM_init_13 : decode b_LM_init 13 = .ok (.aload_n 0, 1) := by decide +kernel
theorem d_LM_init_14 : decode b_LM_init 14 = .ok (.iconst 0, 1) := by decide +kernel
theorem d_LM_init_15 : decode b_LM_init 15 = .ok (.putfield 15, 3) := by decide +kernel
theorem d_LM_init_18 : decode b_LM_init 18 = .ok (.aload_n 0, 1) := by decide +kernel
theorem d_LM_init_19 : decode b_LM_init 19 = .ok (.bipush 8, 2) := by decide +kernel
theorem d_LM_init_21 : decode b_LM_init 21 = .ok (.anewarray 19, 3) := by decide +kernel
theorem d_LM_init_24 : decode b_LM_init 24 = .ok (.putfield 21, 3) := by decide +kernel
theorem d_LM_init_27 : decode b_LM_init 27 = .ok (.aload_n 0, 1) := by decide +kernel
theorem d_LM_init_28 : decode b_LM_init 28 = .ok (.iconst 0, 1) := by decide +kernel
theorem d_LM_init_29 : decode b_LM_init 29 = .ok (.putfield 25, 3) := by decide +kernel
theorem d_LM_init_32 : decode b_LM_init 32 = .ok (.aload_n 0, 1) := by decide +kernel
theorem d_LM_init_33 : decode b_LM_init 33 = .ok (.new 28, 3) := by decide +kernel
theorem d_LM_init_36 : decode b_LM_init 36 = .ok (.dup, 1) := by decide +kernel
theorem d_LM_init_37 : decode b_LM_init 37 = .ok (.invokespecial 30, 3) := by decide +kernel
theorem d_LM_init_40 : decode b_LM_init 40 = .ok (.putfield 31, 3) := by decide +kernel
theorem d_LM_init_43 : decode b_LM_init 43 = .ok (.aload_n 0, 1) := by decide +kernel
theorem d_LM_init_44 : decode b_LM_init 44 = .ok (.bipush 32, 2) := by decide +kernel
theorem d_LM_init_46 : decode b_LM_init 46 = .ok (.anewarray 9, 3) := by decide +kernel
theorem d_LM_init_49 : decode b_LM_init 49 = .ok (.putfield 35, 3) := by decide +kernel
theorem d_LM_init_52 : decode b_LM_init 52 = .ok (.return_, 1) := by decide +kernel
def f_LM_init (w : Mp) (sz : Nat) (h0 : Nat) : Option (Unit × Mp × Nat) := (xnR w sz 1 32 (32 : Int32)).bind fun w_1 => (pF w_1 (some h0) 0 0 (va_rf (some sz))).bind fun w_2 => (pF w_2 (some h0) 0 1 (.int (0 : Int32))).bind fun w_3 => (xnR w_3 (sz + 1) 2 8 (8 : Int32)).bind fun w_4 => (pF w_4 (some h0) 0 2 (va_rf (some (sz + 1)))).bind fun w_5 => (pF w_5 (some h0) 0 3 (.int (0 : Int32))).bind fun w_6 => (xnO w_6 (sz + 2) 4 [.null, .int 0, .int 0, .null, .null, .null, .null, .null, .int 0]).bind fun w_7 => (xo w_7 (some (sz + 2)) 4).bind fun b_9 => (f_Plan_init w_7 (sz + 3) b_9).bind fun q_8 => (pF q_8.2.1 (some h0) 0 4 (va_rf (some (sz + 2)))).bind fun w_10 => (xnR w_10 q_8.2.2 1 32 (32 : Int32)).bind fun w_11 => (pF w_11 (some h0) 0 5 (va_rf (some q_8.2.2))).bind fun w_12 => some ((), w_12, q_8.2.2 + 1)
set_option maxHeartbeats 4000000 in
set_option maxRecDepth 100000 in
theorem c_LM_init (l : Launch) (G : Gx) (w : Mp) (sz : Nat) (h0 : Nat) (res : Unit × Mp × Nat) (hf : f_LM_init w sz h0 = some res) : Met l y_LM_init (xws y_LM_init b_LM_init 1 none) { frames := 2, cells := 10, slots := 105, locals := 44 } (xPc G vwCl xaty w sz [va_rf (some h0)]) (xQ G vwCl (none) res.2.1 res.2.2) (10) (105) (xA G) := by
  refine Met.ofW (cc := b_LM_init) (maxL := 1) (ret := none) (by decide) rfl ?_
  intro p e s m args below meth c s₁ B hml hv
  obtain ⟨ha, hE, hH, hz⟩ := hv
  have C0 : CallFix p m c b_LM_init 1 s args wA R_LM := ⟨B.exec, B.bytes, hml, findClass_of_methodNamed B.named, fun w hw => atoms_spec (ws := xws y_LM_init b_LM_init 1 none) B.pre w (List.mem_cons_of_mem _ hw)⟩
  have hr := B.returns
  have hlocks := B.notSynchronized
  have hin : meth.name = "<init>" := (name_of_methodNamed B.named B.method).1
  obtain ⟨R, hR⟩ : ∃ R, R = (headSpec (xws y_LM_init b_LM_init 1 none) { frames := 2, cells := 10, slots := 105, locals := 44 }).room := ⟨_, rfl⟩
  have hR1 : 2 ≤ R.frames := by rw [hR]; exact Nat.le_of_ble_eq_true rfl
  have hR2 : 44 ≤ R.locals := by rw [hR]; exact Nat.le_of_ble_eq_true rfl
  have hR3 : 10 ≤ R.cells := by rw [hR]; exact Nat.le_refl _
  have hR4 : 105 ≤ R.slots := by rw [hR]; exact Nat.le_refl _
  rw [← hR]
  obtain ⟨Q, hQ⟩ : ∃ Q, Q = MQ below (xQ G vwCl (none) res.2.1 res.2.2) args s (10) (105) (xA G) := ⟨_, rfl⟩
  rw [← hQ]
  have hS : xS G s s.heap [] := va_S.rf
  obtain ⟨ls, he, hl⟩ := x_entry m [.inr (.inl (some h0))] 1 (Nat.le_of_ble_eq_true rfl)
  rw [show entryFrame m args 1 = F0 m 0 ls [] by rw [ha]; exact he]
  have hl : xL ls 1 [(0, .inr (.inl (some h0)))] := hl
  have h := hf
  unfold f_LM_init at h
  suffices hmain : ∀ (H : Heap) (locs : List Loc), xhd G vwCl w H → xS G s H locs → H.size = sz → (H = s.heap ∧ locs = []) → W p l e R s m args below meth c H locs 0 0 Q (F0 m 0 ls []) from hmain _ _ hH hS hz ⟨rfl, rfl⟩
  clear hH hS hz
  intro H locs hH hS hz hP0
  refine x_aload_n C0 hl 0 d_LM_init_0 rfl rfl ?_
  refine x_obj C0 hl kw_1_29 kw_1_30 kw_1_31 d_LM_init_1 (Nat.le_trans (by decide) hR1) (Nat.le_trans (by first | exact Nat.le_of_ble_eq_true rfl | simp only [List.map_cons, List.map_nil, List.sum_cons, List.sum_nil, va_rf_cat, x_catI, x_catL, x_catA] <;> decide) hR2) ?_
  refine x_aload_n C0 hl 0 d_LM_init_4 rfl rfl ?_
  refine lv_bipush (v := 32) C0.1 C0.2.1 d_LM_init_5 (by decide) ?_
  refine x_newr C0 hE hH hS hz (t := 1) (lim := 32) rfl kw_1_32 (hE.2.2.2.2.2.2.2 _ (List.mem_of_getElem? (i := 0) rfl)) (Nat.le_trans (by omega) hR3) (Nat.le_trans (by omega) hR4) d_LM_init_7 h (fun w_1 H hH hS hz h => ?_)
  refine W.widen (k := 1) (n := 32) (by omega) (by omega) ?_
  refine x_putF C0 hE hH hS hin (ci := 0) rfl i_LM t_LM t_LM_ok n_LM 0 (by decide) kw_1_75 rfl rfl (x_narR _ _) (x_fitR (Or.inr ⟨_, rfl⟩) _) d_LM_init_10 h (fun w_2 H locs hH hS hz9 h => ?_)
  have hz := hz9.trans hz
  refine x_aload_n C0 hl 0 d_LM_init_13 rfl rfl ?_
  refine lv_iconst (v := 0) C0.1 C0.2.1 d_LM_init_14 (by decide) ?_
  refine x_put C0 hE hH hS (ci := 0) rfl i_LM t_LM t_LM_ok n_LM 1 (by decide) kw_1_76 rfl rfl rfl d_LM_init_15 h (fun w_3 H locs hH hS hz9 h => ?_)
  have hz := hz9.trans hz
  refine x_aload_n C0 hl 0 d_LM_init_18 rfl rfl ?_
  refine lv_bipush (v := 8) C0.1 C0.2.1 d_LM_init_19 (by decide) ?_
  refine x_newr C0 hE hH hS hz (t := 2) (lim := 8) rfl kw_1_34 (hE.2.2.2.2.2.2.2 _ (List.mem_of_getElem? (i := 1) rfl)) (Nat.le_trans (by omega) hR3) (Nat.le_trans (by omega) hR4) d_LM_init_21 h (fun w_4 H hH hS hz h => ?_)
  refine W.widen (k := 2) (n := 40) (by omega) (by omega) ?_
  refine x_putF C0 hE hH hS hin (ci := 0) rfl i_LM t_LM t_LM_ok n_LM 2 (by decide) kw_1_77 rfl rfl (x_narR _ _) (x_fitR (Or.inr ⟨_, rfl⟩) _) d_LM_init_24 h (fun w_5 H locs hH hS hz9 h => ?_)
  have hz := hz9.trans hz
  refine x_aload_n C0 hl 0 d_LM_init_27 rfl rfl ?_
  refine lv_iconst (v := 0) C0.1 C0.2.1 d_LM_init_28 (by decide) ?_
  refine x_put C0 hE hH hS (ci := 0) rfl i_LM t_LM t_LM_ok n_LM 3 (by decide) kw_1_78 rfl rfl rfl d_LM_init_29 h (fun w_6 H locs hH hS hz9 h => ?_)
  have hz := hz9.trans hz
  refine x_aload_n C0 hl 0 d_LM_init_32 rfl rfl ?_
  refine x_new (fs := [.null, .int 0, .int 0, .null, .null, .null, .null, .null, .int 0]) C0 hE hH hS hz (ci := 4) rfl i_Plan t_Plan t_Plan_ok kw_1_36 kw_1_37 kw_1_2 (fun j hj => by rcases (show j = 0 ∨ j = 1 ∨ j = 2 ∨ j = 3 ∨ j = 4 ∨ j = 5 ∨ j = 6 ∨ j = 7 ∨ j = 8 by omega) with rfl | rfl | rfl | rfl | rfl | rfl | rfl | rfl | rfl <;> rfl) (Nat.le_trans (by omega) hR3) (Nat.le_trans (by omega) hR4) d_LM_init_33 h (fun w_7 H hH hS hz h => ?_)
  refine W.widen (k := 3) (n := 49) (by omega) (by omega) ?_
  refine lv_dup C0.1 C0.2.1 d_LM_init_36 (va_rf_cat _) ?_
  obtain ⟨b_9, e9, h⟩ := Option.bind_eq_some_iff.mp h
  obtain ⟨e8, fs9, hb9⟩ := xo_inv e9
  obtain ⟨q_8, e9, h⟩ := Option.bind_eq_some_iff.mp h
  have e9 := (show f_Plan_init w_7 (Array.size H) b_9 = some q_8 by rw [hz]; exact e9)
  refine x_call hS (va_runI (As := []) (rest := [va_rf (some (sz + 2)), va_rf (some h0)]) C0 (c_Plan_init l G w_7 _ b_9 q_8 e9) (x_cwI 0 C0 kw_1_38 kw_1_40 kw_1_2 kw_1_39 rfl (by decide +kernel) (x_rm hR1 hR2 (Nat.le_of_ble_eq_true rfl) (Nat.le_of_ble_eq_true rfl))) (x_preS hE hH hS) rfl rfl hl.1 (by rw [e8]; rfl) (lv_room (by first | exact Nat.le_of_ble_eq_true rfl | simp only [List.map_cons, List.map_nil, List.sum_cons, List.sum_nil, va_rf_cat, x_catI, x_catL, x_catA] <;> decide)) d_LM_init_37 ⟨Nat.le_trans (by omega) hR3, Nat.le_trans (by omega) hR4⟩) (fun H locs hH hS hz => ?_)
  refine W.widen (k := 9) (n := 73) (by omega) (by omega) ?_
  refine x_putF C0 hE hH hS hin (ci := 0) rfl i_LM t_LM t_LM_ok n_LM 4 (by decide) kw_1_79 rfl rfl (x_narR _ _) (x_fitR (Or.inl ⟨_, rfl⟩) _) d_LM_init_40 h (fun w_10 H locs hH hS hz9 h => ?_)
  have hz := hz9.trans hz
  refine x_aload_n C0 hl 0 d_LM_init_43 rfl rfl ?_
  refine lv_bipush (v := 32) C0.1 C0.2.1 d_LM_init_44 (by decide) ?_
  refine x_newr C0 hE hH hS hz (t := 1) (lim := 32) rfl kw_1_32 (hE.2.2.2.2.2.2.2 _ (List.mem_of_getElem? (i := 0) rfl)) (Nat.le_trans (by omega) hR3) (Nat.le_trans (by omega) hR4) d_LM_init_46 h (fun w_11 H hH hS hz h => ?_)
  refine W.widen (k := 10) (n := 105) (by omega) (by omega) ?_
  refine x_putF C0 hE hH hS hin (ci := 0) rfl i_LM t_LM t_LM_ok n_LM 5 (by decide) kw_1_80 rfl rfl (x_narR _ _) (x_fitR (Or.inr ⟨_, rfl⟩) _) d_LM_init_49 h (fun w_12 H locs hH hS hz9 h => ?_)
  have hz := hz9.trans hz
  cases h
  rw [hQ]
  refine W.widen (k := 10) (n := 105) (by omega) (by omega) ?_
  exact x_vret C0 hr hlocks hH hS hz d_LM_init_52
