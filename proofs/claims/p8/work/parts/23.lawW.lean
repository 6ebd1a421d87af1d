def f_Law_law (L : Nat) (xs : Nat → Int32) (w : Mp) (sz b : Nat) : Option (Int32 × Mp × Nat) := (xnO w sz 0 [.null, .int 0, .null, .int 0, .null, .null]).bind fun w_1 => (xo w_1 (some sz) 0).bind fun b_3 => (f_LM_init w_1 (sz + 1) b_3).bind fun q_2 => (xnO q_2.2.1 q_2.2.2 5 [.int 0, .int 0, .null, .null, .null, .null, .null, .null, .null, .int 0, .null, .null, .null, .int 0, .null, .int 0, .null, .null, .int 0, .null, .null, .null]).bind fun w_4 => (xo w_4 (some q_2.2.2) 5).bind fun b_6 => (f_Mod_init w_4 (q_2.2.2 + 1) b_6).bind fun q_5 => (xnJ q_5.2.1 q_5.2.2 5 1 (1 : Int32)).bind fun w_7 => (f_Law_law_L23 L xs b (some sz) (some q_2.2.2) (some q_5.2.2) 513 (0 : Int32) w_7 (q_5.2.2 + 1) 0).bind fun q_136 => if q_136.1 = 0 then (some ((1 : Int32), q_136.2.2.1, q_136.2.2.2)) else (if q_136.1 = 1 then (some ((0 : Int32), q_136.2.2.1, q_136.2.2.2)) else (if q_136.1 = 2 then (some ((0 : Int32), q_136.2.2.1, q_136.2.2.2)) else (none)))
set_option maxHeartbeats 4000000 in
set_option maxRecDepth 100000 in
theorem law_walk {p : Program} {e : Env} {s : State} {m : MethodId} {below : List Frame} {meth : Method} {c : Code} {l : Launch} (hlt : l.stackTraces = false) {b L : Nat} {xs : Nat → Int32} {G : Gx} (hG : G.1 = s.heap.size) (C0 : CallFix p m c b_Law_law 8 s #[Value.ref b] wA R_Law) (hE : xE G vwCl xaty s) (hX : va_X b L xs s s.heap) (hbl : b < s.heap.size) (hbA : ¬ xA G b) (hr : meth.sig.returnType = ret) (hlocks : meth.locks = false) {w : Mp} {sz : Nat} {res : Int32 × Mp × Nat} (hf : f_Law_law L xs w sz b = some res) (hres : res.1 = 1) : ∀ (H : Heap) (locs : List Loc) (ls : Array Slot), xhd G vwCl w H → xS G s H locs → H.size = sz → xL ls 8 [(0, .inr (.inl (some b)))] → W p l e room_1 s m #[Value.ref b] below meth c H locs 0 0 (lw_Z below #[Value.ref b] s) (F0 m 0 ls []) := by
  intro H locs ls hH hS hz hl
  obtain ⟨R, hR⟩ : ∃ R, R = room_1 := ⟨_, rfl⟩
  have hR1 : 8 ≤ R.frames := by rw [hR]; exact Nat.le_of_ble_eq_true rfl
  have hR2 : 193 ≤ R.locals := by rw [hR]; exact Nat.le_of_ble_eq_true rfl
  have hR3 : 601024 ≤ R.cells := by rw [hR]; exact Nat.le_of_ble_eq_true rfl
  have hR4 : 7293034 ≤ R.slots := by rw [hR]; exact Nat.le_of_ble_eq_true rfl
  have h := hf
  unfold f_Law_law at h
  obtain ⟨args, ha⟩ : ∃ a : Array Value, a = #[Value.ref b] := ⟨_, rfl⟩
  rw [← ha] at C0 ⊢
  obtain ⟨Q, hQ⟩ : ∃ Q, Q = lw_Z below args s := ⟨_, rfl⟩
  rw [← hQ, ← hR]
  refine x_new (fs := [.null, .int 0, .null, .int 0, .null, .null]) C0 hE hH hS hz (ci := 0) rfl i_LM t_LM t_LM_ok kw_1_24 kw_1_25 kw_1_1 (fun j hj => by rcases (show j = 0 ∨ j = 1 ∨ j = 2 ∨ j = 3 ∨ j = 4 ∨ j = 5 by omega) with rfl | rfl | rfl | rfl | rfl | rfl <;> rfl) (Nat.le_trans (by omega) hR3) (Nat.le_trans (by omega) hR4) d_Law_law_0 h (fun w_1 H hH hS hz h => ?_)
  refine W.widen (k := 1) (n := 6) (by omega) (by omega) ?_
  refine lv_dup C0.1 C0.2.1 d_Law_law_3 (va_rf_cat _) ?_
  obtain ⟨b_3, e9, h⟩ := Option.bind_eq_some_iff.mp h
  obtain ⟨e8, fs9, hb9⟩ := xo_inv e9
  obtain ⟨q_2, e9, h⟩ := Option.bind_eq_some_iff.mp h
  have e9 := (show f_LM_init w_1 (Array.size H) b_3 = some q_2 by rw [hz]; exact e9)
  refine x_call hS (va_runI (As := []) (rest := [va_rf (some sz)]) C0 (c_LM_init l G w_1 _ b_3 q_2 e9) (x_cwI 0 C0 kw_1_26 kw_1_28 kw_1_1 kw_1_27 rfl (by decide +kernel) (x_rm hR1 hR2 (Nat.le_of_ble_eq_true rfl) (Nat.le_of_ble_eq_true rfl))) (x_preS hE hH hS) rfl rfl hl.1 (by rw [e8]; rfl) (lv_room (by first | exact Nat.le_of_ble_eq_true rfl | simp only [List.map_cons, List.map_nil, List.sum_cons, List.sum_nil, va_rf_cat, x_catI, x_catL, x_catA] <;> decide)) d_Law_law_4 ⟨Nat.le_trans (by omega) hR3, Nat.le_trans (by omega) hR4⟩) (fun H locs hH hS hz => ?_)
  refine W.widen (k := 11) (n := 111) (by omega) (by omega) ?_
  refine x_astore_n (lv' := [(1, .inr (.inl (some sz))), (0, .inr (.inl (some b)))]) C0 hl d_Law_law_7 rfl (by decide) rfl (fun ls hl => ?_)
  refine x_new (fs := [.int 0, .int 0, .null, .null, .null, .null, .null, .null, .null, .int 0, .null, .null, .null, .int 0, .null, .int 0, .null, .null, .int 0, .null, .null, .null]) C0 hE hH hS hz (ci := 5) rfl i_Mod t_Mod t_Mod_ok kw_4_73 kw_4_74 kw_1_3 (fun j hj => by rcases (show j = 0 ∨ j = 1 ∨ j = 2 ∨ j = 3 ∨ j = 4 ∨ j = 5 ∨ j = 6 ∨ j = 7 ∨ j = 8 ∨ j = 9 ∨ j = 10 ∨ j = 11 ∨ j = 12 ∨ j = 13 ∨ j = 14 ∨ j = 15 ∨ j = 16 ∨ j = 17 ∨ j = 18 ∨ j = 19 ∨ j = 20 ∨ j = 21 by omega) with rfl | rfl | rfl | rfl | rfl | rfl | rfl | rfl | rfl | rfl | rfl | rfl | rfl | rfl | rfl | rfl | rfl | rfl | rfl | rfl | rfl | rfl <;> rfl) (Nat.le_trans (by omega) hR3) (Nat.le_trans (by omega) hR4) d_Law_law_8 h (fun w_4 H hH hS hz h => ?_)
  refine W.widen (k := 12) (n := 133) (by omega) (by omega) ?_
  refine lv_dup C0.1 C0.2.1 d_Law_law_11 (va_rf_cat _) ?_
  obtain ⟨b_6, e9, h⟩ := Option.bind_eq_some_iff.mp h
  obtain ⟨e8, fs9, hb9⟩ := xo_inv e9
  obtain ⟨q_5, e9, h⟩ := Option.bind_eq_some_iff.mp h
  have e9 := (show f_Mod_init w_4 (Array.size H) b_6 = some q_5 by rw [hz]; exact e9)
  refine x_call hS (va_runI (As := []) (rest := [va_rf (some q_2.2.2)]) C0 (c_Mod_init l G w_4 _ b_6 q_5 e9) (x_cwI 0 C0 kw_4_75 kw_4_77 kw_1_3 kw_4_76 rfl (by decide +kernel) (x_rm hR1 hR2 (Nat.le_of_ble_eq_true rfl) (Nat.le_of_ble_eq_true rfl))) (x_preS hE hH hS) rfl rfl hl.1 (by rw [e8]; rfl) (lv_room (by first | exact Nat.le_of_ble_eq_true rfl | simp only [List.map_cons, List.map_nil, List.sum_cons, List.sum_nil, va_rf_cat, x_catI, x_catL, x_catA] <;> decide)) d_Law_law_12 ⟨Nat.le_trans (by omega) hR3, Nat.le_trans (by omega) hR4⟩) (fun H locs hH hS hz => ?_)
  refine W.widen (k := 28) (n := 13549) (by omega) (by omega) ?_
  refine x_astore_n (lv' := [(2, .inr (.inl (some q_2.2.2))), (1, .inr (.inl (some sz))), (0, .inr (.inl (some b)))]) C0 hl d_Law_law_15 rfl (by decide) rfl (fun ls hl => ?_)
  refine lv_iconst (v := 1) C0.1 C0.2.1 d_Law_law_16 (by decide) ?_
  refine x_newl C0 hE hH hS hz (t := 5) (lim := 1) rfl kw_5_72 (Nat.le_trans (by omega) hR3) (Nat.le_trans (by omega) hR4) d_Law_law_17 h (fun w_7 H hH hS hz h => ?_)
  refine W.widen (k := 29) (n := 13550) (by omega) (by omega) ?_
  refine x_astore_n (lv' := [(3, .inr (.inl (some q_5.2.2))), (2, .inr (.inl (some q_2.2.2))), (1, .inr (.inl (some sz))), (0, .inr (.inl (some b)))]) C0 hl d_Law_law_19 rfl (by decide) rfl (fun ls hl => ?_)
  refine lv_iconst (v := 0) C0.1 C0.2.1 d_Law_law_20 (by decide) ?_
  refine x_istore (lv' := [(4, .inl (0 : Int32)), (3, .inr (.inl (some q_5.2.2))), (2, .inr (.inl (some q_2.2.2))), (1, .inr (.inl (some sz))), (0, .inr (.inl (some b)))]) C0 hl d_Law_law_21 (by decide) rfl (fun ls hl => ?_)
  obtain ⟨q_136, e9, h⟩ := Option.bind_eq_some_iff.mp h
  refine W.widen (k := 29 + (513 - 513) * 11) (n := 13550 + (513 - 513) * 152 + 0) (by omega) (by omega) ?_
  refine w_Law_law_L23 C0 hE hR1 hR2 (Nat.le_trans (by omega) hR3) (Nat.le_trans (by omega) hR4) hlt hX hbl hbA 513 _ _ _ _ _ _ (Nat.le_refl _) (Nat.zero_le _) q_136 ls hH hS hz (x_sub hl [4, 3, 2, 1, 0] rfl) e9 ⟨fun z9 H locs ls hH hS hz hl => ?_, fun z9 H locs ls hH hS hz hl => ?_, fun z9 H locs ls hH hS hz hl => ?_⟩
  · rw [if_pos z9] at h
    refine W.widen (k := 5672) (n := 131526) (by omega) (by omega) ?_
    refine lv_iconst (v := 1) C0.1 C0.2.1 d_Law_law_855 (by decide) ?_
    cases h
    rw [hQ, hR, ha]
    refine va_forget (fun q hq => by rw [← hG]; exact hS.2.2 q hq) ?_
    refine W.widen (k := 601024) (n := 7293034) (by omega) (by omega) ?_
    exact lw_ret C0.1 C0.2.1 hr hlocks d_Law_law_856
  · rw [if_neg (by rw [z9]; decide), if_pos z9] at h
    refine W.widen (k := 5672) (n := 131526) (by omega) (by omega) ?_
    refine lv_iconst (v := 0) C0.1 C0.2.1 d_Law_law_466 (by decide) ?_
    cases h
    exact absurd hres (show ¬ (0 : Int32) = 1 by decide)
  · rw [if_neg (by rw [z9]; decide), if_neg (by rw [z9]; decide), if_pos z9] at h
    refine W.widen (k := 5672) (n := 131526) (by omega) (by omega) ?_
    refine lv_iconst (v := 0) C0.1 C0.2.1 d_Law_law_483 (by decide) ?_
    cases h
    exact absurd hres (show ¬ (0 : Int32) = 1 by decide)
