/-! ONE CALL ON THE FRESH WORLD -/
def xwT (sz : Nat) (k : Int32) : Mp := va_up (xw0 sz) (sz + 11) (some (.inl (5, [.int k, .int 0, .ref (sz + 12), .ref (sz + 13), .ref (sz + 14), .ref (sz + 15), .ref (sz + 16), .ref (sz + 17), .ref (sz + 18), .int 0, .ref (sz + 19), .ref (sz + 20), .ref (sz + 21), .int 0, .ref (sz + 22), .int 0, .ref (sz + 23), .ref (sz + 24), .int 0, .ref (sz + 25), .ref (sz + 26), .ref (sz + 27)])))
theorem g0_1 (sz : Nat) : gI (xw0 sz) (some sz) 0 1 = some 0 := by simp [gI, gF, xw0_0, oI]
theorem g0_3 (sz : Nat) : gI (xw0 sz) (some sz) 0 3 = some 0 := by simp [gI, gF, xw0_0, oI]
theorem g0_0 (sz : Nat) : gR (xw0 sz) (some sz) 0 0 = some (some (sz + 1)) := by simp [gR, gF, xw0_0, oR]
theorem g0_2 (sz : Nat) : gR (xw0 sz) (some sz) 0 2 = some (some (sz + 2)) := by simp [gR, gF, xw0_0, oR]
theorem g0_4 (sz : Nat) : gR (xw0 sz) (some sz) 0 4 = some (some (sz + 3)) := by simp [gR, gF, xw0_0, oR]
theorem g0_5 (sz : Nat) : gR (xw0 sz) (some sz) 0 5 = some (some (sz + 10)) := by simp [gR, gF, xw0_0, oR]
theorem o0 (sz : Nat) : xo (xw0 sz) (some sz) 0 = some sz := by simp [xo, xw0_0]
theorem o5 (sz : Nat) : xo (xw0 sz) (some (sz + 11)) 5 = some (sz + 11) := by simp [xo, xw0_11]
theorem o5T (sz : Nat) (k : Int32) : xo (xwT sz k) (some (sz + 11)) 5 = some (sz + 11) := by simp [xo, xwT, va_up]
theorem p5T (sz : Nat) (k : Int32) : pF (xw0 sz) (some (sz + 11)) 5 0 (.int k) = some (xwT sz k) := by simp [pF, xw0_11, xwT]
theorem g5T (sz : Nat) (k : Int32) : gI (xwT sz k) (some (sz + 11)) 5 0 = some k := by simp [gI, gF, xwT, va_up, oI]
theorem g5_1 (sz : Nat) : gI (xw0 sz) (some (sz + 11)) 5 1 = some 0 := by simp [gI, gF, xw0_11, oI]
theorem g5T_1 (sz : Nat) (k : Int32) : gI (xwT sz k) (some (sz + 11)) 5 1 = some 0 := by simp [gI, gF, xwT, va_up, oI]
theorem g5_9 (sz : Nat) : gI (xw0 sz) (some (sz + 11)) 5 9 = some 0 := by simp [gI, gF, xw0_11, oI]
theorem g5T_9 (sz : Nat) (k : Int32) : gI (xwT sz k) (some (sz + 11)) 5 9 = some 0 := by simp [gI, gF, xwT, va_up, oI]
theorem g5_13 (sz : Nat) : gI (xw0 sz) (some (sz + 11)) 5 13 = some 0 := by simp [gI, gF, xw0_11, oI]
theorem g5T_13 (sz : Nat) (k : Int32) : gI (xwT sz k) (some (sz + 11)) 5 13 = some 0 := by simp [gI, gF, xwT, va_up, oI]
theorem g5_15 (sz : Nat) : gI (xw0 sz) (some (sz + 11)) 5 15 = some 0 := by simp [gI, gF, xw0_11, oI]
theorem g5T_15 (sz : Nat) (k : Int32) : gI (xwT sz k) (some (sz + 11)) 5 15 = some 0 := by simp [gI, gF, xwT, va_up, oI]
theorem t5T (sz : Nat) (k : Int32) : f_Mod_thrown (xwT sz k) (sz + 11) = some k := by simp [f_Mod_thrown, g5T]
theorem i32_no (x : Int32) (h : ¬ x < 0) : (0 : Int32) - 1 < x := by
  rw [Int32.lt_iff_toInt_lt] at *
  have : ((0 : Int32) - 1).toInt = -1 := by decide
  have h0 : (0 : Int32).toInt = 0 := by decide
  omega
theorem i32_ge (x : Int32) (h : ¬ x < 0) : (0 : Int32) ≤ x := Int32.not_lt.mp h
theorem xnoW (w : Mp) (x : Int32) : f_LM_isWithin w x 0 (0 - 1) = some 0 := by
  unfold f_LM_isWithin
  by_cases h : x < 0
  · rw [if_pos h]
  · rw [if_neg h, if_pos (i32_no x h)]
theorem xnoF (sz : Nat) (x : Int32) : f_LM_faceOrNull (xw0 sz) sz x = some none := by
  unfold f_LM_faceOrNull
  rw [g0_3]
  simp only [Option.bind_some, xnoW, if_true]
theorem xnoL (sz : Nat) (x : Int32) : f_LM_leafOrNull (xw0 sz) sz x = some none := by
  unfold f_LM_leafOrNull
  rw [g0_1]
  simp only [Option.bind_some, xnoW, if_true]
theorem i1_0 : ¬ ((1 : Int32) ≤ 0) := by decide
theorem xnF (sz : Nat) (x : Int32) : f_Mod_noFace (xw0 sz) (sz + 11) x = some (1, xwT sz 1) := by
  unfold f_Mod_noFace xJ1
  by_cases h : x < 0
  · simp only [if_pos h, p5T, Option.bind_some, g5T, if_neg i1_0]
  · simp only [if_neg h, p5T, Option.bind_some, g5T, if_neg i1_0, g5_9]
theorem xnP (sz : Nat) (x y : Int32) : f_Mod_noPiece (xw0 sz) (sz + 11) x y = some (1, xwT sz 1) := by
  unfold f_Mod_noPiece xJ1
  by_cases h : x < 0
  · simp only [if_pos h, p5T, Option.bind_some, g5T, if_neg i1_0]
  · simp only [if_neg h, p5T, Option.bind_some, g5T, if_neg i1_0, g5_9, if_pos (i32_ge x h)]
theorem xnS (sz : Nat) (x y : Int32) : f_Mod_noSeam (xw0 sz) (sz + 11) x y = some (1, xwT sz 1) := by
  unfold f_Mod_noSeam xJ1
  by_cases h : x < 0
  · simp only [if_pos h, p5T, Option.bind_some, g5T, if_neg i1_0]
  · simp only [if_neg h, p5T, Option.bind_some, g5T, if_neg i1_0, g5_9, if_pos (i32_ge x h)]
theorem i1n0 : ¬ ((1 : Int32) = 0) := by decide
def xok {α : Type} (sz : Nat) (A : Option (Int32 × Mp × Nat)) (M : Mp → Option (α × Mp)) (val : α → Int64) : Prop := ∃ (k : Int32) (w1 : Mp) (s1 : Nat) (v : α) (w2 : Mp), A = some (k, w1, s1) ∧ xo w1 (some (sz + 11)) 5 = some (sz + 11) ∧ M w1 = some (v, w2) ∧ xo w2 (some (sz + 11)) 5 = some (sz + 11) ∧ f_Mod_thrown w2 (sz + 11) = some k ∧ (k = 0 → aJ w2 (some (sz + 28)) 5 0 = some (val v))
def xvI (v : Int32) : Int64 := v.toInt64
def xvB (v : Int32) : Int64 := if v = 0 then 0 else 1
def xvJ (v : Int64) : Int64 := v
theorem op_apart (sz : Nat) (a0 : Int32) : xok sz (f_Law_apart (xw0 sz) (sz + 29) (some sz) a0 (some (sz + 28))) (fun w => f_Mod_apart w (sz + 11) a0) xvI := by
  refine ⟨1, xw0 sz, sz + 30, 0, xwT sz 1, ?_, o5 sz, ?_, o5T sz 1, t5T sz 1, fun h => absurd h i1n0⟩
  · simp [f_Law_apart, f_LM_apart, o0, xnoF, xsw]
  · simp [f_Mod_apart, o5, xnF, i1n0]
theorem op_place (sz : Nat) (a0 a1 a2 : Int32) : xok sz (f_Law_place (xw0 sz) (sz + 29) (some sz) a0 a1 a2 (some (sz + 28))) (fun w => f_Mod_place w (sz + 11) a0 a1 a2) xvI := by
  refine ⟨1, xw0 sz, sz + 30, 0, xwT sz 1, ?_, o5 sz, ?_, o5T sz 1, t5T sz 1, fun h => absurd h i1n0⟩
  · simp [f_Law_place, f_LM_place, o0, xnoF, xsw]
  · simp [f_Mod_place, o5, xnP, i1n0]
theorem op_at (sz : Nat) (a0 a1 a2 : Int32) : xok sz (f_Law_at (xw0 sz) (sz + 29) (some sz) a0 a1 a2 (some (sz + 28))) (fun w => f_Mod_at w (sz + 11) a0 a1 a2) xvI := by
  refine ⟨1, xw0 sz, sz + 30, 0, xwT sz 1, ?_, o5 sz, ?_, o5T sz 1, t5T sz 1, fun h => absurd h i1n0⟩
  · simp [f_Law_at, f_LM_at, o0, xnoF, xsw]
  · simp [f_Mod_at, o5, xnF, i1n0]
theorem op_about (sz : Nat) (a0 a1 : Int32) : xok sz (f_Law_about (xw0 sz) (sz + 29) (some sz) a0 a1 (some (sz + 28))) (fun w => f_Mod_about w (sz + 11) a0 a1) xvI := by
  refine ⟨1, xw0 sz, sz + 30, 0, xwT sz 1, ?_, o5 sz, ?_, o5T sz 1, t5T sz 1, fun h => absurd h i1n0⟩
  · simp [f_Law_about, f_LM_about, o0, xnoF, xsw]
  · simp [f_Mod_about, o5, xnF, i1n0]
theorem op_seam (sz : Nat) (a0 a1 : Int32) : xok sz (f_Law_seam (xw0 sz) (sz + 29) (some sz) a0 a1 (some (sz + 28))) (fun w => f_Mod_seam w (sz + 11) a0 a1) xvI := by
  refine ⟨1, xw0 sz, sz + 30, 0, xwT sz 1, ?_, o5 sz, ?_, o5T sz 1, t5T sz 1, fun h => absurd h i1n0⟩
  · simp [f_Law_seam, f_LM_seam, o0, xnoF, xsw]
  · simp [f_Mod_seam, o5, xnS, i1n0]
theorem op_sum (sz : Nat) (a0 a1 a2 : Int32) : xok sz (f_Law_sum (xw0 sz) (sz + 29) (some sz) a0 a1 a2 (some (sz + 28))) (fun w => f_Mod_sum w (sz + 11) a0 a1 a2) xvJ := by
  refine ⟨1, xw0 sz, sz + 30, 0, xwT sz 1, ?_, o5 sz, ?_, o5T sz 1, t5T sz 1, fun h => absurd h i1n0⟩
  · simp [f_Law_sum, f_LM_sum, o0, xnoF, xsw]
  · simp [f_Mod_sum, o5, xnS, i1n0]
theorem op_mirrored (sz : Nat) (a0 a1 : Int32) : xok sz (f_Law_mirrored (xw0 sz) (sz + 29) (some sz) a0 a1 (some (sz + 28))) (fun w => f_Mod_mirrored w (sz + 11) a0 a1) xvB := by
  refine ⟨1, xw0 sz, sz + 30, 0, xwT sz 1, ?_, o5 sz, ?_, o5T sz 1, t5T sz 1, fun h => absurd h i1n0⟩
  · simp [f_Law_mirrored, f_LM_mirrored, o0, xnoF, xsw]
  · simp [f_Mod_mirrored, o5, xnS, i1n0]
theorem op_balance (sz : Nat) (a0 : Int32) : xok sz (f_Law_balance (xw0 sz) (sz + 29) (some sz) a0 (some (sz + 28))) (fun w => f_Mod_balance w (sz + 11) a0) xvB := by
  refine ⟨1, xw0 sz, sz + 30, 0, xwT sz 1, ?_, o5 sz, ?_, o5T sz 1, t5T sz 1, fun h => absurd h i1n0⟩
  · simp [f_Law_balance, f_LM_balance, o0, xnoF, xsw]
  · simp [f_Mod_balance, o5, xnF, i1n0]
theorem op_number (sz : Nat) (a0 a1 a2 : Int32) : xok sz (f_Law_number (xw0 sz) (sz + 29) (some sz) a0 a1 a2 (some (sz + 28))) (fun w => f_Mod_number w (sz + 11) a0 a1 a2) xvI := by
  refine ⟨1, xw0 sz, sz + 30, 0, xwT sz 1, ?_, o5 sz, ?_, o5T sz 1, t5T sz 1, fun h => absurd h i1n0⟩
  · simp [f_Law_number, f_LM_number, o0, xnoF, xsw]
  · simp [f_Mod_number, o5, xnP, i1n0]
