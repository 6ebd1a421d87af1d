/-! ONE CALL ON THE FRESH WORLD: the calls that may write -/
theorem i0lt1 : (0 : Int32) < 1 := by decide
def xokc {α : Type} (sz : Nat) (A : Option (Int32 × Mp × Nat)) (M : Mp → Option (α × Mp)) (val : α → Int64) : Prop := match A with
  | none => False
  | some q => xo q.2.1 (some (sz + 11)) 5 = some (sz + 11) ∧ match M q.2.1 with
    | none => False
    | some m => xo m.2 (some (sz + 11)) 5 = some (sz + 11) ∧ f_Mod_thrown m.2 (sz + 11) = some q.1 ∧ (q.1 = 0 → aJ m.2 (some (sz + 28)) 5 0 = some (val m.1))
theorem xok_of {α : Type} {sz : Nat} {A : Option (Int32 × Mp × Nat)} {M : Mp → Option (α × Mp)} {val : α → Int64} (h : xokc sz A M val) : xok sz A M val := by
  unfold xokc at h
  match A, h with
  | some q, h =>
    obtain ⟨h1, h2⟩ := h
    match hm : M q.2.1, h2 with
    | some m, h2 => exact ⟨q.1, q.2.1, q.2.2, m.1, m.2, rfl, h1, hm, h2.1, h2.2.1, h2.2.2⟩
theorem op_pixel (sz : Nat) (a0 a1 a2 a3 : Int32) : xok sz (f_Law_pixel (xw0 sz) (sz + 29) (some sz) a0 a1 a2 a3 (some (sz + 28))) (fun w => f_Mod_pixel w (sz + 11) a0 a1 a2 a3) xvB := by
  refine ⟨1, xw0 sz, sz + 30, 0, xwT sz 1, ?_, o5 sz, ?_, o5T sz 1, t5T sz 1, fun h => absurd h i1n0⟩
  · simp [f_Law_pixel, f_LM_pixel, o0, xnoL, xsw]
  · unfold f_Mod_pixel xJ1
    by_cases h : a0 < 0
    · simp only [if_pos h, if_true, p5T, Option.bind_some, g5T, if_pos i0lt1]
    · simp only [if_neg h, g5_1, Option.bind_some, if_pos (i32_ge a0 h), if_true, p5T, g5T, if_pos i0lt1]
theorem op_reserve (sz : Nat) (a0 a1 : Int32) : xok sz (f_Law_reserve (xw0 sz) (sz + 29) (some sz) a0 a1 (some (sz + 28))) (fun w => f_Mod_reserve w (sz + 11) a0 a1) xvB := by
  refine ⟨1, xw0 sz, sz + 30, 0, xwT sz 1, ?_, o5 sz, ?_, o5T sz 1, t5T sz 1, fun h => absurd h i1n0⟩
  · simp [f_Law_reserve, f_LM_reserve, o0, xnoL, xsw]
  · unfold f_Mod_reserve xJ1
    by_cases h : a0 < 0
    · simp only [if_pos h, if_true, p5T, Option.bind_some, g5T, if_pos i0lt1]
    · simp only [if_neg h, g5_1, Option.bind_some, if_pos (i32_ge a0 h), if_true, p5T, g5T, if_pos i0lt1]
theorem g3_1 (sz : Nat) : gI (xw0 sz) (some (sz + 3)) 4 1 = some 0 := by simp [gI, gF, xw0_3, oI]
theorem g3_2 (sz : Nat) : gI (xw0 sz) (some (sz + 3)) 4 2 = some 0 := by simp [gI, gF, xw0_3, oI]
theorem op_planned (sz : Nat) (a0 a1 : Int32) : xok sz (f_Law_planned (xw0 sz) (sz + 29) (some sz) a0 a1 (some (sz + 28))) (fun w => f_Mod_planned w (sz + 11) a0 a1) xvI := by
  refine ⟨1, xw0 sz, sz + 30, 0, xwT sz 1, ?_, o5 sz, ?_, o5T sz 1, t5T sz 1, fun h => absurd h i1n0⟩
  · simp [f_Law_planned, f_LM_planned, o0, g0_4, g3_2, xsw]
  · simp [f_Mod_planned, xJ1, g5_15, p5T, g5T, if_neg i1_0]
theorem isIn_eq (w w' : Mp) (x a b : Int32) : f_Mod_isIn w x a b = f_LM_isWithin w' x a b := rfl
theorem within_cases (w : Mp) (x a b : Int32) : (f_LM_isWithin w x a b = some 0 ∧ ¬ (a ≤ x ∧ x ≤ b)) ∨ (f_LM_isWithin w x a b = some 1 ∧ a ≤ x ∧ x ≤ b) := by
  unfold f_LM_isWithin
  by_cases h : x < a
  · left; rw [if_pos h]; exact ⟨rfl, fun q => absurd h (Int32.not_lt.mpr q.1)⟩
  · rw [if_neg h]
    by_cases h2 : b < x
    · left; rw [if_pos h2]; exact ⟨rfl, fun q => absurd h2 (Int32.not_lt.mpr q.2)⟩
    · right; rw [if_neg h2]; exact ⟨rfl, Int32.not_lt.mp h, Int32.not_lt.mp h2⟩
theorem within_any {w w' : Mp} {x a b : Int32} {v : Option Int32} (h : f_LM_isWithin w x a b = v) : f_LM_isWithin w' x a b = v := h
theorem i0lt8 : (0 : Int32) < 8 := by decide
theorem i0n8 : ¬ (0 : Int32) = 8 := by decide
theorem i2_0 : ¬ ((2 : Int32) ≤ 0) := by decide
theorem i2n0 : ¬ ((2 : Int32) = 0) := by decide
set_option maxHeartbeats 4000000 in
theorem op_want (sz : Nat) (a0 : Int32) : xok sz (f_Law_want (xw0 sz) (sz + 29) (some sz) a0 (some (sz + 28))) (fun w => f_Mod_want w (sz + 11) a0) xvI := by
  rcases within_cases (xw0 sz) a0 1 100 with ⟨h, -⟩ | ⟨h, -⟩
  · refine ⟨2, xw0 sz, sz + 30, 0, xwT sz 2, ?_, o5 sz, ?_, o5T sz 2, t5T sz 2, fun h => absurd h i2n0⟩
    · simp [f_Law_want, f_LM_want, o0, g0_4, g3_1, xsw, i0lt8, h]
    · simp [f_Mod_want, xJ1, g5_13, p5T, g5T, i0n8, isIn_eq _ (xw0 sz), h, i2_0]
  · apply xok_of
    have h' : ∀ w, f_LM_isWithin w a0 1 100 = some 1 := fun w => h
    simp [xokc, f_Law_want, f_LM_want, o0, g0_4, g3_1, xsw, i0lt8, h', f_Plan_addWanted, xo, gR, gI, gF, oR, oI, sI, sJ, aJ, pF, va_up, xw0_0, xw0_3, xw0_4, xw0_11, xw0_22, xw0_28, f_Mod_want, xJ1, i0n8, isIn_eq _ (xw0 sz), f_Mod_thrown, upd, vp_updL, xvI]
set_option maxHeartbeats 4000000 in
theorem op_clear (sz : Nat) : ∃ (v : Int32) (w1 w2 : Mp), f_LM_clear (xw0 sz) sz = some (v, w1) ∧ xo w1 (some (sz + 11)) 5 = some (sz + 11) ∧ f_Mod_clear w1 (sz + 11) = some (v, w2) := by
  have h1 : ∃ w1, f_LM_clear (xw0 sz) sz = some (0, w1) ∧ w1 (sz + 11) = xw0 sz (sz + 11) := by
    simp [f_LM_clear, f_Plan_dropWanted, g0_4, g3_1, xo, pF, va_up, xw0_3]
  obtain ⟨w1, h1, h2⟩ := h1
  have h3 : ∃ w2, f_Mod_clear w1 (sz + 11) = some (0, w2) := by
    simp [f_Mod_clear, pF, gI, gF, oI, va_up, h2, xw0_11]
  obtain ⟨w2, h3⟩ := h3
  exact ⟨0, w1, w2, h1, by simp [xo, h2, xw0_11], h3⟩
theorem i0lt32 : (0 : Int32) < 32 := by decide
theorem i0n32 : ¬ (0 : Int32) = 32 := by decide
theorem i0le0 : (0 : Int32) ≤ 0 := by decide
theorem xtaken (sz : Nat) (x y : Int32) : f_LM_isNumberTaken (xw0 sz) sz x y = some 0 := by
  unfold f_LM_isNumberTaken
  rw [show f_LM_isNumberTaken_L2 (xw0 sz) sz x y (99999 + 1) 0 = some (0, 0) by
    rw [f_LM_isNumberTaken_L2, g0_1]
    simp only [Option.bind_some, if_pos i0le0]]
  rfl
theorem xleafL {w : Mp} {h0 : Nat} (hg : gI w (some h0) 5 1 = some 0) (x1 x2 x3 x4 : Int32) : f_Mod_leaf_L6 w h0 x1 x2 x3 x4 100000 0 0 = some (0, 0, 0) := by
  rw [show f_Mod_leaf_L6 w h0 x1 x2 x3 x4 100000 0 0 = f_Mod_leaf_L6 w h0 x1 x2 x3 x4 (99999 + 1) 0 0 from rfl, f_Mod_leaf_L6, hg]
  simp only [Option.bind_some, if_pos i0le0]
theorem i12 {x : Int32} (h1 : 1 ≤ x) (h2 : x ≤ 12) : ∃ i : Fin 12, x = Int32.ofNat (i.val + 1) := by
  rw [Int32.le_iff_toInt_le] at h1 h2
  have e1 : (1 : Int32).toInt = 1 := by decide
  have e2 : (12 : Int32).toInt = 12 := by decide
  rw [e1] at h1
  rw [e2] at h2
  refine ⟨⟨(x.toInt - 1).toNat, by omega⟩, ?_⟩
  apply Int32.toInt_inj.mp
  show x.toInt = (Int32.ofNat ((x.toInt - 1).toNat + 1)).toInt
  rw [show (x.toInt - 1).toNat + 1 = x.toInt.toNat by omega, Int32.toInt_ofNat_of_lt (by omega)]
  omega
theorem i144 : ∀ i j : Fin 12, ¬ (Int32.ofNat (i.val + 1) * Int32.ofNat (j.val + 1) < 0 ∨ 144 < (Int32.ofNat (i.val + 1) * Int32.ofNat (j.val + 1)).toNatClampNeg ∨ 100000000 < (Int32.ofNat (i.val + 1) * Int32.ofNat (j.val + 1)).toNatClampNeg) := by decide +kernel
theorem xarea {x y : Int32} (h1 : 1 ≤ x ∧ x ≤ 12) (h2 : 1 ≤ y ∧ y ≤ 12) : ¬ (x * y < 0 ∨ 144 < (x * y).toNatClampNeg ∨ 100000000 < (x * y).toNatClampNeg) := by
  obtain ⟨i, rfl⟩ := i12 h1.1 h1.2
  obtain ⟨j, rfl⟩ := i12 h2.1 h2.2
  exact i144 i j
theorem xleafno {sz : Nat} {a0 a1 a2 a3 : Int32} (hA : f_LM_leaf (xw0 sz) (sz + 29) sz a0 a1 a2 a3 = some (.inr 1, xw0 sz, sz + 30)) (hM : f_Mod_leaf (xw0 sz) (sz + 11) a0 a1 a2 a3 = some (0, xwT sz 2)) : xok sz (f_Law_leaf (xw0 sz) (sz + 29) (some sz) a0 a1 a2 a3 (some (sz + 28))) (fun w => f_Mod_leaf w (sz + 11) a0 a1 a2 a3) xvI := by
  refine ⟨2, xw0 sz, sz + 30, 0, xwT sz 2, ?_, o5 sz, hM, o5T sz 2, t5T sz 2, fun h => absurd h i2n0⟩
  simp [f_Law_leaf, o0, hA, xsw]
set_option maxHeartbeats 4000000 in
theorem op_leaf (sz : Nat) (a0 a1 a2 a3 : Int32) : xok sz (f_Law_leaf (xw0 sz) (sz + 29) (some sz) a0 a1 a2 a3 (some (sz + 28))) (fun w => f_Mod_leaf w (sz + 11) a0 a1 a2 a3) xvI := by
  rcases within_cases (xw0 sz) a0 0 3 with ⟨h0, -⟩ | ⟨h0, -⟩
  · refine xleafno ?_ ?_
    · simp [f_LM_leaf, g0_1, o0, xtaken, i0lt32, h0]
    · simp [f_Mod_leaf, xleafL (g5_1 sz), xJ1, g5_1, p5T, g5T, i0n32, isIn_eq _ (xw0 sz), h0, i2_0]
  rcases within_cases (xw0 sz) a1 0 1000 with ⟨h1, -⟩ | ⟨h1, -⟩
  · refine xleafno ?_ ?_
    · simp [f_LM_leaf, g0_1, o0, xtaken, i0lt32, h0, h1]
    · simp [f_Mod_leaf, xleafL (g5_1 sz), xJ1, g5_1, p5T, g5T, i0n32, isIn_eq _ (xw0 sz), h0, h1, i2_0]
  rcases within_cases (xw0 sz) a2 1 12 with ⟨h2, -⟩ | ⟨h2, r2⟩
  · refine xleafno ?_ ?_
    · simp [f_LM_leaf, g0_1, o0, xtaken, i0lt32, h0, h1, h2]
    · simp [f_Mod_leaf, xleafL (g5_1 sz), xJ1, g5_1, p5T, g5T, i0n32, isIn_eq _ (xw0 sz), h0, h1, h2, i2_0]
  rcases within_cases (xw0 sz) a3 1 12 with ⟨h3, -⟩ | ⟨h3, r3⟩
  · refine xleafno ?_ ?_
    · simp [f_LM_leaf, g0_1, o0, xtaken, i0lt32, h0, h1, h2, h3]
    · simp [f_Mod_leaf, xleafL (g5_1 sz), xJ1, g5_1, p5T, g5T, i0n32, isIn_eq _ (xw0 sz), h0, h1, h2, h3, i2_0]
  · apply xok_of
    have hr := xarea r2 r3
    have hI : ∀ w t, xnI w t 0 144 (a2 * a3) = some (va_up w t (some (.inr (0, (a2 * a3).toNatClampNeg, .inl (fun _ => 0))))) := fun w t => by
      unfold xnI
      rw [if_neg hr]
    have hA : ∃ w1 s1, f_Law_leaf (xw0 sz) (sz + 29) (some sz) a0 a1 a2 a3 (some (sz + 28)) = some (0, w1, s1) ∧ (∀ k, 11 ≤ k → k < 28 → w1 (sz + k) = xw0 sz (sz + k)) ∧ w1 (sz + 28) = some (.inr (5, 1, .inr (.inl (vp_updL (fun _ => 0) 0 0)))) := by
      simp [f_Law_leaf, f_LM_leaf, g0_1, o0, xtaken, i0lt32, h0, h1, h2, h3, f_Leaf_init, hI, xnO, xo, gR, gI, gF, oR, oI, sR, xis, sJ, pF, va_up, xw0_0, xw0_1, xw0_3, xw0_28, f_Plan_forgetPlan, xsw, Nat.add_assoc]
      intro k hk1 hk2
      simp [show k ≠ 28 by omega, show k ≠ 0 by omega, show k ≠ 3 by omega, show k ≠ 1 by omega, show k ≠ 30 by omega, show k ≠ 29 by omega]
    obtain ⟨w1, s1, hA, hw, ho⟩ := hA
    have w11 := (hw 11 (by omega) (by omega)).trans (xw0_11 sz)
    have w12 := (hw 12 (by omega) (by omega)).trans (xw0_12 sz)
    have w13 := (hw 13 (by omega) (by omega)).trans (xw0_13 sz)
    have w14 := (hw 14 (by omega) (by omega)).trans (xw0_14 sz)
    have w15 := (hw 15 (by omega) (by omega)).trans (xw0_15 sz)
    have g1 : gI w1 (some (sz + 11)) 5 1 = some 0 := by simp [gI, gF, w11, oI]
    have h0' : ∀ w, f_LM_isWithin w a0 0 3 = some 1 := fun w => h0
    have h1' : ∀ w, f_LM_isWithin w a1 0 1000 = some 1 := fun w => h1
    have h2' : ∀ w, f_LM_isWithin w a2 1 12 = some 1 := fun w => h2
    have h3' : ∀ w, f_LM_isWithin w a3 1 12 = some 1 := fun w => h3
    unfold xokc
    rw [hA]
    simp [xo, w11, f_Mod_leaf, xleafL g1, xJ1, isIn_eq _ (xw0 sz), h0', h1', h2', h3', gI, gF, oI, gR, oR, sI, pF, va_up, i0n32, w12, w13, w14, w15, ho, f_Mod_thrown, aJ, vp_updL, xvI]
