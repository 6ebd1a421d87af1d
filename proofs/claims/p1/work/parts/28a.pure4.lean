/-! ONE CALL ON THE FRESH WORLD: faces -/
theorem xgath (sz : Nat) (x : Int32) : f_LM_gatherFree (xw0 sz) sz x = some (0, xw0 sz) := by
  unfold f_LM_gatherFree
  rw [show f_LM_gatherFree_L4 sz x (99999 + 1) 0 0 (xw0 sz) = some (0, 0, 0, xw0 sz) by
    rw [f_LM_gatherFree_L4, g0_1]
    simp only [Option.bind_some, if_pos i0le0]]
  rfl
theorem r3_5 (sz : Nat) : gR (xw0 sz) (some (sz + 3)) 4 5 = some (some (sz + 7)) := by simp [gR, gF, xw0_3, oR]
theorem r3_6 (sz : Nat) : gR (xw0 sz) (some (sz + 3)) 4 6 = some (some (sz + 8)) := by simp [gR, gF, xw0_3, oR]
theorem r3_7 (sz : Nat) : gR (xw0 sz) (some (sz + 3)) 4 7 = some (some (sz + 9)) := by simp [gR, gF, xw0_3, oR]
theorem g3_8 (sz : Nat) : gI (xw0 sz) (some (sz + 3)) 4 8 = some 1 := by simp [gI, gF, xw0_3, oI]
theorem o3 (sz : Nat) : xo (xw0 sz) (some (sz + 3)) 4 = some (sz + 3) := by simp [xo, xw0_3]
theorem p3_s {sz : Nat} : va_up (xw0 sz) (sz + 3) (some (.inl (4, [.ref (sz + 4), .int 0, .int 0, .ref (sz + 5), .ref (sz + 6), .ref (sz + 7), .ref (sz + 8), .ref (sz + 9), .int 1]))) = xw0 sz := va_up_same (xw0_3 sz)
theorem p3_5 (sz : Nat) : pF (xw0 sz) (some (sz + 3)) 4 5 (va_rf (some (sz + 7))) = some (xw0 sz) := by
  simp [pF, xw0_3]; exact p3_s
theorem p3_6 (sz : Nat) : pF (xw0 sz) (some (sz + 3)) 4 6 (va_rf (some (sz + 8))) = some (xw0 sz) := by
  simp [pF, xw0_3]; exact p3_s
theorem p3_8 (sz : Nat) : pF (xw0 sz) (some (sz + 3)) 4 8 (.int 1) = some (xw0 sz) := by
  simp [pF, xw0_3]; exact p3_s
def xwA (sz : Nat) : Mp := va_up (va_up (xw0 sz) (sz + 29) (some (.inr (0, 1, .inl (fun _ => 0))))) (sz + 3) (some (.inl (4, [.ref (sz + 4), .int 0, .int 0, .ref (sz + 5), .ref (sz + 6), .ref (sz + 7), .ref (sz + 8), .ref (sz + 29), .int 1])))
def xwB (sz : Nat) : Mp := va_up (xwA sz) (sz + 29) (some (.inr (0, 1, .inl (upd (fun _ => 0) 0 0))))
theorem xgr7 (sz s : Nat) : f_Plan_grown 0 (xw0 sz) s (some (sz + 7)) (0 * 8) = some (some (sz + 7), xw0 sz, s) := by
  simp [f_Plan_grown, aL, xw0_7]
theorem xgr8 (sz s : Nat) : f_Plan_grown 0 (xw0 sz) s (some (sz + 8)) (0 * 8) = some (some (sz + 8), xw0 sz, s) := by
  simp [f_Plan_grown, aL, xw0_8]
theorem xgr9 (sz : Nat) : f_Plan_grown 1 (xw0 sz) (sz + 29) (some (sz + 9)) ((0 + 1) * 1) = some (some (sz + 29), va_up (xw0 sz) (sz + 29) (some (.inr (0, 1, .inl (fun _ => 0)))), sz + 30) := by
  have h : xnI (xw0 sz) (sz + 29) 0 1 (if (0 + 1) * 1 < ((2 : Int32) * 0) then ((2 : Int32) * 0) else (0 + 1) * 1) = some (va_up (xw0 sz) (sz + 29) (some (.inr (0, 1, .inl (fun _ => 0))))) := by
    unfold xnI
    rw [if_neg (by decide)]
    rfl
  have hl : aL (xw0 sz) (some (sz + 9)) 0 = some 0 := by simp [aL, xw0_9]
  unfold f_Plan_grown
  rw [hl]
  simp only [Option.bind_some]
  rw [if_pos (by decide), h]
  rfl
theorem pA (sz : Nat) : pF (va_up (xw0 sz) (sz + 29) (some (.inr (0, 1, .inl (fun _ => 0))))) (some (sz + 3)) 4 7 (va_rf (some (sz + 29))) = some (xwA sz) := by
  simp [pF, va_up, xw0_3]
  rfl
theorem xroom (sz : Nat) : f_Plan_makeRoom 0 0 1 (xw0 sz) (sz + 29) (sz + 3) 0 = some ((), xwA sz, sz + 30) := by
  unfold f_Plan_makeRoom
  simp only [r3_5, Option.bind_some, xgr7, p3_5, r3_6, xgr8, p3_6, r3_7, g3_8, xgr9, pA]
theorem xrows (w : Mp) (h0 : Nat) (r1 : Option Nat) : f_Plan_findRows w h0 r1 0 = some ((), w) := by
  unfold f_Plan_findRows
  rw [show f_Plan_findRows_L2 h0 r1 0 (99999 + 1) 0 w = some (0, 0, w) by
    rw [f_Plan_findRows_L2, if_pos i0le0]]
  rfl
theorem xkeep (w : Mp) (h0 : Nat) (r1 : Option Nat) : f_Plan_keepPlan w h0 r1 0 = some ((), w) := by
  unfold f_Plan_keepPlan
  rw [show f_Plan_keepPlan_L8 h0 r1 0 (99999 + 1) 0 0 0 w = some (0, 0, 0, 0, w) by
    rw [f_Plan_keepPlan_L8, if_pos i0le0]]
  rfl
theorem gA8 (sz : Nat) : gI (xwA sz) (some (sz + 3)) 4 8 = some 1 := by simp [gI, gF, xwA, va_up, oI]
theorem rA7 (sz : Nat) : gR (xwA sz) (some (sz + 3)) 4 7 = some (some (sz + 29)) := by simp [gR, gF, xwA, va_up, oR]
theorem gB8 (sz : Nat) : gI (xwB sz) (some (sz + 3)) 4 8 = some 1 := by simp [gI, gF, xwB, xwA, va_up, oI]
theorem sAB (sz : Nat) : sI (xwA sz) (some (sz + 29)) 0 (0 * 1 + 0) 0 = some (xwB sz) := by
  simp [sI, xwA, va_up]
  rfl
theorem xloss (sz : Nat) : f_Plan_findLeastLoss (xwA sz) (sz + 3) 0 = some ((), xwB sz) := by
  unfold f_Plan_findLeastLoss
  rw [show f_Plan_findLeastLoss_L2 (sz + 3) 0 (99998 + 1 + 1) 0 (xwA sz) = some (0, 1, xwB sz) by
    rw [f_Plan_findLeastLoss_L2]
    simp only [gA8, rA7, Option.bind_some]
    rw [if_neg (by decide), if_pos (by decide), sAB]
    simp only [Option.bind_some]
    rw [f_Plan_findLeastLoss_L2]
    simp only [gB8, Option.bind_some]
    rw [if_pos (by decide)]
    rfl]
  simp only [Option.bind_some]
  rw [show f_Plan_findLeastLoss_L49 (sz + 3) (99999 + 1) (0 - 1) (xwB sz) = some (0, 0 - 1, xwB sz) by
    rw [f_Plan_findLeastLoss_L49, if_pos (by decide)]]
  rfl
theorem i_sh : (1 : Int32) <<< ((0 : Int32) &&& 31) = 1 := by decide
theorem i_mil : (0 : Int32) < 1000000 := by decide
set_option maxHeartbeats 4000000 in
theorem xplan (sz : Nat) : ∃ w1, f_Plan_planFrom 0 0 1 (xw0 sz) (sz + 29) (sz + 3) (some (sz + 10)) 0 = some (0, w1, sz + 30) ∧ ∀ k, 10 ≤ k → k < 29 → w1 (sz + k) = xw0 sz (sz + k) := by
  have oA : xo (xwA sz) (some (sz + 3)) 4 = some (sz + 3) := by simp [xo, xwA, va_up]
  have oB : xo (xwB sz) (some (sz + 3)) 4 = some (sz + 3) := by simp [xo, xwB, xwA, va_up]
  have rB : gR (xwB sz) (some (sz + 3)) 4 7 = some (some (sz + 29)) := by simp [gR, gF, xwB, xwA, va_up, oR]
  have aB : aI (xwB sz) (some (sz + 29)) 0 0 = some 0 := by simp [aI, xwB, va_up, upd]
  have pB : ∃ w1, pF (xwB sz) (some (sz + 3)) 4 2 (.int 1) = some w1 ∧ ∀ k, 10 ≤ k → k < 29 → w1 (sz + k) = xw0 sz (sz + k) := by
    refine ⟨va_up (xwB sz) (sz + 3) (some (.inl (4, [.ref (sz + 4), .int 0, .int 1, .ref (sz + 5), .ref (sz + 6), .ref (sz + 7), .ref (sz + 8), .ref (sz + 29), .int 1]))), ?_, fun k h1 h2 => ?_⟩
    · simp [pF, xwB, xwA, va_up]
    · simp [xwB, xwA, va_up, show k ≠ 3 by omega, show k ≠ 29 by omega]
  obtain ⟨w1, pB, hw⟩ := pB
  refine ⟨w1, ?_, hw⟩
  unfold f_Plan_planFrom
  simp only [g3_1, Option.bind_some, i_sh, p3_8, o3, xroom, oA, xrows, xloss, rB, aB, if_pos i_mil, oB, xkeep, pB]
