/-! ONE CALL ON THE FRESH WORLD: match -/
theorem xcount (sz : Nat) (x : Int32) : f_LM_countFree (xw0 sz) sz x = some 0 := by
  unfold f_LM_countFree
  rw [show f_LM_countFree_L4 (xw0 sz) sz x (99999 + 1) 0 0 = some (0, 0, 0) by
    rw [f_LM_countFree_L4, g0_1]
    simp only [Option.bind_some, if_pos i0le0]]
  rfl
theorem xleast0 (sz : Nat) (x : Int32) (h : ¬ 0 < x) : f_LM_leastFlitchWith (xw0 sz) sz x = some 0 := by
  unfold f_LM_leastFlitchWith
  rw [show f_LM_leastFlitchWith_L2 (xw0 sz) sz x (99999 + 1) 0 = some (1, 0) by
    rw [f_LM_leastFlitchWith_L2, if_neg (by decide), o0]
    simp only [Option.bind_some, xcount, if_neg h]]
  rfl
theorem xleast1 (sz : Nat) (x : Int32) (h : 0 < x) : f_LM_leastFlitchWith (xw0 sz) sz x = some (-1) := by
  unfold f_LM_leastFlitchWith
  have step : ∀ n i, ¬ (4 : Int32) ≤ i → f_LM_leastFlitchWith_L2 (xw0 sz) sz x (n + 1) i = f_LM_leastFlitchWith_L2 (xw0 sz) sz x n (i + 1) := fun n i hi => by
    rw [f_LM_leastFlitchWith_L2, if_neg hi, o0]
    simp only [Option.bind_some, xcount, if_pos h]
  rw [show f_LM_leastFlitchWith_L2 (xw0 sz) sz x (99999 + 1) 0 = some (0, 4) by
    rw [step _ _ (by decide), step 99998 _ (by decide), step 99997 _ (by decide), step 99996 _ (by decide)]
    show f_LM_leastFlitchWith_L2 (xw0 sz) sz x (99995 + 1) 4 = some (0, 4)
    rw [f_LM_leastFlitchWith_L2, if_pos (by decide)]]
  rfl
theorem xfillL16 {w : Mp} {h0 : Nat} (hg : gI w (some h0) 5 1 = some 0) (x1 x2 : Int32) : f_Mod_fillRow_L16 h0 x1 x2 100000 0 w = some (0, 0, w) := by
  rw [show f_Mod_fillRow_L16 h0 x1 x2 100000 0 w = f_Mod_fillRow_L16 h0 x1 x2 (99999 + 1) 0 w from rfl, f_Mod_fillRow_L16, hg]
  simp only [Option.bind_some, if_pos i0le0]
theorem i1000 {k : Nat} (h : k ≤ 1000) : ¬ (1000 : Int32) < Int32.ofNat k := by
  rw [Int32.lt_iff_toInt_lt, Int32.toInt_ofNat_of_lt (by omega), show (1000 : Int32).toInt = 1000 by decide]
  omega
theorem xfillL7 {w : Mp} {h0 : Nat} (hg : gI w (some h0) 5 1 = some 0) (x1 : Int32) : ∀ (d n : Nat), d ≤ 1001 → d < n → f_Mod_fillRow_L7 h0 x1 n (Int32.ofNat (1001 - d)) w = some (0, 1001, w)
  | 0, n + 1, _, _ => by
    rw [f_Mod_fillRow_L7, if_pos (by decide)]
    rfl
  | d + 1, n + 1, h1, h2 => by
    rw [f_Mod_fillRow_L7, if_neg (i1000 (by omega)), xfillL16 hg]
    simp only [Option.bind_some]
    rw [show Int32.ofNat (1001 - (d + 1)) + 1 = Int32.ofNat (1001 - d) by
      rw [show 1001 - d = (1001 - (d + 1)) + 1 by omega, Int32.ofNat_add]; rfl]
    exact xfillL7 hg x1 d n (by omega) (by omega)
theorem xfill {w : Mp} {h0 : Nat} (hg : gI w (some h0) 5 1 = some 0) (hp : pF w (some h0) 5 18 (.int 0) = some w) (x1 : Int32) : f_Mod_fillRow w h0 x1 = some ((), w) := by
  unfold f_Mod_fillRow
  rw [hp]
  simp only [Option.bind_some]
  rw [show f_Mod_fillRow_L7 h0 x1 100000 0 w = some (0, 1001, w) from xfillL7 hg x1 1001 100000 (by omega) (by omega)]
  rfl
theorem va_up_same {α : Type} {f : Nat → α} {k : Nat} {v : α} (h : f k = v) : va_up f k v = f := by
  funext j
  unfold va_up
  by_cases hj : j = k
  · rw [if_pos hj, hj, h]
  · rw [if_neg hj]
theorem p5_18 (sz : Nat) : pF (xw0 sz) (some (sz + 11)) 5 18 (.int 0) = some (xw0 sz) := by
  have h : va_up (xw0 sz) (sz + 11) (xw0 sz (sz + 11)) = xw0 sz := va_up_same rfl
  rw [xw0_11] at h
  simp [pF, xw0_11]
  exact h
theorem g5_18 (sz : Nat) : gI (xw0 sz) (some (sz + 11)) 5 18 = some 0 := by simp [gI, gF, xw0_11, oI]
theorem xmL7a (sz : Nat) (x1 x2 : Int32) (h : ¬ 0 < x2) : f_Mod_match_L7 (sz + 11) x1 x2 100000 0 (xw0 sz) = some (0, 0, xw0 sz) := by
  rw [show f_Mod_match_L7 (sz + 11) x1 x2 100000 0 (xw0 sz) = f_Mod_match_L7 (sz + 11) x1 x2 (99999 + 1) 0 (xw0 sz) from rfl, f_Mod_match_L7, if_neg (by decide), g5_18]
  simp only [Option.bind_some, if_pos (Int32.not_lt.mp h)]
theorem xmL7b (sz : Nat) (x1 x2 : Int32) (h : 0 < x2) : f_Mod_match_L7 (sz + 11) x1 x2 100000 0 (xw0 sz) = some (0, 4, xw0 sz) := by
  have step : ∀ n i, ¬ (4 : Int32) ≤ i → f_Mod_match_L7 (sz + 11) x1 x2 (n + 1) i (xw0 sz) = f_Mod_match_L7 (sz + 11) x1 x2 n (i + 1) (xw0 sz) := fun n i hi => by
    rw [f_Mod_match_L7, if_neg hi, g5_18, o5]
    simp only [Option.bind_some, if_neg (Int32.not_le.mpr h), xfill (g5_1 sz) (p5_18 sz)]
  rw [show f_Mod_match_L7 (sz + 11) x1 x2 100000 0 (xw0 sz) = f_Mod_match_L7 (sz + 11) x1 x2 (99999 + 1) 0 (xw0 sz) from rfl, step _ _ (by decide), step 99998 _ (by decide), step 99997 _ (by decide), step 99996 _ (by decide)]
  show f_Mod_match_L7 (sz + 11) x1 x2 (99995 + 1) 4 (xw0 sz) = some (0, 4, xw0 sz)
  rw [f_Mod_match_L7, if_pos (by decide)]
theorem im1 : ¬ (0 : Int32) = -1 := by decide
theorem i0n4 : ¬ (0 : Int32) = 4 := by decide
theorem within_no {w : Mp} {x : Int32} (h : ¬ 0 < x) : f_LM_isWithin w x 2 8 = some 0 := by
  unfold f_LM_isWithin
  rw [if_pos (Int32.lt_of_le_of_lt (Int32.not_lt.mp h) (by decide))]
set_option maxHeartbeats 4000000 in
theorem op_match (sz : Nat) (a0 a1 : Int32) : xok sz (f_Law_match (xw0 sz) (sz + 29) (some sz) a0 a1 (some (sz + 28))) (fun w => f_Mod_match w (sz + 11) a0 a1) xvI := by
  by_cases h : 0 < a1
  · refine ⟨1, xw0 sz, sz + 30, 0, xwT sz 1, ?_, o5 sz, ?_, o5T sz 1, t5T sz 1, fun h => absurd h i1n0⟩
    · simp [f_Law_match, f_LM_match, o0, g0_3, i0lt8, xleast1 sz a1 h, xsw]
    · unfold f_Mod_match xJ1
      simp only [o5, Option.bind_some, xfill (g5_1 sz) (p5_18 sz), xmL7b sz a0 a1 h, g5_9, if_neg i0n8, if_true, p5T, g5T, if_neg i1_0, isIn_eq _ (xw0 sz)]
      rcases within_cases (xw0 sz) a0 0 3 with ⟨h0, -⟩ | ⟨h0, -⟩
      · simp [h0]
      · rcases within_cases (xw0 sz) a1 2 8 with ⟨h1, -⟩ | ⟨h1, -⟩
        · simp [h0, h1]
        · simp [h0, h1]
  · have hn := within_no (w := xw0 sz) h
    refine ⟨2, xw0 sz, sz + 30, 0, xwT sz 2, ?_, o5 sz, ?_, o5T sz 2, t5T sz 2, fun h => absurd h i2n0⟩
    · rcases within_cases (xw0 sz) a0 0 3 with ⟨h0, -⟩ | ⟨h0, -⟩
      · simp [f_Law_match, f_LM_match, o0, g0_3, i0lt8, xleast0 sz a1 h, im1, h0, xsw]
      · simp [f_Law_match, f_LM_match, o0, g0_3, i0lt8, xleast0 sz a1 h, im1, h0, hn, xsw]
    · unfold f_Mod_match xJ1
      simp only [o5, Option.bind_some, xfill (g5_1 sz) (p5_18 sz), xmL7a sz a0 a1 h, g5_9, if_neg i0n8, if_neg i0n4, if_true, p5T, g5T, if_neg i2_0, isIn_eq _ (xw0 sz), hn]
      rcases within_cases (xw0 sz) a0 0 3 with ⟨h0, -⟩ | ⟨h0, -⟩
      · simp [h0]
      · simp [h0, i1n0]
