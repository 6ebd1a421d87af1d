/-! faces, whole; then the law's loop on the fresh world -/
theorem xwalk0 (w : Mp) (h0 : Nat) : f_Mod_walk w h0 0 = some ((), w) := by
  unfold f_Mod_walk
  rw [show f_Mod_walk_L4 h0 (99999 + 1) 0 0 w = some (0, 0, 0, w) by
    rw [f_Mod_walk_L4, if_pos rfl]]
  rfl
set_option maxHeartbeats 4000000 in
theorem xmodfaces {sz : Nat} {w1 : Mp} {a0 : Int32} {f : Nat → Int64} (h0 : f_LM_isWithin w1 a0 0 3 = some 1) (hw : ∀ k, 11 ≤ k → k < 28 → w1 (sz + k) = xw0 sz (sz + k)) (ho : w1 (sz + 28) = some (.inr (5, 1, .inr (.inl f)))) :
    ∃ w3, f_Mod_faces w1 (sz + 11) a0 = some (0, w3) ∧ xo w3 (some (sz + 11)) 5 = some (sz + 11) ∧ f_Mod_thrown w3 (sz + 11) = some 0 ∧ aJ w3 (some (sz + 28)) 5 0 = some (f 0) := by
  have w11 := (hw 11 (by omega) (by omega)).trans (xw0_11 sz)
  have w26 := (hw 26 (by omega) (by omega)).trans (xw0_26 sz)
  have p0 : pF w1 (some (sz + 11)) 5 0 (.int 0) = some w1 := by
    simp [pF, w11]; exact va_up_same w11
  have p18 : pF w1 (some (sz + 11)) 5 18 (.int 0) = some w1 := by
    simp [pF, w11]; exact va_up_same w11
  have q0 : gI w1 (some (sz + 11)) 5 0 = some 0 := by simp [gI, gF, w11, oI]
  have q1 : gI w1 (some (sz + 11)) 5 1 = some 0 := by simp [gI, gF, w11, oI]
  have q13 : gI w1 (some (sz + 11)) 5 13 = some 0 := by simp [gI, gF, w11, oI]
  have q18 : gI w1 (some (sz + 11)) 5 18 = some 0 := by simp [gI, gF, w11, oI]
  have q20 : gR w1 (some (sz + 11)) 5 20 = some (some (sz + 26)) := by simp [gR, gF, w11, oR]
  have oo : xo w1 (some (sz + 11)) 5 = some (sz + 11) := by simp [xo, w11]
  obtain ⟨w2, hw2⟩ : ∃ w2, w2 = va_up w1 (sz + 26) (some (.inr (0, 8448, .inl (upd (fun _ => 0) 0 0)))) := ⟨_, rfl⟩
  have s2 : sI w1 (some (sz + 26)) 0 ((256 : Int32) * 0 + 0) 0 = some w2 := by
    rw [hw2]
    simp [sI, w26]
  have v11 := (show w2 (sz + 11) = w1 (sz + 11) by rw [hw2]; simp [va_up]).trans w11
  have v26 : w2 (sz + 26) = some (.inr (0, 8448, .inl (upd (fun _ => 0) 0 0))) := by rw [hw2]; simp [va_up]
  have v28 : w2 (sz + 28) = some (.inr (5, 1, .inr (.inl f))) := by rw [hw2]; simp [va_up]; exact ho
  have t18 : gI w2 (some (sz + 11)) 5 18 = some 0 := by simp [gI, gF, v11, oI]
  have t20 : gR w2 (some (sz + 11)) 5 20 = some (some (sz + 26)) := by simp [gR, gF, v11, oR]
  have ta : aI w2 (some (sz + 26)) 0 (1 - 1) = some 0 := by simp [aI, v26, upd]
  have to : xo w2 (some (sz + 11)) 5 = some (sz + 11) := by simp [xo, v11]
  have L41 : f_Mod_faces_L41 (sz + 11) 1 100000 0 w1 = some (0, 1, w2) := by
    rw [show f_Mod_faces_L41 (sz + 11) 1 100000 0 w1 = f_Mod_faces_L41 (sz + 11) 1 (99998 + 1 + 1) 0 w1 from rfl, f_Mod_faces_L41, if_neg (by decide), q20, q18]
    simp only [Option.bind_some, if_true, s2]
    rw [f_Mod_faces_L41, if_pos (by decide)]
    rfl
  have L84 : f_Mod_faces_L84 (sz + 11) 1 100000 (0 - 1) w2 = some (0, 0 - 1, w2) := by
    rw [show f_Mod_faces_L84 (sz + 11) 1 100000 (0 - 1) w2 = f_Mod_faces_L84 (sz + 11) 1 (99999 + 1) (0 - 1) w2 from rfl, f_Mod_faces_L84, if_pos (by decide)]
  obtain ⟨w3, hp, u11, u26, u28⟩ : ∃ w3, pF w2 (some (sz + 11)) 5 15 (.int 1) = some w3 ∧ (gI w3 (some (sz + 11)) 5 0 = some 0 ∧ gR w3 (some (sz + 11)) 5 20 = some (some (sz + 26)) ∧ xo w3 (some (sz + 11)) 5 = some (sz + 11)) ∧ w3 (sz + 26) = w2 (sz + 26) ∧ w3 (sz + 28) = w2 (sz + 28) := by
    simp [pF, v11, va_up, gI, gF, gR, oI, oR, xo]
  have ua : aI w3 (some (sz + 26)) 0 (1 - 1) = some 0 := by simp [aI, u26, v26, upd]
  refine ⟨w3, ?_, u11.2.2, by simp [f_Mod_thrown, u11.1], by simp [aJ, u28, v28]⟩
  unfold f_Mod_faces xJ1
  have e0 : ((1 : Int32) - 1) = 0 := by decide
  simp only [isIn_eq _ w1, h0, Option.bind_some, if_neg i1n0, p0, q0, if_pos i0le0, oo, xfill q1 p18, q13, i_sh, L41, t18, L84, t20, ta, if_pos i_mil, to]
  rw [e0] at ua ⊢
  simp only [xwalk0, Option.bind_some, hp, u11.2.1, ua]
set_option maxHeartbeats 4000000 in
theorem op_faces (sz : Nat) (a0 : Int32) : xok sz (f_Law_faces 0 0 1 (xw0 sz) (sz + 29) (some sz) a0 (some (sz + 28))) (fun w => f_Mod_faces w (sz + 11) a0) xvI := by
  rcases within_cases (xw0 sz) a0 0 3 with ⟨h0, -⟩ | ⟨h0, -⟩
  · refine ⟨1, xw0 sz, sz + 30, 0, xwT sz 1, ?_, o5 sz, ?_, o5T sz 1, t5T sz 1, fun h => absurd h i1n0⟩
    · simp [f_Law_faces, f_LM_faces, o0, h0, xsw]
    · unfold f_Mod_faces xJ1
      simp only [isIn_eq _ (xw0 sz), h0, Option.bind_some, if_true, p5T, g5T, if_neg i1_0]
  · obtain ⟨w0, hp, hk⟩ := xplan sz
    have w28 := (hk 28 (by omega) (by omega)).trans (xw0_28 sz)
    have w11 := (hk 11 (by omega) (by omega)).trans (xw0_11 sz)
    obtain ⟨w1, hw1⟩ : ∃ w1, w1 = va_up w0 (sz + 28) (some (.inr (5, 1, .inr (.inl (vp_updL (fun _ => 0) 0 0))))) := ⟨_, rfl⟩
    have hs : sJ w0 (some (sz + 28)) 5 0 ((0 : Int32).toInt64) = some w1 := by
      rw [hw1]
      simp [sJ, w28]
    have hA : f_Law_faces 0 0 1 (xw0 sz) (sz + 29) (some sz) a0 (some (sz + 28)) = some (0, w1, sz + 30) := by
      unfold f_Law_faces f_LM_faces xsw
      simp only [o0, Option.bind_some, h0, if_neg i1n0, xgath, g0_4, g0_5, o3, hp, hs]
    have hw : ∀ k, 11 ≤ k → k < 28 → w1 (sz + k) = xw0 sz (sz + k) := fun k h1 h2 => by
      rw [hw1]
      simp [va_up, show k ≠ 28 by omega]
      exact hk k (by omega) (by omega)
    have ho : w1 (sz + 28) = some (.inr (5, 1, .inr (.inl (vp_updL (fun _ => 0) 0 0)))) := by
      rw [hw1]; simp [va_up]
    obtain ⟨w3, m1, m2, m3, m4⟩ := xmodfaces (show f_LM_isWithin w1 a0 0 3 = some 1 from h0) hw ho
    refine ⟨0, w1, sz + 30, 0, w3, hA, ?_, m1, m2, m3, fun _ => ?_⟩
    · simp [xo, (hw 11 (by omega) (by omega)).trans (xw0_11 sz)]
    · rw [m4]
      simp [vp_updL, xvI]
