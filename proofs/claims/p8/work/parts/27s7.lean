/-! the fresh world is a good one -/
def T0 (sz a : Nat) : Nat := if a < sz then 10 else match a - sz with
  | 0 => 0 | 1 => tr 1 | 2 => tr 2 | 3 => 4 | 4 => 5 | 5 => 5 | 6 => 5 | 7 => 5 | 8 => 5 | 9 => 5 | 10 => tr 1 | _ => 10
def K0 (sz a : Nat) : Nat := if a < sz then 0 else match a - sz with
  | 4 => 1 | 5 => 2 | 6 => 3 | 7 => 5 | 8 => 6 | 9 => 7 | _ => 0
def V0 (sz a k : Nat) : Int32 := if a = sz + 3 ∧ k = 8 then 1 else 0
def R0 (sz a k : Nat) : Option Nat := if a = sz then (match k with
  | 0 => some (sz + 1) | 2 => some (sz + 2) | 4 => some (sz + 3) | 5 => some (sz + 10) | _ => none) else if a = sz + 3 then (match k with
  | 0 => some (sz + 4) | 3 => some (sz + 5) | 4 => some (sz + 6) | 5 => some (sz + 7) | 6 => some (sz + 8) | 7 => some (sz + 9) | _ => none) else none
def N0 (sz a : Nat) : Int32 := if a < sz then 0 else match a - sz with
  | 1 => 32 | 2 => 8 | 4 => 8 | 5 => 8 | 6 => 8 | 10 => 32 | _ => 0
theorem T0_at (sz j : Nat) : T0 sz (sz + j) = (match j with
  | 0 => 0 | 1 => tr 1 | 2 => tr 2 | 3 => 4 | 4 => 5 | 5 => 5 | 6 => 5 | 7 => 5 | 8 => 5 | 9 => 5 | 10 => tr 1 | _ => 10) := by
  unfold T0
  rw [if_neg (by omega), Nat.add_sub_cancel_left]
theorem K0_at (sz j : Nat) : K0 sz (sz + j) = (match j with
  | 4 => 1 | 5 => 2 | 6 => 3 | 7 => 5 | 8 => 6 | 9 => 7 | _ => 0) := by
  unfold K0
  rw [if_neg (by omega), Nat.add_sub_cancel_left]
theorem N0_at (sz j : Nat) : N0 sz (sz + j) = (match j with
  | 1 => 32 | 2 => 8 | 4 => 8 | 5 => 8 | 6 => 8 | 10 => 32 | _ => 0) := by
  unfold N0
  rw [if_neg (by omega), Nat.add_sub_cancel_left]
theorem T0_lt {sz a : Nat} (h : T0 sz a ≠ 10) : ∃ j, j ≤ 10 ∧ a = sz + j := by
  by_cases c : a < sz
  · exact absurd (if_pos c) h
  · refine ⟨a - sz, ?_, by omega⟩
    by_cases d : a - sz ≤ 10
    · exact d
    · exfalso
      apply h
      have e := T0_at sz (a - sz)
      rw [show sz + (a - sz) = a by omega] at e
      rw [e]
      generalize a - sz = j at d
      match j with
      | 0 | 1 | 2 | 3 | 4 | 5 | 6 | 7 | 8 | 9 | 10 => omega
      | _ + 11 => rfl
theorem j11 {j : Nat} (h : j ≤ 10) : j = 0 ∨ j = 1 ∨ j = 2 ∨ j = 3 ∨ j = 4 ∨ j = 5 ∨ j = 6 ∨ j = 7 ∨ j = 8 ∨ j = 9 ∨ j = 10 := by omega
theorem R0_0 (sz k : Nat) : R0 sz sz k = (match k with
  | 0 => some (sz + 1) | 2 => some (sz + 2) | 4 => some (sz + 3) | 5 => some (sz + 10) | _ => none) := by
  unfold R0; rw [if_pos rfl]
theorem R0_3 (sz k : Nat) : R0 sz (sz + 3) k = (match k with
  | 0 => some (sz + 4) | 3 => some (sz + 5) | 4 => some (sz + 6) | 5 => some (sz + 7) | 6 => some (sz + 8) | 7 => some (sz + 9) | _ => none) := by
  unfold R0; rw [if_neg (by omega), if_pos rfl]
theorem T0_10 {sz a : Nat} (h1 : sz + 11 ≤ a) : T0 sz a = 10 := by
  by_cases c : T0 sz a = 10
  · exact c
  · obtain ⟨j, j1, rfl⟩ := T0_lt c
    omega
theorem CW_0 (sz : Nat) : CW sz (xw0 sz) (T0 sz) (V0 sz) (R0 sz) (fun _ _ => 0) (fun _ _ => none) (N0 sz) (xw0 sz) := by
  refine ⟨fun a ci ta hc => ?_, fun a ta => ?_, fun a t ta t1 t2 => ?_, fun a a1 a2 => ⟨rfl, T0_10 a1⟩⟩
  · obtain ⟨j, j1, rfl⟩ := T0_lt (a := a) (by rw [ta]; omega)
    rw [T0_at] at ta
    rcases j11 j1 with rfl | rfl | rfl | rfl | rfl | rfl | rfl | rfl | rfl | rfl | rfl
    · obtain rfl : ci = 0 := ta.symm
      show xw0 sz sz = _
      rw [xw0_0]
      show some _ = some (Sum.inl (0, [va_rf (R0 sz sz 0), .int (V0 sz sz 1), va_rf (R0 sz sz 2), .int (V0 sz sz 3), va_rf (R0 sz sz 4), va_rf (R0 sz sz 5)]))
      simp only [R0_0]
      unfold V0
      rw [if_neg (by omega), if_neg (by omega)]
      rfl
    · exfalso; have ta : (6 : Nat) = ci := ta; omega
    · exfalso; have ta : (7 : Nat) = ci := ta; omega
    · obtain rfl : ci = 4 := ta.symm
      rw [xw0_3]
      show some _ = some (Sum.inl (4, [va_rf (R0 sz (sz + 3) 0), .int (V0 sz (sz + 3) 1), .int (V0 sz (sz + 3) 2), va_rf (R0 sz (sz + 3) 3), va_rf (R0 sz (sz + 3) 4), va_rf (R0 sz (sz + 3) 5), va_rf (R0 sz (sz + 3) 6), va_rf (R0 sz (sz + 3) 7), .int (V0 sz (sz + 3) 8)]))
      simp only [R0_3]
      unfold V0
      rw [if_neg (by omega), if_neg (by omega), if_pos ⟨rfl, rfl⟩]
      rfl
    · exfalso; have ta : (5 : Nat) = ci := ta; omega
    · exfalso; have ta : (5 : Nat) = ci := ta; omega
    · exfalso; have ta : (5 : Nat) = ci := ta; omega
    · exfalso; have ta : (5 : Nat) = ci := ta; omega
    · exfalso; have ta : (5 : Nat) = ci := ta; omega
    · exfalso; have ta : (5 : Nat) = ci := ta; omega
    · exfalso; have ta : (6 : Nat) = ci := ta; omega
  · obtain ⟨j, j1, rfl⟩ := T0_lt (a := a) (by rw [ta]; decide)
    rw [T0_at] at ta
    rw [N0_at]
    rcases j11 j1 with rfl | rfl | rfl | rfl | rfl | rfl | rfl | rfl | rfl | rfl | rfl
    · exact absurd ta (by decide)
    · exact absurd ta (by decide)
    · exact absurd ta (by decide)
    · exact absurd ta (by decide)
    · exact ⟨_, xw0_4 sz, fun _ _ => rfl⟩
    · exact ⟨_, xw0_5 sz, fun _ _ => rfl⟩
    · exact ⟨_, xw0_6 sz, fun _ _ => rfl⟩
    · exact ⟨_, xw0_7 sz, fun _ _ => rfl⟩
    · exact ⟨_, xw0_8 sz, fun _ _ => rfl⟩
    · exact ⟨_, xw0_9 sz, fun _ _ => rfl⟩
    · exact absurd ta (by decide)
  · obtain ⟨j, j1, rfl⟩ := T0_lt (a := a) (by rw [ta]; unfold tr; omega)
    rw [T0_at] at ta
    rw [N0_at]
    rcases j11 j1 with rfl | rfl | rfl | rfl | rfl | rfl | rfl | rfl | rfl | rfl | rfl
    · exfalso; have ta : (0 : Nat) = t + 5 := ta; omega
    · obtain rfl : t = 1 := by have ta : (6 : Nat) = t + 5 := ta; omega
      exact ⟨_, xw0_1 sz, fun _ _ => rfl⟩
    · obtain rfl : t = 2 := by have ta : (7 : Nat) = t + 5 := ta; omega
      exact ⟨_, xw0_2 sz, fun _ _ => rfl⟩
    · exfalso; have ta : (4 : Nat) = t + 5 := ta; omega
    · exfalso; have ta : (5 : Nat) = t + 5 := ta; omega
    · exfalso; have ta : (5 : Nat) = t + 5 := ta; omega
    · exfalso; have ta : (5 : Nat) = t + 5 := ta; omega
    · exfalso; have ta : (5 : Nat) = t + 5 := ta; omega
    · exfalso; have ta : (5 : Nat) = t + 5 := ta; omega
    · exfalso; have ta : (5 : Nat) = t + 5 := ta; omega
    · obtain rfl : t = 1 := by have ta : (6 : Nat) = t + 5 := ta; omega
      exact ⟨_, xw0_10 sz, fun _ _ => rfl⟩
theorem V0_z {sz a k : Nat} (h : k ≠ 8) : V0 sz a k = 0 := if_neg (fun z => h z.2)
theorem CI_0 (sz : Nat) : CI sz (T0 sz) (K0 sz) (V0 sz) (R0 sz) (fun _ _ => none) (N0 sz) := by
  have no : ∀ a, T0 sz a = 1 ∨ T0 sz a = 2 ∨ T0 sz a = 3 → False := fun a h => by
    obtain ⟨j, j1, rfl⟩ := T0_lt (a := a) (fun z => by rw [z] at h; omega)
    rw [T0_at] at h
    rcases j11 j1 with rfl | rfl | rfl | rfl | rfl | rfl | rfl | rfl | rfl | rfl | rfl
    · have h : (0 : Nat) = 1 ∨ (0 : Nat) = 2 ∨ (0 : Nat) = 3 := h; omega
    · have h : (6 : Nat) = 1 ∨ (6 : Nat) = 2 ∨ (6 : Nat) = 3 := h; omega
    · have h : (7 : Nat) = 1 ∨ (7 : Nat) = 2 ∨ (7 : Nat) = 3 := h; omega
    · have h : (4 : Nat) = 1 ∨ (4 : Nat) = 2 ∨ (4 : Nat) = 3 := h; omega
    · have h : (5 : Nat) = 1 ∨ (5 : Nat) = 2 ∨ (5 : Nat) = 3 := h; omega
    · have h : (5 : Nat) = 1 ∨ (5 : Nat) = 2 ∨ (5 : Nat) = 3 := h; omega
    · have h : (5 : Nat) = 1 ∨ (5 : Nat) = 2 ∨ (5 : Nat) = 3 := h; omega
    · have h : (5 : Nat) = 1 ∨ (5 : Nat) = 2 ∨ (5 : Nat) = 3 := h; omega
    · have h : (5 : Nat) = 1 ∨ (5 : Nat) = 2 ∨ (5 : Nat) = 3 := h; omega
    · have h : (5 : Nat) = 1 ∨ (5 : Nat) = 2 ∨ (5 : Nat) = 3 := h; omega
    · have h : (6 : Nat) = 1 ∨ (6 : Nat) = 2 ∨ (6 : Nat) = 3 := h; omega
  refine ⟨⟨⟨T0_at sz 0, T0_at sz 1, T0_at sz 2, T0_at sz 3, T0_at sz 4, T0_at sz 5, T0_at sz 6, T0_at sz 10⟩, ⟨N0_at sz 1, N0_at sz 2, N0_at sz 4, N0_at sz 5, N0_at sz 6, N0_at sz 10⟩, ⟨R0_0 sz 0, R0_0 sz 2, R0_0 sz 4, R0_0 sz 5, R0_3 sz 0, R0_3 sz 3, R0_3 sz 4⟩, ⟨K0_at sz 4, K0_at sz 5, K0_at sz 6⟩, sz + 7, sz + 8, sz + 9, ⟨R0_3 sz 5, T0_at sz 7, ?_, K0_at sz 7⟩, ⟨R0_3 sz 6, T0_at sz 8, ?_, K0_at sz 8⟩, ⟨R0_3 sz 7, T0_at sz 9, ?_, K0_at sz 9⟩⟩, fun a ha => (no a (Or.inl ha)).elim, fun a ha => (no a (Or.inr (Or.inl ha))).elim, fun a ha => (no a (Or.inr (Or.inr ha))).elim, ?_, ?_, ?_⟩
  · rw [N0_at]; decide
  · rw [N0_at]; decide
  · rw [N0_at]; decide
  · rw [V0_z (by decide)]
    exact ⟨by decide, fun i i0 i1 => by lia⟩
  · rw [V0_z (by decide)]
    exact ⟨by decide, fun i i0 i1 => by lia⟩
  · rw [V0_z (by decide)]; decide
theorem LL_0 (sz : Nat) : LL sz 0 (xw0 sz) (sz + 29) := by
  refine ⟨T0 sz, K0 sz, V0 sz, R0 sz, fun _ _ => 0, fun _ _ => none, N0 sz, 0, 0, 0, fun _ => 0, fun _ _ => 0, CW_0 sz, CI_0 sz, fun a ha => T0_10 (by omega), Nat.le_refl _, ⟨sz + 7, sz + 8, sz + 9, ⟨R0_3 sz 5, N0_at sz 7⟩, ⟨R0_3 sz 6, N0_at sz 8⟩, ⟨R0_3 sz 7, N0_at sz 9⟩⟩, ⟨by decide, by decide, by decide, Nat.zero_le _⟩, ⟨xw0_11 sz, fun k hk => ?_, fun _ _ => rfl⟩, ?_, ⟨_, xw0_28 sz⟩, ⟨⟨V0_z (by decide), fun i i0 i1 => ?_⟩, ⟨V0_z (by decide), fun f f0 f1 => ?_⟩, ⟨V0_z (by decide), fun i i0 i1 => ?_⟩, ⟨fun i _ _ => ⟨rfl, rfl, fun _ _ _ _ _ _ => rfl⟩, fun _ => (show (0 : Int32) ≤ 0 ∧ (0 : Int32) ≤ 255 by decide)⟩⟩, ⟨⟨fun f k f' k' h => ?_, fun f k h => ?_⟩, fun f f0 f1 => ?_⟩⟩
  · rcases mar_c hk with rfl | rfl | rfl | rfl | rfl | rfl | rfl | rfl | rfl | rfl | rfl | rfl | rfl | rfl | rfl | rfl
    · exact ⟨_, xw0_12 sz, fun _ _ => rfl⟩
    · exact ⟨_, xw0_13 sz, fun _ _ => rfl⟩
    · exact ⟨_, xw0_14 sz, fun _ _ => rfl⟩
    · exact ⟨_, xw0_15 sz, fun _ _ => rfl⟩
    · exact ⟨_, xw0_16 sz, fun _ _ => rfl⟩
    · exact ⟨_, xw0_17 sz, fun _ _ => rfl⟩
    · exact ⟨_, xw0_18 sz, fun _ _ => rfl⟩
    · exact ⟨_, xw0_19 sz, fun _ _ => rfl⟩
    · exact ⟨_, xw0_20 sz, fun _ _ => rfl⟩
    · exact ⟨_, xw0_21 sz, fun _ _ => rfl⟩
    · exact ⟨_, xw0_22 sz, fun _ _ => rfl⟩
    · exact ⟨_, xw0_23 sz, fun _ _ => rfl⟩
    · exact ⟨_, xw0_24 sz, fun _ _ => rfl⟩
    · exact ⟨_, xw0_25 sz, fun _ _ => rfl⟩
    · exact ⟨_, xw0_26 sz, fun _ _ => rfl⟩
    · exact ⟨_, xw0_27 sz, fun _ _ => rfl⟩
  · refine ⟨by decide, by decide, by decide, fun i i0 i1 => ?_, fun i i0 i1 => ?_, fun f k f0 f1 => ?_, fun i i0 i1 => ?_⟩
    · have i1 : i < 0 := i1
      exact absurd i1 (by lia)
    · have i1 : i < 0 := i1
      exact absurd i1 (by lia)
    · have f1 : f < 0 := f1
      exact absurd f1 (by lia)
    · have i1 : i < 0 := i1
      exact absurd i1 (by lia)
  · have i1 : i < 0 := i1
    exact absurd i1 (by lia)
  · have f1 : f < 0 := f1
    exact absurd f1 (by lia)
  · have i1 : i < 0 := i1
    exact absurd i1 (by lia)
  · have h0 := h.1
    have h1 : f < 0 := h.2.1
    exact absurd h1 (by clear h; lia)
  · have h0 := h.1
    have h1 : f < 0 := h.2.1
    exact absurd h1 (by clear h; lia)
  · have f1 : f < 0 := f1
    exact absurd f1 (by lia)
theorem fuel0 {L : Nat} (hL : L ≤ 2560) : (Int32.ofNat L - 0).toInt < 5 * ((513 : Nat) : Int) := by
  rw [Int32.sub_zero, Int32.toInt_ofNat_of_lt (by omega)]
  omega
theorem law_pure {L : Nat} (hL : L ≤ 2560) (xs : Nat → Int32) (sz b : Nat) : ∃ res, f_Law_law L xs (fun _ => none) sz b = some res ∧ res.1 = 1 :=
  law_fresh (law_loop (B := sz) hL 513 0 (xw0 sz) (sz + 29) 0 (LL_0 sz) (by decide) (of_le (x := Int32.ofNat L) (n := 0) (of_le (x := 2560) (n := L) (by decide) (by rw [show (2560 : Int32).toNatClampNeg = 2560 by decide]; exact hL)).1 (Nat.zero_le _)).2 (fuel0 hL))
