/-! THE LOOP on the fresh world, L at most 5 -/
theorem lg_self (x : Int64) : lg_cmp x x = 0 := by simp [lg_cmp]
theorem xstop {L : Nat} (hL : L ≤ 5) (xs : Nat → Int32) (b : Nat) (r1 r2 r3 : Option Nat) (w : Mp) (sz : Nat) : f_Law_law_L23 L xs b r1 r2 r3 1 (0 + 5) w sz = some (0, 0 + 5, w, sz) := by
  have h : (Int32.ofNat L) - (5 : Int32) < 0 + 5 := by
    rcases (show L = 0 ∨ L = 1 ∨ L = 2 ∨ L = 3 ∨ L = 4 ∨ L = 5 by omega) with rfl | rfl | rfl | rfl | rfl | rfl <;> decide
  rw [f_Law_law_L23, if_pos h]
set_option maxHeartbeats 8000000 in
set_option maxRecDepth 100000 in
theorem law_loop5 (xs : Nat → Int32) (b sz : Nat) : ∃ r, f_Law_law_L23 5 xs b (some sz) (some (sz + 11)) (some (sz + 28)) 2 0 (xw0 sz) (sz + 29) = some r ∧ r.1 = 0 := by
  have S := fun w s => xstop (Nat.le_refl 5) xs b (some sz) (some (sz + 11)) (some (sz + 28)) w s
  have e0 : xsc 5 xs 0 = some (xs 0) := by unfold xsc; rw [if_neg (by decide)]; rfl
  have e1 : xsc 5 xs (0 + 1) = some (xs 1) := by unfold xsc; rw [if_neg (by decide)]; rfl
  have e2 : xsc 5 xs (0 + 2) = some (xs 2) := by unfold xsc; rw [if_neg (by decide)]; rfl
  have e3 : xsc 5 xs (0 + 3) = some (xs 3) := by unfold xsc; rw [if_neg (by decide)]; rfl
  have e4 : xsc 5 xs (0 + 4) = some (xs 4) := by unfold xsc; rw [if_neg (by decide)]; rfl
  rw [f_Law_law_L23, if_neg (by decide), e0]
  refine xbr rfl ?_
  generalize (xs 0) &&& (31 : Int32) = t
  by_cases h0 : t = 0
  · rw [if_pos h0]
    obtain ⟨k, w1, s1, v, w2, hA, ho1, hM, ho2, hT, hv⟩ := op_leaf sz (xs 1) (xs 2) (xs 3) (xs 4)
    have hM : f_Mod_leaf w1 (sz + 11) (xs 1) (xs 2) (xs 3) (xs 4) = some (v, w2) := hM
    simp only [e1, e2, e3, e4, Option.bind_some, hA, ho1, hM, ho2, hT, if_true]
    by_cases hk : k = 0
    · have hv := hv hk
      unfold xvI at hv
      rw [if_pos hk, hv]
      simp only [Option.bind_some, lg_self, if_true]
      rw [S]
      exact ⟨_, rfl, rfl⟩
    · rw [if_neg hk, S]
      exact ⟨_, rfl, rfl⟩
  rw [if_neg h0]
  by_cases h1 : t = 1
  · rw [if_pos h1]
    obtain ⟨k, w1, s1, v, w2, hA, ho1, hM, ho2, hT, hv⟩ := op_pixel sz (xs 1) (xs 2) (xs 3) (xs 4)
    have hM : f_Mod_pixel w1 (sz + 11) (xs 1) (xs 2) (xs 3) (xs 4) = some (v, w2) := hM
    simp only [e1, e2, e3, e4, Option.bind_some, hA, ho1, hM, ho2, hT, if_true]
    by_cases hk : k = 0
    · have hv := hv hk
      unfold xvB at hv
      rw [if_pos hk, hv]
      simp only [Option.bind_some, xJ1]
      by_cases hb : v = 0
      · simp only [if_pos hb, lg_self, if_true]
        rw [S]
        exact ⟨_, rfl, rfl⟩
      · simp only [if_neg hb, lg_self, if_true]
        rw [S]
        exact ⟨_, rfl, rfl⟩
    · rw [if_neg hk, S]
      exact ⟨_, rfl, rfl⟩
  rw [if_neg h1]
  by_cases h2 : t = 2
  · rw [if_pos h2]
    obtain ⟨k, w1, s1, v, w2, hA, ho1, hM, ho2, hT, hv⟩ := op_reserve sz (xs 1) (xs 2)
    have hM : f_Mod_reserve w1 (sz + 11) (xs 1) (xs 2) = some (v, w2) := hM
    simp only [e1, e2, Option.bind_some, hA, ho1, hM, ho2, hT, if_true]
    by_cases hk : k = 0
    · have hv := hv hk
      unfold xvB at hv
      rw [if_pos hk, hv]
      simp only [Option.bind_some, xJ1]
      by_cases hb : v = 0
      · simp only [if_pos hb, lg_self, if_true]
        rw [S]
        exact ⟨_, rfl, rfl⟩
      · simp only [if_neg hb, lg_self, if_true]
        rw [S]
        exact ⟨_, rfl, rfl⟩
    · rw [if_neg hk, S]
      exact ⟨_, rfl, rfl⟩
  rw [if_neg h2]
  by_cases h3 : t = 3
  · rw [if_pos h3]
    obtain ⟨k, w1, s1, v, w2, hA, ho1, hM, ho2, hT, hv⟩ := op_match sz (xs 1) (xs 2)
    have hM : f_Mod_match w1 (sz + 11) (xs 1) (xs 2) = some (v, w2) := hM
    simp only [e1, e2, Option.bind_some, hA, ho1, hM, ho2, hT, if_true]
    by_cases hk : k = 0
    · have hv := hv hk
      unfold xvI at hv
      rw [if_pos hk, hv]
      simp only [Option.bind_some, lg_self, if_true]
      rw [S]
      exact ⟨_, rfl, rfl⟩
    · rw [if_neg hk, S]
      exact ⟨_, rfl, rfl⟩
  rw [if_neg h3]
  by_cases h4 : t = 4
  · rw [if_pos h4]
    obtain ⟨k, w1, s1, v, w2, hA, ho1, hM, ho2, hT, hv⟩ := op_apart sz (xs 1)
    have hM : f_Mod_apart w1 (sz + 11) (xs 1) = some (v, w2) := hM
    simp only [e1, Option.bind_some, hA, ho1, hM, ho2, hT, if_true]
    by_cases hk : k = 0
    · have hv := hv hk
      unfold xvI at hv
      rw [if_pos hk, hv]
      simp only [Option.bind_some, lg_self, if_true]
      rw [S]
      exact ⟨_, rfl, rfl⟩
    · rw [if_neg hk, S]
      exact ⟨_, rfl, rfl⟩
  rw [if_neg h4]
  by_cases h5 : t = 5
  · rw [if_pos h5]
    obtain ⟨k, w1, s1, v, w2, hA, ho1, hM, ho2, hT, hv⟩ := op_place sz (xs 1) (xs 2) (xs 3)
    have hM : f_Mod_place w1 (sz + 11) (xs 1) (xs 2) (xs 3) = some (v, w2) := hM
    simp only [e1, e2, e3, Option.bind_some, hA, ho1, hM, ho2, hT, if_true]
    by_cases hk : k = 0
    · have hv := hv hk
      unfold xvI at hv
      rw [if_pos hk, hv]
      simp only [Option.bind_some, lg_self, if_true]
      rw [S]
      exact ⟨_, rfl, rfl⟩
    · rw [if_neg hk, S]
      exact ⟨_, rfl, rfl⟩
  rw [if_neg h5]
  by_cases h6 : t = 6
  · rw [if_pos h6]
    obtain ⟨k, w1, s1, v, w2, hA, ho1, hM, ho2, hT, hv⟩ := op_at sz (xs 1) (xs 2) (xs 3)
    have hM : f_Mod_at w1 (sz + 11) (xs 1) (xs 2) (xs 3) = some (v, w2) := hM
    simp only [e1, e2, e3, Option.bind_some, hA, ho1, hM, ho2, hT, if_true]
    by_cases hk : k = 0
    · have hv := hv hk
      unfold xvI at hv
      rw [if_pos hk, hv]
      simp only [Option.bind_some, lg_self, if_true]
      rw [S]
      exact ⟨_, rfl, rfl⟩
    · rw [if_neg hk, S]
      exact ⟨_, rfl, rfl⟩
  rw [if_neg h6]
  by_cases h7 : t = 7
  · rw [if_pos h7]
    obtain ⟨k, w1, s1, v, w2, hA, ho1, hM, ho2, hT, hv⟩ := op_about sz (xs 1) (xs 2)
    have hM : f_Mod_about w1 (sz + 11) (xs 1) (xs 2) = some (v, w2) := hM
    simp only [e1, e2, Option.bind_some, hA, ho1, hM, ho2, hT, if_true]
    by_cases hk : k = 0
    · have hv := hv hk
      unfold xvI at hv
      rw [if_pos hk, hv]
      simp only [Option.bind_some, lg_self, if_true]
      rw [S]
      exact ⟨_, rfl, rfl⟩
    · rw [if_neg hk, S]
      exact ⟨_, rfl, rfl⟩
  rw [if_neg h7]
  by_cases h8 : t = 8
  · rw [if_pos h8]
    obtain ⟨k, w1, s1, v, w2, hA, ho1, hM, ho2, hT, hv⟩ := op_seam sz (xs 1) (xs 2)
    have hM : f_Mod_seam w1 (sz + 11) (xs 1) (xs 2) = some (v, w2) := hM
    simp only [e1, e2, Option.bind_some, hA, ho1, hM, ho2, hT, if_true]
    by_cases hk : k = 0
    · have hv := hv hk
      unfold xvI at hv
      rw [if_pos hk, hv]
      simp only [Option.bind_some, lg_self, if_true]
      rw [S]
      exact ⟨_, rfl, rfl⟩
    · rw [if_neg hk, S]
      exact ⟨_, rfl, rfl⟩
  rw [if_neg h8]
  by_cases h9 : t = 9
  · rw [if_pos h9]
    obtain ⟨k, w1, s1, v, w2, hA, ho1, hM, ho2, hT, hv⟩ := op_sum sz (xs 1) (xs 2) (xs 3)
    have hM : f_Mod_sum w1 (sz + 11) (xs 1) (xs 2) (xs 3) = some (v, w2) := hM
    simp only [e1, e2, e3, Option.bind_some, hA, ho1, hM, ho2, hT, if_true]
    by_cases hk : k = 0
    · have hv := hv hk
      unfold xvJ at hv
      rw [if_pos hk, hv]
      simp only [Option.bind_some, lg_self, if_true]
      rw [S]
      exact ⟨_, rfl, rfl⟩
    · rw [if_neg hk, S]
      exact ⟨_, rfl, rfl⟩
  rw [if_neg h9]
  by_cases h10 : t = 10
  · rw [if_pos h10]
    obtain ⟨k, w1, s1, v, w2, hA, ho1, hM, ho2, hT, hv⟩ := op_mirrored sz (xs 1) (xs 2)
    have hM : f_Mod_mirrored w1 (sz + 11) (xs 1) (xs 2) = some (v, w2) := hM
    simp only [e1, e2, Option.bind_some, hA, ho1, hM, ho2, hT, if_true]
    by_cases hk : k = 0
    · have hv := hv hk
      unfold xvB at hv
      rw [if_pos hk, hv]
      simp only [Option.bind_some, xJ1]
      by_cases hb : v = 0
      · simp only [if_pos hb, lg_self, if_true]
        rw [S]
        exact ⟨_, rfl, rfl⟩
      · simp only [if_neg hb, lg_self, if_true]
        rw [S]
        exact ⟨_, rfl, rfl⟩
    · rw [if_neg hk, S]
      exact ⟨_, rfl, rfl⟩
  rw [if_neg h10]
  by_cases h11 : t = 11
  · rw [if_pos h11]
    obtain ⟨k, w1, s1, v, w2, hA, ho1, hM, ho2, hT, hv⟩ := op_balance sz (xs 1)
    have hM : f_Mod_balance w1 (sz + 11) (xs 1) = some (v, w2) := hM
    simp only [e1, Option.bind_some, hA, ho1, hM, ho2, hT, if_true]
    by_cases hk : k = 0
    · have hv := hv hk
      unfold xvB at hv
      rw [if_pos hk, hv]
      simp only [Option.bind_some, xJ1]
      by_cases hb : v = 0
      · simp only [if_pos hb, lg_self, if_true]
        rw [S]
        exact ⟨_, rfl, rfl⟩
      · simp only [if_neg hb, lg_self, if_true]
        rw [S]
        exact ⟨_, rfl, rfl⟩
    · rw [if_neg hk, S]
      exact ⟨_, rfl, rfl⟩
  rw [if_neg h11]
  by_cases h12 : t = 12
  · rw [if_pos h12]
    obtain ⟨k, w1, s1, v, w2, hA, ho1, hM, ho2, hT, hv⟩ := op_number sz (xs 1) (xs 2) (xs 3)
    have hM : f_Mod_number w1 (sz + 11) (xs 1) (xs 2) (xs 3) = some (v, w2) := hM
    simp only [e1, e2, e3, Option.bind_some, hA, ho1, hM, ho2, hT, if_true]
    by_cases hk : k = 0
    · have hv := hv hk
      unfold xvI at hv
      rw [if_pos hk, hv]
      simp only [Option.bind_some, lg_self, if_true]
      rw [S]
      exact ⟨_, rfl, rfl⟩
    · rw [if_neg hk, S]
      exact ⟨_, rfl, rfl⟩
  rw [if_neg h12]
  by_cases h13 : t = 13
  · rw [if_pos h13]
    obtain ⟨k, w1, s1, v, w2, hA, ho1, hM, ho2, hT, hv⟩ := op_want sz (xs 1)
    have hM : f_Mod_want w1 (sz + 11) (xs 1) = some (v, w2) := hM
    simp only [e1, Option.bind_some, hA, ho1, hM, ho2, hT, if_true]
    by_cases hk : k = 0
    · have hv := hv hk
      unfold xvI at hv
      rw [if_pos hk, hv]
      simp only [Option.bind_some, lg_self, if_true]
      rw [S]
      exact ⟨_, rfl, rfl⟩
    · rw [if_neg hk, S]
      exact ⟨_, rfl, rfl⟩
  rw [if_neg h13]
  by_cases h14 : t = 14
  · rw [if_pos h14]
    obtain ⟨v, w1, w2, c1, c2, c3⟩ := op_clear sz
    simp only [o0, Option.bind_some, c1, c2, c3, if_true]
    rw [S]
    exact ⟨_, rfl, rfl⟩
  rw [if_neg h14]
  by_cases h15 : t = 15
  · rw [if_pos h15]
    obtain ⟨k, w1, s1, v, w2, hA, ho1, hM, ho2, hT, hv⟩ := op_faces sz (xs 1)
    have hM : f_Mod_faces w1 (sz + 11) (xs 1) = some (v, w2) := hM
    simp only [e1, Option.bind_some, hA, ho1, hM, ho2, hT, if_true]
    by_cases hk : k = 0
    · have hv := hv hk
      unfold xvI at hv
      rw [if_pos hk, hv]
      simp only [Option.bind_some, lg_self, if_true]
      rw [S]
      exact ⟨_, rfl, rfl⟩
    · rw [if_neg hk, S]
      exact ⟨_, rfl, rfl⟩
  rw [if_neg h15]
  by_cases h16 : t = 16
  · rw [if_pos h16]
    obtain ⟨k, w1, s1, v, w2, hA, ho1, hM, ho2, hT, hv⟩ := op_planned sz (xs 1) (xs 2)
    have hM : f_Mod_planned w1 (sz + 11) (xs 1) (xs 2) = some (v, w2) := hM
    simp only [e1, e2, Option.bind_some, hA, ho1, hM, ho2, hT, if_true]
    by_cases hk : k = 0
    · have hv := hv hk
      unfold xvI at hv
      rw [if_pos hk, hv]
      simp only [Option.bind_some, lg_self, if_true]
      rw [S]
      exact ⟨_, rfl, rfl⟩
    · rw [if_neg hk, S]
      exact ⟨_, rfl, rfl⟩
  rw [if_neg h16]
  rw [S]
  exact ⟨_, rfl, rfl⟩
theorem law_pure {L : Nat} (hL : L ≤ 5) (xs : Nat → Int32) (sz b : Nat) : ∃ res, f_Law_law L xs (fun _ => none) sz b = some res ∧ res.1 = 1 := by
  refine law_fresh ?_
  by_cases h : L = 5
  · subst h
    exact law_loop5 xs b sz
  · have h : (Int32.ofNat L) - (5 : Int32) < 0 := by
      rcases (show L = 0 ∨ L = 1 ∨ L = 2 ∨ L = 3 ∨ L = 4 by omega) with rfl | rfl | rfl | rfl | rfl <;> decide
    rw [f_Law_law_L23, if_pos h]
    exact ⟨_, rfl, rfl⟩
theorem whole_start {p : Program} {e : Env} {s : State} {m : MethodId} {below : List Frame} {meth : Method} {c : Code} (l : Launch) (hlt : l.stackTraces = false) {b L : Nat} {xs : Nat → Int32} (hL : L ≤ 5) (C0 : lw_At p s m meth c b L xs) : W p l e room_1 s m #[Value.ref b] below meth c s.heap [] 0 0 (lw_Z below #[Value.ref b] s) (entryFrame m ([Value.ref b] : List Value).toArray 8) :=
  start_of l hlt (law_pure hL xs s.heap.size b) C0
