/-! the class's tellings between the calls -/
section OL2
variable {B : Nat} {w0 w w' : Mp} {T K : Nat → Nat} {V V' : Nat → Nat → Int32} {R : Nat → Nat → Option Nat} {I : Nat → Int32 → Int32} {O : Nat → Int32 → Option Nat} {N : Nat → Int32} {s : Nat → Int32} {A : Nat → Int32 → Int32} {sz g : Nat}
theorem CR.no {α : Type} {n : Int32} {ks : List Nat} {k : Nat} (h : LC B g w sz n) (hk : k ∈ ks) : CR B g w n (α := α) ks (.inr k, w, sz + 1) := by
  obtain ⟨T, K, V, R, I, O, N, a5, a6, a7, h1, h2, h3, h4, h5⟩ := h
  exact ⟨⟨T, K, V, R, I, O, N, a5, a6, a7, h1, h2, h3.le (by show sz ≤ sz + 1; omega), by show B + 29 ≤ sz + 1; omega, h5⟩, fun _ _ _ => rfl, Or.inr ⟨k, hk, rfl⟩⟩
theorem EL.ext {R' : Nat → Nat → Option Nat} {N' : Nat → Int32} {a5 a6 a7 : Int32} (hS : STc B T K R N) (h : EL B R N a5 a6 a7) (hr : R' (B + 3) = R (B + 3)) (hn : ∀ a, T a ≠ 10 → N' a = N a) : EL B R' N' a5 a6 a7 := by
  obtain ⟨-, -, -, -, e5, e6, e7, ⟨r5, u5, -, -⟩, ⟨r6, u6, -, -⟩, ⟨r7, u7, -, -⟩⟩ := hS
  obtain ⟨x5, x6, x7, ⟨s5, v5⟩, ⟨s6, v6⟩, ⟨s7, v7⟩⟩ := h
  rw [r5] at s5; cases s5
  rw [r6] at s6; cases s6
  rw [r7] at s7; cases s7
  refine ⟨e5, e6, e7, ⟨by rw [hr]; exact r5, ?_⟩, ⟨by rw [hr]; exact r6, ?_⟩, ⟨by rw [hr]; exact r7, ?_⟩⟩
  · rw [hn e5 (by rw [u5]; decide)]; exact v5
  · rw [hn e6 (by rw [u6]; decide)]; exact v6
  · rw [hn e7 (by rw [u7]; decide)]; exact v7
theorem o_want {n x : Int32} (h : LC B g w sz n) : (0 ≤ n ∧ n ≤ 8) ∧ OK (f_LM_want w sz B x) (fun q => SAME B w q.2.1 ∧ ((¬ n < 8 ∧ q.1 = .inr 0 ∧ LC B g q.2.1 q.2.2 n) ∨ (n < 8 ∧ ¬ (1 ≤ x ∧ x ≤ 100) ∧ q.1 = .inr 1 ∧ LC B g q.2.1 q.2.2 n) ∨ (n < 8 ∧ 1 ≤ x ∧ x ≤ 100 ∧ q.1 = .inl (n + 1) ∧ LC B g q.2.1 q.2.2 (n + 1)))) := by
  have h0 := h
  obtain ⟨T, K, V, R, I, O, N, a5, a6, a7, h1, h2, h3, h4, h5, h6, h7⟩ := h
  have c7 := h2.2.2.2.2.2.2
  rw [h7] at c7
  refine ⟨c7, (n_want h1 h2).mono (fun q hq => ?_)⟩
  rw [h7] at hq
  rcases hq with ⟨a, rfl⟩ | ⟨a, b, rfl⟩ | ⟨a, b, c, d, e, V', f1, f2, f3, f4⟩
  · exact ⟨fun _ _ _ => rfl, Or.inl ⟨a, rfl, (CR.no (α := Int32) h0 (List.mem_singleton.mpr rfl : 0 ∈ [0])).1⟩⟩
  · exact ⟨fun _ _ _ => rfl, Or.inr (Or.inl ⟨a, b, rfl, (CR.no (α := Int32) h0 (List.mem_singleton.mpr rfl : 1 ∈ [1])).1⟩)⟩
  · exact ⟨fun a a1 a2 => CW_fr f1 a1 a2, Or.inr (Or.inr ⟨a, b, c, d, T, K, V', R, _, O, N, a5, a6, a7, CW_re f1 (fun _ _ => rfl), f4, by rw [e]; exact h3, by rw [e]; exact h4, h5, h6, f2⟩)⟩
theorem o_clear {n : Int32} (h : LC B g w sz n) : OK (f_LM_clear w B) (fun q => SAME B w q.2 ∧ q.1 = n ∧ LC B g q.2 sz 0) := by
  obtain ⟨T, K, V, R, I, O, N, a5, a6, a7, h1, h2, h3, h4, h5, h6, h7⟩ := h
  refine (n_clear h1 h2).mono (fun q ⟨a, V', f1, f2, f3, f4⟩ => ?_)
  exact ⟨fun a a1 a2 => CW_fr f1 a1 a2, by rw [a]; exact h7, T, K, V', R, I, O, N, a5, a6, a7, CW_re f1 (fun _ _ => rfl), f4, h3, h4, h5, h6, f2⟩
theorem o_pixel {n i x y v : Int32} (h : LC B g w sz n) : OK (f_LM_pixel w sz B i x y v) (CR B g w n [2, 1]) := by
  have h0 := h
  obtain ⟨T, K, V, R, I, O, N, a5, a6, a7, h1, h2, h3, h4, h5, h6, h7⟩ := h
  refine (n_pixel h1 h2).mono (fun q hq => ?_)
  rcases hq with ⟨-, rfl⟩ | ⟨-, -, rfl⟩ | ⟨-, -, gg, -, c, d, e⟩
  · exact CR.no h0 (by decide)
  · exact CR.no h0 (by decide)
  · exact ⟨⟨T, K, V, R, _, O, N, a5, a6, a7, CW_re e (fun _ _ => rfl), h2, by rw [d]; exact h3, by rw [d]; exact h4, h5, h6, h7⟩, fun a a1 a2 => CW_fr e a1 a2, Or.inl ⟨_, c⟩⟩
theorem o_reserve {n i o : Int32} (h : LC B g w sz n) : OK (f_LM_reserve w sz B i o) (CR B g w n [2, 0, 1]) := by
  have h0 := h
  obtain ⟨T, K, V, R, I, O, N, a5, a6, a7, h1, h2, h3, h4, h5, h6, h7⟩ := h
  have t3 := h2.1.1.2.2.2.1
  have c5 := h2.2.2.2.2.1.2
  refine (n_reserve h1 h2).mono (fun q hq => ?_)
  rcases hq with ⟨-, rfl⟩ | ⟨-, -, rfl⟩ | ⟨-, -, -, rfl⟩ | ⟨ii, -, -, c, d, V', e, e2, e3, e4⟩
  · exact CR.no h0 (by decide)
  · exact CR.no h0 (by decide)
  · exact CR.no h0 (by decide)
  · refine ⟨⟨T, K, V', R, _, O, N, a5, a6, a7, CW_re e (fun _ _ => rfl), e2, by rw [d]; exact h3, by rw [d]; exact h4, h5, h6, ?_⟩, fun a a1 a2 => CW_fr e a1 a2, Or.inl ⟨_, c⟩⟩
    rw [e4 (B + 3) 1 (Or.inr (by decide)) (Or.inr (by decide))]
    exact h7
theorem o_apart {n f : Int32} (h : LC B g w sz n) : OK (f_LM_apart w sz B f) (CR B g w n [2]) := by
  have h0 := h
  obtain ⟨T, K, V, R, I, O, N, a5, a6, a7, h1, h2, h3, h4, h5, h6, h7⟩ := h
  refine (n_apart h1 h2).mono (fun q hq => ?_)
  rcases hq with ⟨-, rfl⟩ | ⟨-, -, c, d, V1, V', cc, m1, m2, m3, m4, m5, m6⟩
  · exact CR.no h0 (by decide)
  · refine ⟨⟨T, K, V', R, _, _, N, a5, a6, a7, CW_re m5 (fun _ _ => rfl), m6, by rw [d]; exact h3, by rw [d]; exact h4, h5, h6, ?_⟩, fun a a1 a2 => CW_fr m5 a1 a2, Or.inl ⟨_, c⟩⟩
    rw [m2 (B + 3) 1 (Or.inl (by omega)) (Or.inr (by decide)), m1.1 (B + 3) 1 (Or.inr (by decide))]
    exact h7
theorem o_leaf {n a b c d : Int32} (h : LC B g w sz n) : OK (f_LM_leaf w sz B a b c d) (CR B g w n [0, 1]) := by
  have h0 := h
  obtain ⟨T, K, V, R, I, O, N, a5, a6, a7, h1, h2, h3, h4, h5, h6, h7⟩ := h
  refine (n_leaf h1 h2 h3 h4).mono (fun q hq => ?_)
  rcases hq with ⟨-, rfl⟩ | ⟨-, -, -, rfl⟩ | ⟨-, -, -, e, e2, V', f1, f2, f3, f4, f5⟩
  · exact CR.no h0 (by decide)
  · exact CR.no h0 (by decide)
  · refine ⟨⟨_, _, V', _, _, _, _, a5, a6, a7, CW_re f1 (fun _ _ => rfl), f2, fun x hx => ?_, by omega, h5.ext h2.1 (vup_n (by omega)) (fun x hx => vup_n (fun z => hx (by rw [z]; exact h3 _ (by omega)))), h6, ?_⟩, fun x x1 x2 => CW_fr f1 x1 x2, Or.inl ⟨_, e⟩⟩
    · rw [vup_n (by omega), vup_n (by omega)]
      exact h3 x (by omega)
    · rw [f5 (B + 3) 1 (by omega) (Or.inl (by omega)) (Or.inr (by decide))]
      exact h7
theorem o_match {n kd m : Int32} (h : LC B g w sz n) : OK (f_LM_match w sz B kd m) (CR B g w n [0, 1]) := by
  have h0 := h
  obtain ⟨T, K, V, R, I, O, N, a5, a6, a7, h1, h2, h3, h4, h5, h6, h7⟩ := h
  have t3 := h2.1.1.2.2.2.1
  refine (n_match h1 h2 h3 h4).mono (fun q hq => ?_)
  rcases hq with ⟨-, rfl⟩ | ⟨fl, -, ⟨-, rfl⟩ | ⟨c, -, ⟨-, -, e1, e2, e3⟩ | ⟨-, -, e1, e2, T', V1, V', R', O', f1, f2, f3, f4, f5, f6, f7, f8, f9, ⟨V2, k1, k2⟩, f11, f12⟩⟩⟩
  · exact CR.no h0 (by decide)
  · exact CR.no h0 (by decide)
  · exact ⟨⟨T, K, V, R, I, _, N, a5, a6, a7, CW_re e3 (fun _ _ => rfl), CI_free h2, by rw [e2]; exact h3, by rw [e2]; exact h4, h5, h6, h7⟩, fun x x1 x2 => CW_fr e3 x1 x2, Or.inl ⟨_, e1⟩⟩
  · refine ⟨⟨T', K, V', R', I, O', _, a5, a6, a7, CW_re f1 (fun _ _ => rfl), f2, by rw [e2]; exact f3, by omega, h5.ext h2.1 (f4 (B + 3) (by omega)).2 (fun x hx => vup_n (fun z => hx (by rw [z]; exact h3 _ (by omega)))), h6, ?_⟩, fun x x1 x2 => CW_fr f1 x1 x2, Or.inl ⟨_, e1⟩⟩
    rw [k2 (B + 3) 1 (Or.inl (by omega)) (Or.inr (by decide)), k1.1 (B + 3) 1 (Or.inr (by decide)), f8 (B + 3) (by omega)]
    exact h7
end OL2
