/-! between the calls: the class's part, the reference's part, the law's own cell -/
section OL1
variable {B : Nat} {w0 w w' : Mp} {T K : Nat → Nat} {V V' : Nat → Nat → Int32} {R : Nat → Nat → Option Nat} {I : Nat → Int32 → Int32} {O : Nat → Int32 → Option Nat} {N : Nat → Int32} {s : Nat → Int32} {A : Nat → Int32 → Int32} {sz g : Nat}
theorem CW_re (h : CW B w0 T V R I O N w) (e : ∀ a, T a ≠ 10 → w' a = w a) : CW B w' T V R I O N w' := by
  obtain ⟨h1, h2, h3, h4⟩ := h
  refine ⟨fun a ci ta hc => ?_, fun a ta => ?_, fun a t ta t1 t2 => ?_, fun a a1 a2 => ⟨rfl, (h4 a a1 a2).2⟩⟩
  · rw [e a (by rw [ta]; omega)]; exact h1 a ci ta hc
  · rw [e a (by rw [ta]; decide)]; exact h2 a ta
  · rw [e a (by rw [ta]; unfold tr; omega)]; exact h3 a t ta t1 t2
theorem CW_fr (h : CW B w0 T V R I O N w) {a : Nat} (a1 : B + 11 ≤ a) (a2 : a < B + 29) : w a = w0 a := (h.2.2.2 a a1 a2).1
theorem MW_re (h : MW B w0 s A w) (e : ∀ a, B + 11 ≤ a → a < B + 28 → w' a = w a) : MW B w' s A w' := by
  obtain ⟨h1, h2, -⟩ := h
  refine ⟨by rw [e _ (by omega) (by omega)]; exact h1, fun k hk => ?_, fun _ _ => rfl⟩
  have := mar_ms hk
  rw [e _ (by omega) (by omega)]
  exact h2 k hk
def LB (a5 a6 a7 : Int32) (g : Nat) : Prop := (0 ≤ a5 ∧ a5 ≤ 512) ∧ (0 ≤ a6 ∧ a6 ≤ 512) ∧ (0 ≤ a7 ∧ a7 ≤ 16896) ∧ g ≤ 2 * (a5.toNatClampNeg + a6.toNatClampNeg + a7.toNatClampNeg)
/-- the class's part, with n faces wanted -/
def LC (B g : Nat) (w : Mp) (sz : Nat) (n : Int32) : Prop := ∃ T K V R I O N a5 a6 a7, CW B w T V R I O N w ∧ CI B T K V R O N ∧ FR T sz ∧ B + 29 ≤ sz ∧ EL B R N a5 a6 a7 ∧ LB a5 a6 a7 g ∧ V (B + 3) 1 = n
/-- the reference's part, with m faces wanted -/
def LR (B : Nat) (w : Mp) (m : Int32) : Prop := ∃ s A, MW B w s A w ∧ MI s A ∧ s 13 = m
def LO (B : Nat) (w : Mp) : Prop := ∃ f, w (B + 28) = some (.inr (5, 1, .inr (.inl f)))
theorem FR.le {z : Nat} (h : FR T sz) (hz : sz ≤ z) : FR T z := fun a ha => h a (by omega)
/-- behind a call of the class: the other two parts are as they were -/
def SAME (B : Nat) (w w' : Mp) : Prop := ∀ a, B + 11 ≤ a → a < B + 29 → w' a = w a
theorem LR.same {m : Int32} (h : LR B w m) (e : SAME B w w') : LR B w' m := by
  obtain ⟨s, A, h1, h2, h3⟩ := h
  exact ⟨s, A, MW_re h1 (fun a a1 a2 => e a a1 (by omega)), h2, h3⟩
theorem LO.same (h : LO B w) (e : SAME B w w') : LO B w' := by
  obtain ⟨f, hf⟩ := h
  exact ⟨f, by rw [e _ (by omega) (by omega)]; exact hf⟩
theorem LC.up {n : Int32} (h : LC B g w sz n) (e : ∀ a, ¬ (B + 11 ≤ a ∧ a < B + 29) → w' a = w a) : LC B g w' sz n := by
  obtain ⟨T, K, V, R, I, O, N, a5, a6, a7, h1, h2⟩ := h
  refine ⟨T, K, V, R, I, O, N, a5, a6, a7, CW_re h1 (fun a ha => e a (fun z => ha (h1.2.2.2 a z.1 z.2).2)), h2⟩
/-- a question leaves the class's part -/
theorem LC_QE {α : Type} {n : Int32} {e : Option Nat} {q : (α ⊕ Nat) × Mp × Nat} {a5 a6 a7 : Int32} (hC : CI B T K V R O N) (hF : FR T sz) (hz : B + 29 ≤ sz) (hE : EL B R N a5 a6 a7) (hB : LB a5 a6 a7 g) (hn : V (B + 3) 1 = n) (h : QE B w T V R I O N sz e q) : LC B g q.2.1 q.2.2 n ∧ SAME B w q.2.1 := by
  obtain ⟨⟨V', h1, hp⟩, h2⟩ := h
  have t3 := hC.1.1.2.2.2.1
  have hs : sz ≤ q.2.2 := by
    rcases h2 with ⟨k, -, -, z⟩ | ⟨-, -, z⟩ <;> omega
  exact ⟨⟨T, K, V', R, I, O, N, a5, a6, a7, CW_re h1 (fun _ _ => rfl), CI_PL hC hp, hF.le hs, by omega, hE, hB, by rw [hp (B + 3) 1 (Or.inl (by rw [t3]; decide))]; exact hn⟩, fun a a1 a2 => CW_fr h1 a1 a2⟩
theorem QE.code {α : Type} {e : Option Nat} {q : (α ⊕ Nat) × Mp × Nat} (h : QE B w T V R I O N sz e q) : (∃ v, q.1 = .inl v ∧ e = none) ∨ (∃ k, q.1 = .inr k ∧ e = some k) := by
  rcases h.2 with ⟨k, a, b, -⟩ | ⟨a, ⟨v, b⟩, -⟩
  · exact Or.inr ⟨k, b, a⟩
  · exact Or.inl ⟨v, b, a⟩
/-- a call's end as the law's helpers need it: answered, or refused with one of these numbers -/
def CE {α : Type} (ks : List Nat) (r : α ⊕ Nat) : Prop := (∃ v, r = .inl v) ∨ (∃ k, k ∈ ks ∧ r = .inr k)
def CR (B g : Nat) (w : Mp) (n : Int32) {α : Type} (ks : List Nat) (q : (α ⊕ Nat) × Mp × Nat) : Prop := LC B g q.2.1 q.2.2 n ∧ SAME B w q.2.1 ∧ CE ks q.1
theorem CE.of {α : Type} {ks : List Nat} {e : Option Nat} {q : (α ⊕ Nat) × Mp × Nat} (h : QE B w T V R I O N sz e q) (hk : ∀ k, e = some k → k ∈ ks) : CE ks q.1 := by
  rcases h.code with ⟨v, a, -⟩ | ⟨k, a, b⟩
  · exact Or.inl ⟨v, a⟩
  · exact Or.inr ⟨k, hk k b, a⟩
theorem o_place {n f k t : Int32} (h : LC B g w sz n) : OK (f_LM_place w sz B f k t) (CR B g w n [2, 1]) := by
  obtain ⟨T, K, V, R, I, O, N, a5, a6, a7, h1, h2, h3, h4, h5, h6, h7⟩ := h
  refine (n_place h1 h2).mono (fun q hq => ?_)
  have z := LC_QE h2 h3 h4 h5 h6 h7 hq
  exact ⟨z.1, z.2, CE.of hq (fun k hk => by grind)⟩
theorem o_at {n f k t : Int32} (h : LC B g w sz n) : OK (f_LM_at w sz B f k t) (CR B g w n [2]) := by
  obtain ⟨T, K, V, R, I, O, N, a5, a6, a7, h1, h2, h3, h4, h5, h6, h7⟩ := h
  refine (n_at h1 h2).mono (fun q hq => ?_)
  have z := LC_QE h2 h3 h4 h5 h6 h7 hq
  exact ⟨z.1, z.2, CE.of hq (fun k hk => by grind)⟩
theorem o_about {n f t : Int32} (h : LC B g w sz n) : OK (f_LM_about w sz B f t) (CR B g w n [2, 1]) := by
  obtain ⟨T, K, V, R, I, O, N, a5, a6, a7, h1, h2, h3, h4, h5, h6, h7⟩ := h
  refine (n_about h1 h2).mono (fun q hq => ?_)
  have z := LC_QE h2 h3 h4 h5 h6 h7 hq
  exact ⟨z.1, z.2, CE.of hq (fun k hk => by grind)⟩
theorem o_seam {n f t : Int32} (h : LC B g w sz n) : OK (f_LM_seam w sz B f t) (CR B g w n [2]) := by
  obtain ⟨T, K, V, R, I, O, N, a5, a6, a7, h1, h2, h3, h4, h5, h6, h7⟩ := h
  refine (n_seam h1 h2).mono (fun q hq => ?_)
  have z := LC_QE h2 h3 h4 h5 h6 h7 hq
  exact ⟨z.1, z.2, CE.of hq (fun k hk => by grind)⟩
theorem o_sum {n f k t : Int32} (h : LC B g w sz n) : OK (f_LM_sum w sz B f k t) (CR B g w n [2, 1]) := by
  obtain ⟨T, K, V, R, I, O, N, a5, a6, a7, h1, h2, h3, h4, h5, h6, h7⟩ := h
  refine (n_sum h1 h2).mono (fun q hq => ?_)
  have z := LC_QE h2 h3 h4 h5 h6 h7 hq
  exact ⟨z.1, z.2, CE.of hq (fun k hk => by grind)⟩
theorem o_mirrored {n f t : Int32} (h : LC B g w sz n) : OK (f_LM_mirrored w sz B f t) (CR B g w n [2]) := by
  obtain ⟨T, K, V, R, I, O, N, a5, a6, a7, h1, h2, h3, h4, h5, h6, h7⟩ := h
  refine (n_mirrored h1 h2).mono (fun q hq => ?_)
  have z := LC_QE h2 h3 h4 h5 h6 h7 hq
  exact ⟨z.1, z.2, CE.of hq (fun k hk => by grind)⟩
theorem o_balance {n f : Int32} (h : LC B g w sz n) : OK (f_LM_balance w sz B f) (CR B g w n [2]) := by
  obtain ⟨T, K, V, R, I, O, N, a5, a6, a7, h1, h2, h3, h4, h5, h6, h7⟩ := h
  refine (n_balance h1 h2).mono (fun q hq => ?_)
  have z := LC_QE h2 h3 h4 h5 h6 h7 hq
  exact ⟨z.1, z.2, CE.of hq (fun k hk => by grind)⟩
theorem o_planned {n k t : Int32} (h : LC B g w sz n) : OK (f_LM_planned w sz B k t) (CR B g w n [0, 2, 1]) := by
  obtain ⟨T, K, V, R, I, O, N, a5, a6, a7, h1, h2, h3, h4, h5, h6, h7⟩ := h
  refine (n_planned h1 h2).mono (fun q hq => ?_)
  have z := LC_QE h2 h3 h4 h5 h6 h7 hq
  exact ⟨z.1, z.2, CE.of hq (fun k hk => by grind)⟩
end OL1
