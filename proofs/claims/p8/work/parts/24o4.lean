/-! the reference between the calls -/
section OL4
variable {B : Nat} {w0 w w' : Mp} {s s' : Nat → Int32} {A A' : Nat → Int32 → Int32} {sz g : Nat}
theorem MI_congr (h : MI s A) (s1 : s' 1 = s 1) (s9 : s' 9 = s 9) (s13 : s' 13 = s 13) (a2 : A' 2 = A 2) (a3 : A' 3 = A 3) (a4 : A' 4 = A 4) (a5 : A' 5 = A 5) (a10 : A' 10 = A 10) (a11 : A' 11 = A 11) (a12 : A' 12 = A 12) (a14 : A' 14 = A 14) : MI s' A' := by
  unfold MI pcs at h ⊢
  rw [s1, s9, s13, a2, a3, a4, a5, a10, a11, a12, a14]
  exact h
def MSAME (B : Nat) (w w' : Mp) : Prop := ∀ a, a < B + 11 ∨ B + 28 ≤ a → w' a = w a
def MR (B : Nat) (w : Mp) (m : Int32) {α : Type} (q : α × Mp) : Prop := LR B q.2 m ∧ MSAME B w q.2
theorem MR.of {α : Type} {q : α × Mp} {m : Int32} (h : MW B w s' A' q.2) (hI : MI s' A') (hm : s' 13 = m) : MR B w m q := ⟨⟨s', A', MW_re h (fun _ _ _ => rfl), hI, hm⟩, fun a ha => h.2.2 a ha⟩
theorem o_mplace {m f k t : Int32} (h : LR B w m) : OK (f_Mod_place w (B + 11) f k t) (MR B w m) := by
  obtain ⟨s, A, h1, h2, h3⟩ := h
  exact (m_place h1 h2).mono (fun q ⟨c, a, _⟩ => MR.of a (MI.sc rfl h2) h3)
theorem o_mat {m f k t : Int32} (h : LR B w m) : OK (f_Mod_at w (B + 11) f k t) (MR B w m) := by
  obtain ⟨s, A, h1, h2, h3⟩ := h
  exact (m_at h1 h2).mono (fun q ⟨c, a, _⟩ => MR.of a (MI.sc rfl h2) h3)
theorem o_mabout {m f t : Int32} (h : LR B w m) : OK (f_Mod_about w (B + 11) f t) (MR B w m) := by
  obtain ⟨s, A, h1, h2, h3⟩ := h
  exact (m_about h1 h2).mono (fun q ⟨c, a, _⟩ => MR.of a (MI.sc rfl h2) h3)
theorem o_mseam {m f t : Int32} (h : LR B w m) : OK (f_Mod_seam w (B + 11) f t) (MR B w m) := by
  obtain ⟨s, A, h1, h2, h3⟩ := h
  exact (m_seam h1 h2).mono (fun q ⟨c, a, _⟩ => MR.of a (MI.sc rfl h2) h3)
theorem o_msum {m f k t : Int32} (h : LR B w m) : OK (f_Mod_sum w (B + 11) f k t) (MR B w m) := by
  obtain ⟨s, A, h1, h2, h3⟩ := h
  exact (m_sum h1 h2).mono (fun q ⟨c, a, _⟩ => MR.of a (MI.sc rfl h2) h3)
theorem o_mmirrored {m f t : Int32} (h : LR B w m) : OK (f_Mod_mirrored w (B + 11) f t) (MR B w m) := by
  obtain ⟨s, A, h1, h2, h3⟩ := h
  exact (m_mirrored h1 h2).mono (fun q ⟨c, a, _⟩ => MR.of a (MI.sc rfl h2) h3)
theorem o_mbalance {m f : Int32} (h : LR B w m) : OK (f_Mod_balance w (B + 11) f) (MR B w m) := by
  obtain ⟨s, A, h1, h2, h3⟩ := h
  exact (m_balance h1 h2).mono (fun q ⟨c, a, _⟩ => MR.of a (MI.sc rfl h2) h3)
theorem o_mplanned {m f t : Int32} (h : LR B w m) : OK (f_Mod_planned w (B + 11) f t) (MR B w m) := by
  obtain ⟨s, A, h1, h2, h3⟩ := h
  exact (m_planned h1 h2).mono (fun q ⟨c, a, _⟩ => MR.of a (MI.sc rfl h2) h3)
theorem o_mnumber {m f k t : Int32} (h : LR B w m) : OK (f_Mod_number w (B + 11) f k t) (MR B w m) := by
  obtain ⟨s, A, h1, h2, h3⟩ := h
  exact (m_number h1 h2).mono (fun q ⟨c, A', a, e, _⟩ => MR.of a (MI_congr h2 rfl rfl rfl (e 2 (by decide)) (e 3 (by decide)) (e 4 (by decide)) (e 5 (by decide)) (e 10 (by decide)) (e 11 (by decide)) (e 12 (by decide)) (e 14 (by decide))) h3)
theorem o_mpixel {m a b c d : Int32} (h : LR B w m) : OK (f_Mod_pixel w (B + 11) a b c d) (MR B w m) := by
  obtain ⟨s, A, h1, h2, h3⟩ := h
  refine (m_pixel h1 h2).mono (fun q hq => ?_)
  rcases hq with ⟨-, e⟩ | ⟨-, -, e⟩ | ⟨-, -, -, -, e⟩ | ⟨-, -, -, -, e⟩
  · exact MR.of e (MI.sc rfl h2) h3
  · exact MR.of e (MI.sc rfl h2) h3
  · exact MR.of e (MI.sc rfl h2) h3
  · exact MR.of e (MI.ar rfl (MI.sc rfl h2)) h3
theorem o_mreserve {m a b : Int32} (h : LR B w m) : OK (f_Mod_reserve w (B + 11) a b) (MR B w m) := by
  obtain ⟨s, A, h1, h2, h3⟩ := h
  refine (m_reserve h1 h2).mono (fun q hq => ?_)
  rcases hq with ⟨-, e⟩ | ⟨-, -, e⟩ | ⟨-, -, -, e⟩ | ⟨-, -, -, -, -, e⟩ | ⟨-, -, -, -, -, e⟩
  · exact MR.of e (MI.sc rfl h2) h3
  · exact MR.of e (MI.sc rfl h2) h3
  · exact MR.of e (MI.sc rfl h2) h3
  · exact MR.of e (MI.sc rfl h2) h3
  · exact MR.of e (MI.ar rfl (MI.sc rfl (MI.sc rfl h2))) h3
theorem o_mleaf {m a b c d : Int32} (h : LR B w m) : OK (f_Mod_leaf w (B + 11) a b c d) (MR B w m) := by
  obtain ⟨s, A, h1, h2, h3⟩ := h
  refine (m_leaf h1 h2).mono (fun q hq => ?_)
  rcases hq with ⟨-, e⟩ | ⟨-, -, -, e⟩ | ⟨n32, -, ⟨g1, g2, g3, g4, g5, g6, g7, g8⟩, e, -⟩
  · exact MR.of e (MI.sc rfl h2) h3
  · exact MR.of e (MI.sc rfl h2) h3
  · refine MR.of e ?_ h3
    obtain ⟨i1, i2, i3, i4, i5, i6, i7⟩ := h2
    refine ⟨?_, i2, i3, fun i i0 i1' => ?_, i5, fun f k f0 f1 k0 k1 => ?_, i7⟩
    · show 0 ≤ s 1 + 1 ∧ s 1 + 1 ≤ 32
      clear i4 i5 i6 i7
      constructor <;> lia
    · have i1' : i < s 1 + 1 := i1'
      by_cases ei : i = s 1
      · subst ei
        show 0 ≤ (if s 1 = s 1 then a else A 2 (s 1)) ∧ (if s 1 = s 1 then a else A 2 (s 1)) ≤ 3 ∧ 0 ≤ (if s 1 = s 1 then b else A 3 (s 1)) ∧ (if s 1 = s 1 then b else A 3 (s 1)) ≤ 1000 ∧ 1 ≤ (if s 1 = s 1 then c else A 4 (s 1)) ∧ (if s 1 = s 1 then c else A 4 (s 1)) ≤ 12 ∧ 1 ≤ (if s 1 = s 1 then d else A 5 (s 1)) ∧ (if s 1 = s 1 then d else A 5 (s 1)) ≤ 12
        rw [if_pos rfl, if_pos rfl, if_pos rfl, if_pos rfl]
        exact ⟨g1, g2, g3, g4, g5, g6, g7, g8⟩
      · show 0 ≤ (if i = s 1 then a else A 2 i) ∧ (if i = s 1 then a else A 2 i) ≤ 3 ∧ 0 ≤ (if i = s 1 then b else A 3 i) ∧ (if i = s 1 then b else A 3 i) ≤ 1000 ∧ 1 ≤ (if i = s 1 then c else A 4 i) ∧ (if i = s 1 then c else A 4 i) ≤ 12 ∧ 1 ≤ (if i = s 1 then d else A 5 i) ∧ (if i = s 1 then d else A 5 i) ≤ 12
        rw [if_neg ei, if_neg ei, if_neg ei, if_neg ei]
        exact i4 i i0 (by clear i4 i5 i6 i7; lia)
    · have z := i6 f k f0 f1 k0 k1
      refine ⟨z.1, ?_⟩
      show pcs A f k < s 1 + 1
      have z2 := z.2
      clear i4 i5 i6 i7 z
      lia
theorem o_mwant {m x : Int32} (h : LR B w m) : (0 ≤ m ∧ m ≤ 8) ∧ OK (f_Mod_want w (B + 11) x) (fun q => MSAME B w q.2 ∧ ((m = 8 ∧ LR B q.2 m ∧ f_Mod_thrown q.2 (B + 11) = some 1) ∨ (m ≠ 8 ∧ ¬ (1 ≤ x ∧ x ≤ 100) ∧ LR B q.2 m ∧ f_Mod_thrown q.2 (B + 11) = some 2) ∨ (m ≠ 8 ∧ 1 ≤ x ∧ x ≤ 100 ∧ q.1 = m + 1 ∧ LR B q.2 (m + 1) ∧ f_Mod_thrown q.2 (B + 11) = some 0))) := by
  obtain ⟨s, A, h1, h2, h3⟩ := h
  have c3 := h2.2.2.1
  subst h3
  have th : ∀ {s' : Nat → Int32} {A' : Nat → Int32 → Int32} {w' : Mp}, MW B w s' A' w' → f_Mod_thrown w' (B + 11) = some (s' 0) := fun {s' A' w'} hw => by
    obtain ⟨z, e, p⟩ : OK (f_Mod_thrown w' (B + 11)) (fun z => z = s' 0) := by unfold f_Mod_thrown; exact k_gI hw (by decide) (OK.ret rfl)
    rw [e, p]
  refine ⟨c3, (m_want h1 h2).mono (fun q hq => ?_)⟩
  rcases hq with ⟨a, e⟩ | ⟨a, b, e⟩ | ⟨a, b, c, e, e2⟩
  · exact ⟨e.2.2, Or.inl ⟨a, (MR.of (q := q) e (MI.sc rfl h2) rfl).1, th e⟩⟩
  · exact ⟨e.2.2, Or.inr (Or.inl ⟨a, b, (MR.of (q := q) e (MI.sc rfl h2) rfl).1, th e⟩)⟩
  · refine ⟨e.2.2, Or.inr (Or.inr ⟨a, b, c, e2, (MR.of (q := q) e ?_ rfl).1, th e⟩)⟩
    obtain ⟨i1, i2, i3, i4, i5, i6, i7⟩ := h2
    refine ⟨i1, i2, ?_, i4, i5, i6, fun i i0 i1' => ?_⟩
    · show 0 ≤ s 13 + 1 ∧ s 13 + 1 ≤ 8
      clear i4 i5 i6 i7
      constructor <;> lia
    · have i1' : i < s 13 + 1 := i1'
      show 1 ≤ (if i = s 13 then x else A 14 i) ∧ (if i = s 13 then x else A 14 i) ≤ 100
      by_cases ei : i = s 13
      · rw [if_pos ei]; exact ⟨b, c⟩
      · rw [if_neg ei]; exact i7 i i0 (by clear i4 i5 i6 i7; lia)
theorem o_mclear {m : Int32} (h : LR B w m) : OK (f_Mod_clear w (B + 11)) (fun q => LR B q.2 0 ∧ MSAME B w q.2 ∧ q.1 = m) := by
  obtain ⟨s, A, h1, h2, h3⟩ := h
  refine (m_clear h1).mono (fun q ⟨e, e2⟩ => ?_)
  obtain ⟨i1, i2, i3, i4, i5, i6, i7⟩ := h2
  have z := MR.of (q := q) (m := 0) e (⟨i1, i2, show (0 : Int32) ≤ 0 ∧ (0 : Int32) ≤ 8 by decide, i4, i5, i6, fun i i0 i1' => by
    have i1' : i < 0 := i1'
    exact absurd i1' (by lia)⟩ : MI (up (up (up s 0 0) 13 0) 15 0) A) rfl
  exact ⟨z.1, z.2, by rw [e2]; exact h3⟩
theorem o_mfaces {m x : Int32} (h : LR B w m) : OK (f_Mod_faces w (B + 11) x) (MR B w m) := by
  obtain ⟨s, A, h1, h2, h3⟩ := h
  refine (m_faces h1 h2).mono (fun q hq => ?_)
  rcases hq with ⟨-, e⟩ | ⟨-, -, rs, r, le, pf, pm, -, -, -, -, -, ⟨-, -, e⟩ | ⟨-, -, e⟩⟩
  · exact MR.of e (MI.sc rfl h2) h3
  · exact MR.of e (MI_congr h2 rfl rfl rfl rfl rfl rfl rfl rfl rfl rfl rfl) h3
  · exact MR.of e (MI_congr h2 rfl rfl rfl rfl rfl rfl rfl rfl rfl rfl rfl) h3
theorem ar_8 {f k f' j n : Int32} (f0 : 0 ≤ f) (f1 : f < f') (f8 : f' < 8) (k0 : 0 ≤ k) (k8 : k < 8) : 8 * f + k < 8 * f' := by lia
theorem o_mmatch {m kd n : Int32} (h : LR B w m) : OK (f_Mod_match w (B + 11) kd n) (MR B w m) := by
  obtain ⟨s, A, h1, h2, h3⟩ := h
  refine (m_match h1 h2).mono (fun q hq => ?_)
  obtain ⟨fl, rs, r, hF, ⟨-, e⟩ | ⟨-, -, e⟩ | ⟨-, -, -, -, e⟩ | ⟨nf, hg, -, -, pc, us, e, hP⟩⟩ := hq
  · exact MR.of e (MI_congr h2 rfl rfl rfl rfl rfl rfl rfl rfl rfl rfl rfl) h3
  · exact MR.of e (MI_congr h2 rfl rfl rfl rfl rfl rfl rfl rfl rfl rfl rfl) h3
  · exact MR.of e (MI_congr h2 rfl rfl rfl rfl rfl rfl rfl rfl rfl rfl rfl) h3
  · refine MR.of e ?_ h3
    obtain ⟨i1, i2, i3, i4, i5, i6, i7⟩ := h2
    obtain ⟨g1, g2, g3, g4, g5⟩ := hg
    obtain ⟨R1, R2, R3, R4, R5, R6, R7, R8⟩ := hF
    have s98 : s 9 ≠ 8 := fun z => nf (Or.inl z)
    have fl4 : fl ≠ 4 := fun z => nf (Or.inr z)
    have nr : n ≤ rs := R8 (by clear R1 R7 i4 i5 i6 i7 hP; lia)
    have s9b : s 9 < 8 := by clear R1 R7 i4 i5 i6 i7 hP; lia
    refine ⟨i1, ?_, i3, i4, fun f f0 f1 => ?_, fun f k f0 f1 k0 k1 => ?_, i7⟩
    · show 0 ≤ s 9 + 1 ∧ s 9 + 1 ≤ 8
      clear R1 R7 i4 i5 i6 i7 hP
      constructor <;> lia
    · have f1 : f < s 9 + 1 := f1
      show 0 ≤ (if f = s 9 then kd else A 10 f) ∧ (if f = s 9 then kd else A 10 f) ≤ 3 ∧ 2 ≤ (if f = s 9 then n else A 11 f) ∧ (if f = s 9 then n else A 11 f) ≤ 8 ∧ ((if f = s 9 then kd else A 10 f) = 3 → (if f = s 9 then n else A 11 f) = 4)
      by_cases ef : f = s 9
      · simp only [if_pos ef]
        exact ⟨g1, g2, g3, g4, g5⟩
      · simp only [if_neg ef]
        exact i5 f f0 (by clear R1 R7 i4 i5 i6 i7 hP; lia)
    · have f1 : f < s 9 + 1 := f1
      have k1 : k < (if f = s 9 then n else A 11 f) := k1
      show 0 ≤ pc (8 * f + k) ∧ pc (8 * f + k) < s 1
      by_cases ef : f = s 9
      · rw [if_pos ef] at k1
        rw [ef, hP.1 k k0 k1]
        have z := R1 k k0 (by clear R1 R7 i4 i5 i6 i7 hP; lia)
        exact ⟨z.1, z.2.1⟩
      · rw [if_neg ef] at k1
        have f2 : f < s 9 := by clear R1 R7 i4 i5 i6 i7 hP; lia
        have z5 := (i5 f f0 f2).2.2.2.1
        rw [hP.2.1 (8 * f + k) (Or.inl (ar_8 (j := 0) (n := 0) f0 f2 s9b k0 (by clear R1 R7 i4 i5 i6 i7 hP; lia)))]
        exact i6 f k f0 f2 k0 k1
theorem ar_9 {f g k n : Int32} (g0 : 0 ≤ g) (g1 : g < n - 1) (n1 : 1 ≤ n) (n8 : n ≤ 8) (k0 : 0 ≤ k) (k8 : k < 8) (f0 : 0 ≤ f) : (f ≤ g → (8 * f ≤ 8 * g + k ∧ 8 * g + k < 8 * n - 8) ∧ 8 * g + k + 8 = 8 * (g + 1) + k) ∧ (¬ f ≤ g → f < 8 → ¬ 8 * f ≤ 8 * g + k) := by
  refine ⟨fun h => ⟨⟨by lia, by lia⟩, by grind⟩, fun h f8 => by lia⟩
theorem o_mapart {m f : Int32} (h : LR B w m) : OK (f_Mod_apart w (B + 11) f) (MR B w m) := by
  obtain ⟨s, A, h1, h2, h3⟩ := h
  refine (m_apart h1 h2).mono (fun q hq => ?_)
  rcases hq with ⟨-, e⟩ | ⟨f0, f1, -, us, kd, sn, pc, e, -, c1, c2, c3⟩
  · exact MR.of e (MI.sc rfl h2) h3
  · refine MR.of e ?_ h3
    obtain ⟨i1, i2, i3, i4, i5, i6, i7⟩ := h2
    have hk : ∀ g, 0 ≤ g → g < s 9 - 1 → ∃ g', 0 ≤ g' ∧ g' < s 9 ∧ kd g = A 10 g' ∧ sn g = A 11 g' ∧ (∀ k, 0 ≤ k → k < 8 → pc (8 * g + k) = pcs A g' k) := fun g g0 g1 => by
      by_cases c : f ≤ g
      · refine ⟨g + 1, by clear c1 c2 c3 i4 i5 i6 i7; lia, by clear c1 c2 c3 i4 i5 i6 i7; lia, by rw [c1 g, if_pos ⟨c, g1⟩], by rw [c2 g, if_pos ⟨c, g1⟩], fun k k0 k8 => ?_⟩
        have z := (ar_9 (f := f) g0 g1 (by clear c1 c2 c3 i4 i5 i6 i7; lia) i2.2 k0 k8 f0).1 c
        rw [c3 (8 * g + k), if_pos z.1, z.2]
        rfl
      · refine ⟨g, g0, by clear c1 c2 c3 i4 i5 i6 i7; lia, by rw [c1 g, if_neg (fun u => c u.1)], by rw [c2 g, if_neg (fun u => c u.1)], fun k k0 k8 => ?_⟩
        have z := (ar_9 (f := f) g0 g1 (by clear c1 c2 c3 i4 i5 i6 i7; lia) i2.2 k0 k8 f0).2 c (by clear c1 c2 c3 i4 i5 i6 i7; lia)
        rw [c3 (8 * g + k), if_neg (fun u => z u.1)]
        rfl
    refine ⟨i1, ?_, i3, i4, fun g g0 g1 => ?_, fun g k g0 g1 k0 k1 => ?_, i7⟩
    · show 0 ≤ s 9 - 1 ∧ s 9 - 1 ≤ 8
      clear c1 c2 c3 i4 i5 i6 i7 hk
      constructor <;> lia
    · obtain ⟨g', x0, x1, x2, x3, -⟩ := hk g g0 g1
      show 0 ≤ kd g ∧ kd g ≤ 3 ∧ 2 ≤ sn g ∧ sn g ≤ 8 ∧ (kd g = 3 → sn g = 4)
      rw [x2, x3]
      exact i5 g' x0 x1
    · obtain ⟨g', x0, x1, x2, x3, x4⟩ := hk g g0 g1
      have k1 : k < sn g := k1
      rw [x3] at k1
      have z5 := (i5 g' x0 x1).2.2.2.1
      show 0 ≤ pc (8 * g + k) ∧ pc (8 * g + k) < s 1
      rw [x4 k k0 (by clear c1 c2 c3 i4 i5 i6 i7 hk; lia)]
      exact i6 g' k x0 x1 k0 k1
end OL4
