/-! the reference's bounds behind its tellings -/
section SM0
variable {B : Nat} {w w' : Mp} {s : Nat → Int32} {A : Nat → Int32 → Int32}
theorem MI_leaf {a b c d : Int32} (h2 : MI s A) (n32 : s 1 ≠ 32) (g1 : 0 ≤ a) (g2 : a ≤ 3) (g3 : 0 ≤ b) (g4 : b ≤ 1000) (g5 : 1 ≤ c) (g6 : c ≤ 12) (g7 : 1 ≤ d) (g8 : d ≤ 12) : MI (up (up (up s 0 0) 1 (s 1 + 1)) 15 0) (upA (upA (upA (upA A 2 (s 1) a) 3 (s 1) b) 4 (s 1) c) 5 (s 1) d) := by
  obtain ⟨i1, i2, i3, i4, i5, i6, i7⟩ := h2
  refine ⟨?_, i2, i3, fun i i0 i1' => ?_, i5, fun f k f0 f1 k0 k1 => ?_, i7⟩
  · show 0 ≤ s 1 + 1 ∧ s 1 + 1 ≤ 32
    clear i4 i5 i6 i7
    constructor <;> lia
  · have i1' : i < s 1 + 1 := i1'
    by_cases ei : i = s 1
    · subst ei
      show 0 ≤ (if s 1 = s 1 then a else A 2 (s 1)) ∧ (if s 1 = s 1 then a else A 2 (s 1)) ≤ 3 ∧ 0 ≤ (if s 1 = s 1 then b else A 3 (s 1)) ∧ (if s 1 = s 1 then b else A 3 (s 1)) ≤ 1000 ∧ 1 ≤ (if s 1 = s 1 then c else A 4 (s 1)) ∧ (if s 1 = s 1 then c else A 4 (s 1)) ≤ 12 ∧ 1 ≤ (if s 1 = s 1 then d else A 5 (s 1)) ∧ (if s 1 = s 1 then d else A 5 (s 1)) ≤ 12
      rw [if_pos rfl, if_pos rfl, if_pos rfl, if_pos rfl]
      exact ⟨g1, g2, g3, g4, g5, g6, g7, g8⟩
    · show 0 ≤ (if i = s 1 then a else A 2 i) ∧ (if i = s 1 then a else A 2 i) ≤ 3 ∧ 0 ≤ (if i = s 1 then b else A 3 i) ∧ (if i = s 1 then b else A 3 i) ≤ 1000 ∧ 1 ≤ (if i = s 1 then c else A 4 i) ∧ (if i = s 1 then c else A 4 i) ≤ 12 ∧ 1 ≤ (if i = s 1 then d else A 5 i) ∧ (if i = s 1 then d else A 5 i) ≤ 12
      rw [if_neg ei, if_neg ei, if_neg ei, if_neg ei]
      exact i4 i i0 (by clear i4 i5 i6 i7; lia)
  · have z := i6 f k f0 f1 k0 k1
    refine ⟨z.1, ?_⟩
    show pcs A f k < s 1 + 1
    have z2 := z.2
    clear i4 i5 i6 i7 z
    lia
theorem MI_want {x : Int32} (h2 : MI s A) (a : s 13 ≠ 8) (b : 1 ≤ x) (c : x ≤ 100) : MI (up (up (up s 0 0) 13 (s 13 + 1)) 15 0) (upA A 14 (s 13) x) := by
  have c3 := h2.2.2.1
  obtain ⟨i1, i2, i3, i4, i5, i6, i7⟩ := h2
  refine ⟨i1, i2, ?_, i4, i5, i6, fun i i0 i1' => ?_⟩
  · show 0 ≤ s 13 + 1 ∧ s 13 + 1 ≤ 8
    clear i4 i5 i6 i7
    constructor <;> lia
  · have i1' : i < s 13 + 1 := i1'
    show 1 ≤ (if i = s 13 then x else A 14 i) ∧ (if i = s 13 then x else A 14 i) ≤ 100
    by_cases ei : i = s 13
    · rw [if_pos ei]; exact ⟨b, c⟩
    · rw [if_neg ei]; exact i7 i i0 (by clear i4 i5 i6 i7; lia)
theorem MI_clear (h2 : MI s A) : MI (up (up (up s 0 0) 13 0) 15 0) A := by
  obtain ⟨i1, i2, i3, i4, i5, i6, i7⟩ := h2
  exact ⟨i1, i2, show (0 : Int32) ≤ 0 ∧ (0 : Int32) ≤ 8 by decide, i4, i5, i6, fun i i0 i1' => absurd (show i < 0 from i1') (by lia)⟩
theorem MI_match {kd n fl rs : Int32} {r pc us : Int32 → Int32} (h2 : MI s A) (hF : FL s A n fl rs r) (nf : ¬ (s 9 = 8 ∨ fl = 4)) (hg : mgood kd n) (hP : PU A (s 9) n r pc us) : MI (up (up (up (up s 18 rs) 0 0) 9 (s 9 + 1)) 15 0) (upPU (upA (upA (upR A r) 10 (s 9) kd) 11 (s 9) n) pc us) := by
  obtain ⟨i1, i2, i3, i4, i5, i6, i7⟩ := h2
  obtain ⟨g1, g2, g3, g4, g5⟩ := hg
  obtain ⟨R1, R2, R3, R4, R5, R6, R7, R8⟩ := hF
  have s98 : s 9 ≠ 8 := fun z => nf (Or.inl z)
  have fl4 : fl ≠ 4 := fun z => nf (Or.inr z)
  have nr : n ≤ rs := R8 (by clear R1 R7 i4 i5 i6 i7 hP; lia)
  have s9b : s 9 < 8 := by clear R1 R7 i4 i5 i6 i7 hP; lia
  refine ⟨i1, ?_, i3, i4, fun f f0 f1 => ?_, fun f k f0 f1 k0 k1 => ?_, i7⟩
  · show 0 ≤ s 9 + 1 ∧ s 9 + 1 ≤ 8
    clear R1 R7 i4 i5 i6 i7 hP
    constructor <;> lia
  · have f1 : f < s 9 + 1 := f1
    show 0 ≤ (if f = s 9 then kd else A 10 f) ∧ (if f = s 9 then kd else A 10 f) ≤ 3 ∧ 2 ≤ (if f = s 9 then n else A 11 f) ∧ (if f = s 9 then n else A 11 f) ≤ 8 ∧ ((if f = s 9 then kd else A 10 f) = 3 → (if f = s 9 then n else A 11 f) = 4)
    by_cases ef : f = s 9
    · simp only [if_pos ef]
      exact ⟨g1, g2, g3, g4, g5⟩
    · simp only [if_neg ef]
      exact i5 f f0 (by clear R1 R7 i4 i5 i6 i7 hP; lia)
  · have f1 : f < s 9 + 1 := f1
    have k1 : k < (if f = s 9 then n else A 11 f) := k1
    show 0 ≤ pc (8 * f + k) ∧ pc (8 * f + k) < s 1
    by_cases ef : f = s 9
    · rw [if_pos ef] at k1
      rw [ef, hP.1 k k0 k1]
      have z := R1 k k0 (by clear R1 R7 i4 i5 i6 i7 hP; lia)
      exact ⟨z.1, z.2.1⟩
    · rw [if_neg ef] at k1
      have f2 : f < s 9 := by clear R1 R7 i4 i5 i6 i7 hP; lia
      have z5 := (i5 f f0 f2).2.2.2.1
      rw [hP.2.1 (8 * f + k) (Or.inl (ar_8 (j := 0) (n := 0) f0 f2 s9b k0 (by clear R1 R7 i4 i5 i6 i7 hP; lia)))]
      exact i6 f k f0 f2 k0 k1
theorem AP_hk {f : Int32} {us kd sn pc : Int32 → Int32} (h2 : MI s A) (f0 : 0 ≤ f) (f1 : f < s 9) (c1 : shf (A 10) kd f (s 9 - 1) 1) (c2 : shf (A 11) sn f (s 9 - 1) 1) (c3 : shf (A 12) pc (8 * f) (8 * s 9 - 8) 8) : ∀ g, 0 ≤ g → g < s 9 - 1 → ∃ g', g' = (if f ≤ g then g + 1 else g) ∧ 0 ≤ g' ∧ g' < s 9 ∧ kd g = A 10 g' ∧ sn g = A 11 g' ∧ (∀ k, 0 ≤ k → k < 8 → pc (8 * g + k) = pcs A g' k) := by
  obtain ⟨i1, i2, i3, i4, i5, i6, i7⟩ := h2
  intro g g0 g1
  by_cases c : f ≤ g
  · refine ⟨g + 1, by rw [if_pos c], by clear c1 c2 c3 i4 i5 i6 i7; lia, by clear c1 c2 c3 i4 i5 i6 i7; lia, by rw [c1 g, if_pos ⟨c, g1⟩], by rw [c2 g, if_pos ⟨c, g1⟩], fun k k0 k8 => ?_⟩
    have z := (ar_9 (f := f) g0 g1 (by clear c1 c2 c3 i4 i5 i6 i7; lia) i2.2 k0 k8 f0).1 c
    rw [c3 (8 * g + k), if_pos z.1, z.2]
    rfl
  · refine ⟨g, by rw [if_neg c], g0, by clear c1 c2 c3 i4 i5 i6 i7; lia, by rw [c1 g, if_neg (fun u => c u.1)], by rw [c2 g, if_neg (fun u => c u.1)], fun k k0 k8 => ?_⟩
    have z := (ar_9 (f := f) g0 g1 (by clear c1 c2 c3 i4 i5 i6 i7; lia) i2.2 k0 k8 f0).2 c (by clear c1 c2 c3 i4 i5 i6 i7; lia)
    rw [c3 (8 * g + k), if_neg (fun u => z u.1)]
    rfl
theorem MI_apart {f : Int32} {us kd sn pc : Int32 → Int32} (h2 : MI s A) (f0 : 0 ≤ f) (f1 : f < s 9) (c1 : shf (A 10) kd f (s 9 - 1) 1) (c2 : shf (A 11) sn f (s 9 - 1) 1) (c3 : shf (A 12) pc (8 * f) (8 * s 9 - 8) 8) : MI (up (up (up s 0 0) 9 (s 9 - 1)) 15 0) (upF A us kd sn pc) := by
  have hk := AP_hk (us := us) h2 f0 f1 c1 c2 c3
  obtain ⟨i1, i2, i3, i4, i5, i6, i7⟩ := h2
  refine ⟨i1, ?_, i3, i4, fun g g0 g1 => ?_, fun g k g0 g1 k0 k1 => ?_, i7⟩
  · show 0 ≤ s 9 - 1 ∧ s 9 - 1 ≤ 8
    clear c1 c2 c3 i4 i5 i6 i7 hk
    constructor <;> lia
  · obtain ⟨g', -, x0, x1, x2, x3, -⟩ := hk g g0 g1
    show 0 ≤ kd g ∧ kd g ≤ 3 ∧ 2 ≤ sn g ∧ sn g ≤ 8 ∧ (kd g = 3 → sn g = 4)
    rw [x2, x3]
    exact i5 g' x0 x1
  · obtain ⟨g', -, x0, x1, x2, x3, x4⟩ := hk g g0 g1
    have k1 : k < sn g := k1
    rw [x3] at k1
    have z5 := (i5 g' x0 x1).2.2.2.1
    show 0 ≤ pc (8 * g + k) ∧ pc (8 * g + k) < s 1
    rw [x4 k k0 (by clear c1 c2 c3 i4 i5 i6 i7 hk; lia)]
    exact i6 g' k x0 x1 k0 k1
end SM0
