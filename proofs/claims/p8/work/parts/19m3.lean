/-! the reference's questions -/
section MP3
variable {B : Nat} {w0 : Mp} {s : Nat → Int32} {A : Nat → Int32 → Int32} {w : Mp} {β : Type} {P : β → Prop}
theorem m_noFace {F : Int32 × Mp → Option β} {f : Int32} (h : MW B w0 s A w) (hy : ∀ w', 0 ≤ f → f < s 9 → MW B w0 (up s 0 0) A w' → OK (F (0, w')) P) (hn : ∀ w', ¬ (0 ≤ f ∧ f < s 9) → MW B w0 (up s 0 1) A w' → OK (F (1, w')) P) : OK ((f_Mod_noFace w (B + 11) f).bind F) P := by
  refine OK.call (P := fun q => (0 ≤ f ∧ f < s 9 ∧ MW B w0 (up s 0 0) A q.2 ∧ q.1 = 0) ∨ (¬ (0 ≤ f ∧ f < s 9) ∧ MW B w0 (up s 0 1) A q.2 ∧ q.1 = 1)) ?_ (fun q e => ?_)
  · unfold f_Mod_noFace
    repeat' first
      | intro _
      | with_reducible refine OK.J1 ?_
      | with_reducible refine OK.J2 ?_
      | with_reducible refine OK.J3 ?_
      | with_reducible refine OK.ifN (by decide) ?_
      | with_reducible refine OK.ifP (by decide) ?_
      | with_reducible refine OK.ite (fun _ => ?_) (fun _ => ?_)
      | with_reducible refine k_gIa (by assumption) (by decide) ?_
      | with_reducible refine k_pF2 (by assumption) (by decide) ?_
      | with_reducible refine k_xo (by assumption) ?_
      | with_reducible refine k_gI (by assumption) (by decide) ?_
      | with_reducible refine k_gR (by assumption) (by decide) ?_
      | with_reducible refine k_pF (by assumption) (by decide) ?_
      | with_reducible refine k_aI (by assumption) (by decide) (by decide) (by grind) (by grind [mln]) ?_
      | with_reducible refine k_sI (by assumption) (by decide) (by decide) (by grind) (by grind [mln]) ?_
    all_goals refine OK.ret ?_
    all_goals first | exact Or.inl ⟨by grind, by grind, by assumption, rfl⟩ | exact Or.inr ⟨by grind, by assumption, rfl⟩
  · rcases e with ⟨a, b, c, d⟩ | ⟨a, c, d⟩
    · have := hy q.2 a b c
      rw [← d] at this
      exact this
    · have := hn q.2 a c
      rw [← d] at this
      exact this
theorem m_noPiece {F : Int32 × Mp → Option β} {f k : Int32} (h : MW B w0 s A w) (hI : MI s A) (hy : ∀ w', 0 ≤ f → f < s 9 → 0 ≤ k → k < A 11 f → MW B w0 (up s 0 0) A w' → OK (F (0, w')) P) (hn : ∀ w', ¬ (0 ≤ f ∧ f < s 9 ∧ 0 ≤ k ∧ k < A 11 f) → MW B w0 (up s 0 1) A w' → OK (F (1, w')) P) : OK ((f_Mod_noPiece w (B + 11) f k).bind F) P := by
  have a6 := hI.2.1
  refine OK.call (P := fun q => ((0 ≤ f ∧ f < s 9 ∧ 0 ≤ k ∧ k < A 11 f) ∧ MW B w0 (up s 0 0) A q.2 ∧ q.1 = 0) ∨ (¬ (0 ≤ f ∧ f < s 9 ∧ 0 ≤ k ∧ k < A 11 f) ∧ MW B w0 (up s 0 1) A q.2 ∧ q.1 = 1)) ?_ (fun q e => ?_)
  · unfold f_Mod_noPiece
    repeat' first
      | intro _
      | with_reducible refine OK.J1 ?_
      | with_reducible refine OK.J2 ?_
      | with_reducible refine OK.J3 ?_
      | with_reducible refine OK.ifN (by decide) ?_
      | with_reducible refine OK.ifP (by decide) ?_
      | with_reducible refine OK.ite (fun _ => ?_) (fun _ => ?_)
      | with_reducible refine k_gIa (by assumption) (by decide) ?_
      | with_reducible refine k_pF2 (by assumption) (by decide) ?_
      | with_reducible refine k_xo (by assumption) ?_
      | with_reducible refine k_gI (by assumption) (by decide) ?_
      | with_reducible refine k_gR (by assumption) (by decide) ?_
      | with_reducible refine k_pF (by assumption) (by decide) ?_
      | with_reducible refine k_aI (by assumption) (by decide) (by decide) (by grind) (by grind [mln]) ?_
      | with_reducible refine k_sI (by assumption) (by decide) (by decide) (by grind) (by grind [mln]) ?_
    all_goals refine OK.ret ?_
    all_goals first | exact Or.inl ⟨by grind, by assumption, rfl⟩ | exact Or.inr ⟨by grind, by assumption, rfl⟩
  · rcases e with ⟨a, c, d⟩ | ⟨a, c, d⟩
    · have := hy q.2 a.1 a.2.1 a.2.2.1 a.2.2.2 c
      rw [← d] at this
      exact this
    · have := hn q.2 a c
      rw [← d] at this
      exact this
theorem m_noSeam {F : Int32 × Mp → Option β} {f k : Int32} (h : MW B w0 s A w) (hI : MI s A) (hy : ∀ w', 0 ≤ f → f < s 9 → 0 ≤ k → k < (if A 10 f = 3 then 2 else A 11 f - 1) → MW B w0 (up s 0 0) A w' → OK (F (0, w')) P) (hn : ∀ w', ¬ (0 ≤ f ∧ f < s 9 ∧ 0 ≤ k ∧ k < (if A 10 f = 3 then 2 else A 11 f - 1)) → MW B w0 (up s 0 1) A w' → OK (F (1, w')) P) : OK ((f_Mod_noSeam w (B + 11) f k).bind F) P := by
  have a6 := hI.2.1
  refine OK.call (P := fun q => ((0 ≤ f ∧ f < s 9 ∧ 0 ≤ k ∧ k < (if A 10 f = 3 then 2 else A 11 f - 1)) ∧ MW B w0 (up s 0 0) A q.2 ∧ q.1 = 0) ∨ (¬ (0 ≤ f ∧ f < s 9 ∧ 0 ≤ k ∧ k < (if A 10 f = 3 then 2 else A 11 f - 1)) ∧ MW B w0 (up s 0 1) A q.2 ∧ q.1 = 1)) ?_ (fun q e => ?_)
  · unfold f_Mod_noSeam
    generalize hg : (if A 10 f = 3 then 2 else A 11 f - 1) = g
    repeat' first
      | intro _
      | with_reducible refine OK.J1 ?_
      | with_reducible refine OK.J2 ?_
      | with_reducible refine OK.J3 ?_
      | with_reducible refine OK.ifN (by decide) ?_
      | with_reducible refine OK.ifP (by decide) ?_
      | with_reducible refine OK.ite (fun _ => ?_) (fun _ => ?_)
      | with_reducible refine k_gIa (by assumption) (by decide) ?_
      | with_reducible refine k_pF2 (by assumption) (by decide) ?_
      | with_reducible refine k_xo (by assumption) ?_
      | with_reducible refine k_gI (by assumption) (by decide) ?_
      | with_reducible refine k_gR (by assumption) (by decide) ?_
      | with_reducible refine k_pF (by assumption) (by decide) ?_
      | with_reducible refine k_aI (by assumption) (by decide) (by decide) (by grind) (by grind [mln]) ?_
      | with_reducible refine k_sI (by assumption) (by decide) (by decide) (by grind) (by grind [mln]) ?_
      | with_reducible refine m_seams (by assumption) (by grind) (by grind) ?_
    all_goals refine OK.ret ?_
    all_goals first | exact Or.inl ⟨by grind, by assumption, rfl⟩ | exact Or.inr ⟨by grind, by assumption, rfl⟩
  · rcases e with ⟨a, c, d⟩ | ⟨a, c, d⟩
    · have := hy q.2 a.1 a.2.1 a.2.2.1 a.2.2.2 c
      rw [← d] at this
      exact this
    · have := hn q.2 a c
      rw [← d] at this
      exact this
/-- a question: only the code changes -/
def MQc (B : Nat) (w0 : Mp) (s : Nat → Int32) (A : Nat → Int32 → Int32) (c : Int32) (w' : Mp) : Prop := MW B w0 (up s 0 c) A w'
theorem m_place {f k t : Int32} (h : MW B w0 s A w) (hI : MI s A) : OK (f_Mod_place w (B + 11) f k t) (fun q => ∃ c, MW B w0 (up s 0 c) A q.2 ∧ c = if 0 ≤ f ∧ f < s 9 ∧ 0 ≤ k ∧ k < A 11 f then (if 0 ≤ t ∧ t ≤ 4 then 0 else 2) else 1) := by
  have a6 := hI.2.1
  have a5 := hI.2.2.2.2.1
  unfold f_Mod_place
  repeat' first
    | intro _
    | with_reducible refine OK.J1 ?_
    | with_reducible refine OK.J2 ?_
    | with_reducible refine OK.J3 ?_
    | with_reducible refine OK.ifN (by decide) ?_
    | with_reducible refine OK.ifP (by decide) ?_
    | with_reducible refine OK.ite (fun _ => ?_) (fun _ => ?_)
    | with_reducible refine k_gIa (by assumption) (by decide) ?_
    | with_reducible refine k_pF2 (by assumption) (by decide) ?_
    | with_reducible refine k_xo (by assumption) ?_
    | with_reducible refine k_gI (by assumption) (by decide) ?_
    | with_reducible refine k_gR (by assumption) (by decide) ?_
    | with_reducible refine k_pF (by assumption) (by decide) ?_
    | with_reducible refine k_aI (by assumption) (by decide) (by decide) (by grind) (by grind [mln]) ?_
    | with_reducible refine k_sI (by assumption) (by decide) (by decide) (by grind) (by grind [mln]) ?_
    | with_reducible refine m_noFace (by assumption) ?_ ?_
    | with_reducible refine m_noPiece (by assumption) (by assumption) ?_ ?_
    | with_reducible refine m_noSeam (by assumption) (by assumption) ?_ ?_
    | with_reducible refine m_isIn ?_ ?_
    | with_reducible refine k_gIa (by assumption) (by decide) ?_
    | with_reducible refine m_isMirrored (by assumption) (by grind) (by grind) ?_
    | with_reducible refine m_isTurned (by assumption) (by grind) (by grind) ?_
    | with_reducible refine m_across (by assumption) (by repeat (first | assumption | refine MI.sc rfl ?_ | refine MI.ar rfl ?_)) (by grind [up]) (by grind [up]) (by grind [up]) (by grind [up]) ?_
    | with_reducible refine m_topOf (by assumption) (by repeat (first | assumption | refine MI.sc rfl ?_ | refine MI.ar rfl ?_)) (by grind [up]) (by grind [up]) (by grind [up]) (by grind [up]) ?_
    | with_reducible refine m_wideOf (by assumption) (by repeat (first | assumption | refine MI.sc rfl ?_ | refine MI.ar rfl ?_)) (by grind [up]) (by grind [up]) ?_
    | with_reducible refine m_leastTop (by assumption) (by repeat (first | assumption | refine MI.sc rfl ?_ | refine MI.ar rfl ?_)) (by grind [up]) (by grind [up]) ?_
    | with_reducible refine m_shiftOf (by assumption) (by repeat (first | assumption | refine MI.sc rfl ?_ | refine MI.ar rfl ?_)) (by grind [up]) (by grind [up]) (by grind [up]) (by grind [up]) ?_
    | with_reducible refine m_sumAt (by assumption) (by repeat (first | assumption | refine MI.sc rfl ?_ | refine MI.ar rfl ?_)) (by grind [up]) (by grind [up]) (by grind [up]) (by grind [up]) (by grind) (by grind) ?_
    | with_reducible refine m_high (by assumption) (by repeat (first | assumption | refine MI.sc rfl ?_ | refine MI.ar rfl ?_)) (by grind [up]) (by grind [up]) (by grind [up]) (by grind [up]) ?_
    | with_reducible refine m_wide (by assumption) (by repeat (first | assumption | refine MI.sc rfl ?_ | refine MI.ar rfl ?_)) (by grind [up]) (by grind [up]) (by grind [up]) (by grind [up]) ?_
    | exact OK.ret ⟨_, by assumption, by grind⟩
theorem m_seam {f k : Int32} (h : MW B w0 s A w) (hI : MI s A) : OK (f_Mod_seam w (B + 11) f k) (fun q => ∃ c, MW B w0 (up s 0 c) A q.2 ∧ c = if 0 ≤ f ∧ f < s 9 ∧ 0 ≤ k ∧ k < (if A 10 f = 3 then 2 else A 11 f - 1) then 0 else 1) := by
  unfold f_Mod_seam
  generalize hg : (if A 10 f = 3 then 2 else A 11 f - 1) = g
  repeat' first
    | intro _
    | with_reducible refine OK.J1 ?_
    | with_reducible refine OK.J2 ?_
    | with_reducible refine OK.J3 ?_
    | with_reducible refine OK.ifN (by decide) ?_
    | with_reducible refine OK.ifP (by decide) ?_
    | with_reducible refine OK.ite (fun _ => ?_) (fun _ => ?_)
    | with_reducible refine k_gIa (by assumption) (by decide) ?_
    | with_reducible refine k_pF2 (by assumption) (by decide) ?_
    | with_reducible refine k_xo (by assumption) ?_
    | with_reducible refine k_gI (by assumption) (by decide) ?_
    | with_reducible refine k_gR (by assumption) (by decide) ?_
    | with_reducible refine k_pF (by assumption) (by decide) ?_
    | with_reducible refine k_aI (by assumption) (by decide) (by decide) (by grind) (by grind [mln]) ?_
    | with_reducible refine k_sI (by assumption) (by decide) (by decide) (by grind) (by grind [mln]) ?_
    | with_reducible refine m_noFace (by assumption) ?_ ?_
    | with_reducible refine m_noPiece (by assumption) (by assumption) ?_ ?_
    | with_reducible refine m_noSeam (by assumption) (by assumption) ?_ ?_
    | with_reducible refine m_isIn ?_ ?_
    | with_reducible refine k_gIa (by assumption) (by decide) ?_
    | with_reducible refine m_isMirrored (by assumption) (by grind) (by grind) ?_
    | with_reducible refine m_isTurned (by assumption) (by grind) (by grind) ?_
    | with_reducible refine m_across (by assumption) (by repeat (first | assumption | refine MI.sc rfl ?_ | refine MI.ar rfl ?_)) (by grind [up]) (by grind [up]) (by grind [up]) (by grind [up]) ?_
    | with_reducible refine m_topOf (by assumption) (by repeat (first | assumption | refine MI.sc rfl ?_ | refine MI.ar rfl ?_)) (by grind [up]) (by grind [up]) (by grind [up]) (by grind [up]) ?_
    | with_reducible refine m_wideOf (by assumption) (by repeat (first | assumption | refine MI.sc rfl ?_ | refine MI.ar rfl ?_)) (by grind [up]) (by grind [up]) ?_
    | with_reducible refine m_leastTop (by assumption) (by repeat (first | assumption | refine MI.sc rfl ?_ | refine MI.ar rfl ?_)) (by grind [up]) (by grind [up]) ?_
    | with_reducible refine m_shiftOf (by assumption) (by repeat (first | assumption | refine MI.sc rfl ?_ | refine MI.ar rfl ?_)) (by grind [up]) (by grind [up]) (by grind [up]) (by grind [up]) ?_
    | with_reducible refine m_sumAt (by assumption) (by repeat (first | assumption | refine MI.sc rfl ?_ | refine MI.ar rfl ?_)) (by grind [up]) (by grind [up]) (by grind [up]) (by grind [up]) (by grind) (by grind) ?_
    | with_reducible refine m_high (by assumption) (by repeat (first | assumption | refine MI.sc rfl ?_ | refine MI.ar rfl ?_)) (by grind [up]) (by grind [up]) (by grind [up]) (by grind [up]) ?_
    | with_reducible refine m_wide (by assumption) (by repeat (first | assumption | refine MI.sc rfl ?_ | refine MI.ar rfl ?_)) (by grind [up]) (by grind [up]) (by grind [up]) (by grind [up]) ?_
    | exact OK.ret ⟨_, by assumption, by grind⟩
theorem m_sum {f k d : Int32} (h : MW B w0 s A w) (hI : MI s A) : OK (f_Mod_sum w (B + 11) f k d) (fun q => ∃ c, MW B w0 (up s 0 c) A q.2 ∧ c = if 0 ≤ f ∧ f < s 9 ∧ 0 ≤ k ∧ k < (if A 10 f = 3 then 2 else A 11 f - 1) then (if -3 ≤ d ∧ d ≤ 3 then 0 else 2) else 1) := by
  unfold f_Mod_sum
  generalize hg : (if A 10 f = 3 then 2 else A 11 f - 1) = g
  repeat' first
    | intro _
    | with_reducible refine OK.J1 ?_
    | with_reducible refine OK.J2 ?_
    | with_reducible refine OK.J3 ?_
    | with_reducible refine OK.ifN (by decide) ?_
    | with_reducible refine OK.ifP (by decide) ?_
    | with_reducible refine OK.ite (fun _ => ?_) (fun _ => ?_)
    | with_reducible refine k_gIa (by assumption) (by decide) ?_
    | with_reducible refine k_pF2 (by assumption) (by decide) ?_
    | with_reducible refine k_xo (by assumption) ?_
    | with_reducible refine k_gI (by assumption) (by decide) ?_
    | with_reducible refine k_gR (by assumption) (by decide) ?_
    | with_reducible refine k_pF (by assumption) (by decide) ?_
    | with_reducible refine k_aI (by assumption) (by decide) (by decide) (by grind) (by grind [mln]) ?_
    | with_reducible refine k_sI (by assumption) (by decide) (by decide) (by grind) (by grind [mln]) ?_
    | with_reducible refine m_noFace (by assumption) ?_ ?_
    | with_reducible refine m_noPiece (by assumption) (by assumption) ?_ ?_
    | with_reducible refine m_noSeam (by assumption) (by assumption) ?_ ?_
    | with_reducible refine m_isIn ?_ ?_
    | with_reducible refine k_gIa (by assumption) (by decide) ?_
    | with_reducible refine m_isMirrored (by assumption) (by grind) (by grind) ?_
    | with_reducible refine m_isTurned (by assumption) (by grind) (by grind) ?_
    | with_reducible refine m_across (by assumption) (by repeat (first | assumption | refine MI.sc rfl ?_ | refine MI.ar rfl ?_)) (by grind [up]) (by grind [up]) (by grind [up]) (by grind [up]) ?_
    | with_reducible refine m_topOf (by assumption) (by repeat (first | assumption | refine MI.sc rfl ?_ | refine MI.ar rfl ?_)) (by grind [up]) (by grind [up]) (by grind [up]) (by grind [up]) ?_
    | with_reducible refine m_wideOf (by assumption) (by repeat (first | assumption | refine MI.sc rfl ?_ | refine MI.ar rfl ?_)) (by grind [up]) (by grind [up]) ?_
    | with_reducible refine m_leastTop (by assumption) (by repeat (first | assumption | refine MI.sc rfl ?_ | refine MI.ar rfl ?_)) (by grind [up]) (by grind [up]) ?_
    | with_reducible refine m_shiftOf (by assumption) (by repeat (first | assumption | refine MI.sc rfl ?_ | refine MI.ar rfl ?_)) (by grind [up]) (by grind [up]) (by grind [up]) (by grind [up]) ?_
    | with_reducible refine m_sumAt (by assumption) (by repeat (first | assumption | refine MI.sc rfl ?_ | refine MI.ar rfl ?_)) (by grind [up]) (by grind [up]) (by grind [up]) (by grind [up]) (by grind) (by grind) ?_
    | with_reducible refine m_high (by assumption) (by repeat (first | assumption | refine MI.sc rfl ?_ | refine MI.ar rfl ?_)) (by grind [up]) (by grind [up]) (by grind [up]) (by grind [up]) ?_
    | with_reducible refine m_wide (by assumption) (by repeat (first | assumption | refine MI.sc rfl ?_ | refine MI.ar rfl ?_)) (by grind [up]) (by grind [up]) (by grind [up]) (by grind [up]) ?_
    | exact OK.ret ⟨_, by assumption, by grind⟩
theorem m_mirrored {f k : Int32} (h : MW B w0 s A w) (hI : MI s A) : OK (f_Mod_mirrored w (B + 11) f k) (fun q => ∃ c, MW B w0 (up s 0 c) A q.2 ∧ c = if 0 ≤ f ∧ f < s 9 ∧ 0 ≤ k ∧ k < (if A 10 f = 3 then 2 else A 11 f - 1) then 0 else 1) := by
  unfold f_Mod_mirrored
  generalize hg : (if A 10 f = 3 then 2 else A 11 f - 1) = g
  repeat' first
    | intro _
    | with_reducible refine OK.J1 ?_
    | with_reducible refine OK.J2 ?_
    | with_reducible refine OK.J3 ?_
    | with_reducible refine OK.ifN (by decide) ?_
    | with_reducible refine OK.ifP (by decide) ?_
    | with_reducible refine OK.ite (fun _ => ?_) (fun _ => ?_)
    | with_reducible refine k_gIa (by assumption) (by decide) ?_
    | with_reducible refine k_pF2 (by assumption) (by decide) ?_
    | with_reducible refine k_xo (by assumption) ?_
    | with_reducible refine k_gI (by assumption) (by decide) ?_
    | with_reducible refine k_gR (by assumption) (by decide) ?_
    | with_reducible refine k_pF (by assumption) (by decide) ?_
    | with_reducible refine k_aI (by assumption) (by decide) (by decide) (by grind) (by grind [mln]) ?_
    | with_reducible refine k_sI (by assumption) (by decide) (by decide) (by grind) (by grind [mln]) ?_
    | with_reducible refine m_noFace (by assumption) ?_ ?_
    | with_reducible refine m_noPiece (by assumption) (by assumption) ?_ ?_
    | with_reducible refine m_noSeam (by assumption) (by assumption) ?_ ?_
    | with_reducible refine m_isIn ?_ ?_
    | with_reducible refine k_gIa (by assumption) (by decide) ?_
    | with_reducible refine m_isMirrored (by assumption) (by grind) (by grind) ?_
    | with_reducible refine m_isTurned (by assumption) (by grind) (by grind) ?_
    | with_reducible refine m_across (by assumption) (by repeat (first | assumption | refine MI.sc rfl ?_ | refine MI.ar rfl ?_)) (by grind [up]) (by grind [up]) (by grind [up]) (by grind [up]) ?_
    | with_reducible refine m_topOf (by assumption) (by repeat (first | assumption | refine MI.sc rfl ?_ | refine MI.ar rfl ?_)) (by grind [up]) (by grind [up]) (by grind [up]) (by grind [up]) ?_
    | with_reducible refine m_wideOf (by assumption) (by repeat (first | assumption | refine MI.sc rfl ?_ | refine MI.ar rfl ?_)) (by grind [up]) (by grind [up]) ?_
    | with_reducible refine m_leastTop (by assumption) (by repeat (first | assumption | refine MI.sc rfl ?_ | refine MI.ar rfl ?_)) (by grind [up]) (by grind [up]) ?_
    | with_reducible refine m_shiftOf (by assumption) (by repeat (first | assumption | refine MI.sc rfl ?_ | refine MI.ar rfl ?_)) (by grind [up]) (by grind [up]) (by grind [up]) (by grind [up]) ?_
    | with_reducible refine m_sumAt (by assumption) (by repeat (first | assumption | refine MI.sc rfl ?_ | refine MI.ar rfl ?_)) (by grind [up]) (by grind [up]) (by grind [up]) (by grind [up]) (by grind) (by grind) ?_
    | with_reducible refine m_high (by assumption) (by repeat (first | assumption | refine MI.sc rfl ?_ | refine MI.ar rfl ?_)) (by grind [up]) (by grind [up]) (by grind [up]) (by grind [up]) ?_
    | with_reducible refine m_wide (by assumption) (by repeat (first | assumption | refine MI.sc rfl ?_ | refine MI.ar rfl ?_)) (by grind [up]) (by grind [up]) (by grind [up]) (by grind [up]) ?_
    | exact OK.ret ⟨_, by assumption, by grind⟩
theorem m_balance_L {f x2 : Int32} (h : MW B w0 s A w) (hI : MI s A) (h0 : 0 ≤ f) (h1 : f < s 9) : ∀ (n : Nat) (x3 x4 : Int32), (x3 = 0 ∨ x3 = 1) → 0 ≤ x4 → x4 ≤ 8 → (8 - x4).toInt < n → OK (f_Mod_balance_L21 w (B + 11) f x2 n x3 x4) (fun q => q.2.1 = 0 ∨ q.2.1 = 1) := by
  have a5 := hI.2.2.2.2.1 f h0 h1
  have a6 := hI.2.1
  intro n
  induction n with
  | zero => intro x5 x6 _ b0 b1 hn; exact (fu_zero b0 b1 hn).elim
  | succ n ih =>
    intro x5 x6 b2 b0 b1 hn
    rw [f_Mod_balance_L21]
    repeat' first
      | intro _
      | with_reducible refine OK.J1 ?_
      | with_reducible refine OK.J2 ?_
      | with_reducible refine OK.J3 ?_
      | with_reducible refine OK.ifN (by decide) ?_
      | with_reducible refine OK.ifP (by decide) ?_
      | with_reducible refine OK.ite (fun _ => ?_) (fun _ => ?_)
      | with_reducible refine k_gIa (by assumption) (by decide) ?_
      | with_reducible refine k_pF2 (by assumption) (by decide) ?_
      | with_reducible refine k_xo (by assumption) ?_
      | with_reducible refine k_gI (by assumption) (by decide) ?_
      | with_reducible refine k_gR (by assumption) (by decide) ?_
      | with_reducible refine k_pF (by assumption) (by decide) ?_
      | with_reducible refine k_aI (by assumption) (by decide) (by decide) (by grind) (by grind [mln]) ?_
      | with_reducible refine k_sI (by assumption) (by decide) (by decide) (by grind) (by grind [mln]) ?_
      | with_reducible refine m_isMirrored (by assumption) (by grind) (by grind) ?_
      | with_reducible refine m_isTurned (by assumption) (by grind) (by grind) ?_
      | with_reducible refine m_across (by assumption) (by repeat (first | assumption | refine MI.sc rfl ?_ | refine MI.ar rfl ?_)) (by grind [up]) (by grind [up]) (by grind [up]) (by grind [up]) ?_
      | with_reducible refine m_topOf (by assumption) (by repeat (first | assumption | refine MI.sc rfl ?_ | refine MI.ar rfl ?_)) (by grind [up]) (by grind [up]) (by grind [up]) (by grind [up]) ?_
      | with_reducible refine m_wideOf (by assumption) (by repeat (first | assumption | refine MI.sc rfl ?_ | refine MI.ar rfl ?_)) (by grind [up]) (by grind [up]) ?_
      | with_reducible refine m_leastTop (by assumption) (by repeat (first | assumption | refine MI.sc rfl ?_ | refine MI.ar rfl ?_)) (by grind [up]) (by grind [up]) ?_
      | with_reducible refine m_shiftOf (by assumption) (by repeat (first | assumption | refine MI.sc rfl ?_ | refine MI.ar rfl ?_)) (by grind [up]) (by grind [up]) (by grind [up]) (by grind [up]) ?_
      | with_reducible refine m_sumAt (by assumption) (by repeat (first | assumption | refine MI.sc rfl ?_ | refine MI.ar rfl ?_)) (by grind [up]) (by grind [up]) (by grind [up]) (by grind [up]) (by grind) (by grind) ?_
      | with_reducible refine m_high (by assumption) (by repeat (first | assumption | refine MI.sc rfl ?_ | refine MI.ar rfl ?_)) (by grind [up]) (by grind [up]) (by grind [up]) (by grind [up]) ?_
      | with_reducible refine m_wide (by assumption) (by repeat (first | assumption | refine MI.sc rfl ?_ | refine MI.ar rfl ?_)) (by grind [up]) (by grind [up]) (by grind [up]) (by grind [up]) ?_
      | exact OK.ret b2
      | exact ih _ _ (by decide) (by grind) (by grind) (fu_step (by grind) (by grind) (by assumption))
theorem m_balance {f : Int32} (h : MW B w0 s A w) (hI : MI s A) : OK (f_Mod_balance w (B + 11) f) (fun q => ∃ c, MW B w0 (up s 0 c) A q.2 ∧ c = if 0 ≤ f ∧ f < s 9 then 0 else 1) := by
  unfold f_Mod_balance
  repeat' first
    | intro _
    | with_reducible refine OK.J1 ?_
    | with_reducible refine OK.J2 ?_
    | with_reducible refine OK.J3 ?_
    | with_reducible refine OK.ifN (by decide) ?_
    | with_reducible refine OK.ifP (by decide) ?_
    | with_reducible refine OK.ite (fun _ => ?_) (fun _ => ?_)
    | with_reducible refine k_gIa (by assumption) (by decide) ?_
    | with_reducible refine k_pF2 (by assumption) (by decide) ?_
    | with_reducible refine k_xo (by assumption) ?_
    | with_reducible refine k_gI (by assumption) (by decide) ?_
    | with_reducible refine k_gR (by assumption) (by decide) ?_
    | with_reducible refine k_pF (by assumption) (by decide) ?_
    | with_reducible refine k_aI (by assumption) (by decide) (by decide) (by grind) (by grind [mln]) ?_
    | with_reducible refine k_sI (by assumption) (by decide) (by decide) (by grind) (by grind [mln]) ?_
    | with_reducible refine m_noFace (by assumption) ?_ ?_
    | with_reducible refine m_noPiece (by assumption) (by assumption) ?_ ?_
    | with_reducible refine m_noSeam (by assumption) (by assumption) ?_ ?_
    | with_reducible refine m_isIn ?_ ?_
    | with_reducible refine k_gIa (by assumption) (by decide) ?_
    | with_reducible refine m_isMirrored (by assumption) (by grind) (by grind) ?_
    | with_reducible refine m_isTurned (by assumption) (by grind) (by grind) ?_
    | with_reducible refine m_across (by assumption) (by repeat (first | assumption | refine MI.sc rfl ?_ | refine MI.ar rfl ?_)) (by grind [up]) (by grind [up]) (by grind [up]) (by grind [up]) ?_
    | with_reducible refine m_topOf (by assumption) (by repeat (first | assumption | refine MI.sc rfl ?_ | refine MI.ar rfl ?_)) (by grind [up]) (by grind [up]) (by grind [up]) (by grind [up]) ?_
    | with_reducible refine m_wideOf (by assumption) (by repeat (first | assumption | refine MI.sc rfl ?_ | refine MI.ar rfl ?_)) (by grind [up]) (by grind [up]) ?_
    | with_reducible refine m_leastTop (by assumption) (by repeat (first | assumption | refine MI.sc rfl ?_ | refine MI.ar rfl ?_)) (by grind [up]) (by grind [up]) ?_
    | with_reducible refine m_shiftOf (by assumption) (by repeat (first | assumption | refine MI.sc rfl ?_ | refine MI.ar rfl ?_)) (by grind [up]) (by grind [up]) (by grind [up]) (by grind [up]) ?_
    | with_reducible refine m_sumAt (by assumption) (by repeat (first | assumption | refine MI.sc rfl ?_ | refine MI.ar rfl ?_)) (by grind [up]) (by grind [up]) (by grind [up]) (by grind [up]) (by grind) (by grind) ?_
    | with_reducible refine m_high (by assumption) (by repeat (first | assumption | refine MI.sc rfl ?_ | refine MI.ar rfl ?_)) (by grind [up]) (by grind [up]) (by grind [up]) (by grind [up]) ?_
    | with_reducible refine m_wide (by assumption) (by repeat (first | assumption | refine MI.sc rfl ?_ | refine MI.ar rfl ?_)) (by grind [up]) (by grind [up]) (by grind [up]) (by grind [up]) ?_
    | exact OK.ret ⟨_, by assumption, by grind⟩
    | with_reducible refine OK.call (m_balance_L (by assumption) (by repeat (first | assumption | refine MI.sc rfl ?_ | refine MI.ar rfl ?_)) (by grind) (by grind [up]) _ _ _ (by decide) (by decide) (by decide) (by decide)) ?_
  all_goals rename_i z1 z2
  all_goals exact absurd (by rcases z1 with e | e <;> rw [e] <;> rfl) z2
theorem m_about_L {f x2 : Int32} (h : MW B w0 s A w) (hI : MI s A) (h0 : 0 ≤ f) (h1 : f < s 9) : ∀ (n : Nat) (x3 x4 : Int32), 0 ≤ x4 → x4 ≤ 8 → (8 - x4).toInt < n → OK (f_Mod_about_L43 w (B + 11) f x2 n x3 x4) (fun _ => True) := by
  have a5 := hI.2.2.2.2.1 f h0 h1
  have a6 := hI.2.1
  intro n
  induction n with
  | zero => intro x5 x6 b0 b1 hn; exact (fu_zero b0 b1 hn).elim
  | succ n ih =>
    intro x5 x6 b0 b1 hn
    rw [f_Mod_about_L43]
    repeat' first
      | intro _
      | with_reducible refine OK.J1 ?_
      | with_reducible refine OK.J2 ?_
      | with_reducible refine OK.J3 ?_
      | with_reducible refine OK.ifN (by decide) ?_
      | with_reducible refine OK.ifP (by decide) ?_
      | with_reducible refine OK.ite (fun _ => ?_) (fun _ => ?_)
      | with_reducible refine k_gIa (by assumption) (by decide) ?_
      | with_reducible refine k_pF2 (by assumption) (by decide) ?_
      | with_reducible refine k_xo (by assumption) ?_
      | with_reducible refine k_gI (by assumption) (by decide) ?_
      | with_reducible refine k_gR (by assumption) (by decide) ?_
      | with_reducible refine k_pF (by assumption) (by decide) ?_
      | with_reducible refine k_aI (by assumption) (by decide) (by decide) (by grind) (by grind [mln]) ?_
      | with_reducible refine k_sI (by assumption) (by decide) (by decide) (by grind) (by grind [mln]) ?_
      | with_reducible refine m_isMirrored (by assumption) (by grind) (by grind) ?_
      | with_reducible refine m_isTurned (by assumption) (by grind) (by grind) ?_
      | with_reducible refine m_across (by assumption) (by repeat (first | assumption | refine MI.sc rfl ?_ | refine MI.ar rfl ?_)) (by grind [up]) (by grind [up]) (by grind [up]) (by grind [up]) ?_
      | with_reducible refine m_topOf (by assumption) (by repeat (first | assumption | refine MI.sc rfl ?_ | refine MI.ar rfl ?_)) (by grind [up]) (by grind [up]) (by grind [up]) (by grind [up]) ?_
      | with_reducible refine m_wideOf (by assumption) (by repeat (first | assumption | refine MI.sc rfl ?_ | refine MI.ar rfl ?_)) (by grind [up]) (by grind [up]) ?_
      | with_reducible refine m_leastTop (by assumption) (by repeat (first | assumption | refine MI.sc rfl ?_ | refine MI.ar rfl ?_)) (by grind [up]) (by grind [up]) ?_
      | with_reducible refine m_shiftOf (by assumption) (by repeat (first | assumption | refine MI.sc rfl ?_ | refine MI.ar rfl ?_)) (by grind [up]) (by grind [up]) (by grind [up]) (by grind [up]) ?_
      | with_reducible refine m_sumAt (by assumption) (by repeat (first | assumption | refine MI.sc rfl ?_ | refine MI.ar rfl ?_)) (by grind [up]) (by grind [up]) (by grind [up]) (by grind [up]) (by grind) (by grind) ?_
      | with_reducible refine m_high (by assumption) (by repeat (first | assumption | refine MI.sc rfl ?_ | refine MI.ar rfl ?_)) (by grind [up]) (by grind [up]) (by grind [up]) (by grind [up]) ?_
      | with_reducible refine m_wide (by assumption) (by repeat (first | assumption | refine MI.sc rfl ?_ | refine MI.ar rfl ?_)) (by grind [up]) (by grind [up]) (by grind [up]) (by grind [up]) ?_
      | exact OK.ret trivial
      | exact ih _ _ (by grind) (by grind) (fu_step (by grind) (by grind) (by assumption))
theorem m_about {f t : Int32} (h : MW B w0 s A w) (hI : MI s A) : OK (f_Mod_about w (B + 11) f t) (fun q => ∃ c, MW B w0 (up s 0 c) A q.2 ∧ c = if 0 ≤ f ∧ f < s 9 then (if 0 ≤ t ∧ t ≤ 3 then 0 else 2) else 1) := by
  have a6 := hI.2.1
  unfold f_Mod_about
  repeat' first
    | intro _
    | with_reducible refine OK.J1 ?_
    | with_reducible refine OK.J2 ?_
    | with_reducible refine OK.J3 ?_
    | with_reducible refine OK.ifN (by decide) ?_
    | with_reducible refine OK.ifP (by decide) ?_
    | with_reducible refine OK.ite (fun _ => ?_) (fun _ => ?_)
    | with_reducible refine k_gIa (by assumption) (by decide) ?_
    | with_reducible refine k_pF2 (by assumption) (by decide) ?_
    | with_reducible refine k_xo (by assumption) ?_
    | with_reducible refine k_gI (by assumption) (by decide) ?_
    | with_reducible refine k_gR (by assumption) (by decide) ?_
    | with_reducible refine k_pF (by assumption) (by decide) ?_
    | with_reducible refine k_aI (by assumption) (by decide) (by decide) (by grind) (by grind [mln]) ?_
    | with_reducible refine k_sI (by assumption) (by decide) (by decide) (by grind) (by grind [mln]) ?_
    | with_reducible refine m_noFace (by assumption) ?_ ?_
    | with_reducible refine m_noPiece (by assumption) (by assumption) ?_ ?_
    | with_reducible refine m_noSeam (by assumption) (by assumption) ?_ ?_
    | with_reducible refine m_isIn ?_ ?_
    | with_reducible refine k_gIa (by assumption) (by decide) ?_
    | with_reducible refine m_isMirrored (by assumption) (by grind) (by grind) ?_
    | with_reducible refine m_isTurned (by assumption) (by grind) (by grind) ?_
    | with_reducible refine m_across (by assumption) (by repeat (first | assumption | refine MI.sc rfl ?_ | refine MI.ar rfl ?_)) (by grind [up]) (by grind [up]) (by grind [up]) (by grind [up]) ?_
    | with_reducible refine m_topOf (by assumption) (by repeat (first | assumption | refine MI.sc rfl ?_ | refine MI.ar rfl ?_)) (by grind [up]) (by grind [up]) (by grind [up]) (by grind [up]) ?_
    | with_reducible refine m_wideOf (by assumption) (by repeat (first | assumption | refine MI.sc rfl ?_ | refine MI.ar rfl ?_)) (by grind [up]) (by grind [up]) ?_
    | with_reducible refine m_leastTop (by assumption) (by repeat (first | assumption | refine MI.sc rfl ?_ | refine MI.ar rfl ?_)) (by grind [up]) (by grind [up]) ?_
    | with_reducible refine m_shiftOf (by assumption) (by repeat (first | assumption | refine MI.sc rfl ?_ | refine MI.ar rfl ?_)) (by grind [up]) (by grind [up]) (by grind [up]) (by grind [up]) ?_
    | with_reducible refine m_sumAt (by assumption) (by repeat (first | assumption | refine MI.sc rfl ?_ | refine MI.ar rfl ?_)) (by grind [up]) (by grind [up]) (by grind [up]) (by grind [up]) (by grind) (by grind) ?_
    | with_reducible refine m_high (by assumption) (by repeat (first | assumption | refine MI.sc rfl ?_ | refine MI.ar rfl ?_)) (by grind [up]) (by grind [up]) (by grind [up]) (by grind [up]) ?_
    | with_reducible refine m_wide (by assumption) (by repeat (first | assumption | refine MI.sc rfl ?_ | refine MI.ar rfl ?_)) (by grind [up]) (by grind [up]) (by grind [up]) (by grind [up]) ?_
    | exact OK.ret ⟨_, by assumption, by grind⟩
    | with_reducible refine OK.call (m_about_L (by assumption) (by repeat (first | assumption | refine MI.sc rfl ?_ | refine MI.ar rfl ?_)) (by grind) (by grind [up]) _ _ _ (by decide) (by decide) (by decide)) ?_
theorem m_planned {k t : Int32} (h : MW B w0 s A w) (hI : MI s A) : OK (f_Mod_planned w (B + 11) k t) (fun q => ∃ c, MW B w0 (up s 0 c) A q.2 ∧ c = if s 15 = 0 then 1 else if 0 ≤ k ∧ k < s 13 then (if 0 ≤ t ∧ t ≤ 1 then 0 else 3) else 2) := by
  have a6 := hI.2.2.1
  unfold f_Mod_planned
  repeat' first
    | intro _
    | with_reducible refine OK.J1 ?_
    | with_reducible refine OK.J2 ?_
    | with_reducible refine OK.J3 ?_
    | with_reducible refine OK.ifN (by decide) ?_
    | with_reducible refine OK.ifP (by decide) ?_
    | with_reducible refine OK.ite (fun _ => ?_) (fun _ => ?_)
    | with_reducible refine k_gIa (by assumption) (by decide) ?_
    | with_reducible refine k_pF2 (by assumption) (by decide) ?_
    | with_reducible refine k_xo (by assumption) ?_
    | with_reducible refine k_gI (by assumption) (by decide) ?_
    | with_reducible refine k_gR (by assumption) (by decide) ?_
    | with_reducible refine k_pF (by assumption) (by decide) ?_
    | with_reducible refine k_aI (by assumption) (by decide) (by decide) (by grind) (by grind [mln]) ?_
    | with_reducible refine k_sI (by assumption) (by decide) (by decide) (by grind) (by grind [mln]) ?_
    | with_reducible refine m_noFace (by assumption) ?_ ?_
    | with_reducible refine m_noPiece (by assumption) (by assumption) ?_ ?_
    | with_reducible refine m_noSeam (by assumption) (by assumption) ?_ ?_
    | with_reducible refine m_isIn ?_ ?_
    | with_reducible refine k_gIa (by assumption) (by decide) ?_
    | with_reducible refine m_isMirrored (by assumption) (by grind) (by grind) ?_
    | with_reducible refine m_isTurned (by assumption) (by grind) (by grind) ?_
    | with_reducible refine m_across (by assumption) (by repeat (first | assumption | refine MI.sc rfl ?_ | refine MI.ar rfl ?_)) (by grind [up]) (by grind [up]) (by grind [up]) (by grind [up]) ?_
    | with_reducible refine m_topOf (by assumption) (by repeat (first | assumption | refine MI.sc rfl ?_ | refine MI.ar rfl ?_)) (by grind [up]) (by grind [up]) (by grind [up]) (by grind [up]) ?_
    | with_reducible refine m_wideOf (by assumption) (by repeat (first | assumption | refine MI.sc rfl ?_ | refine MI.ar rfl ?_)) (by grind [up]) (by grind [up]) ?_
    | with_reducible refine m_leastTop (by assumption) (by repeat (first | assumption | refine MI.sc rfl ?_ | refine MI.ar rfl ?_)) (by grind [up]) (by grind [up]) ?_
    | with_reducible refine m_shiftOf (by assumption) (by repeat (first | assumption | refine MI.sc rfl ?_ | refine MI.ar rfl ?_)) (by grind [up]) (by grind [up]) (by grind [up]) (by grind [up]) ?_
    | with_reducible refine m_sumAt (by assumption) (by repeat (first | assumption | refine MI.sc rfl ?_ | refine MI.ar rfl ?_)) (by grind [up]) (by grind [up]) (by grind [up]) (by grind [up]) (by grind) (by grind) ?_
    | with_reducible refine m_high (by assumption) (by repeat (first | assumption | refine MI.sc rfl ?_ | refine MI.ar rfl ?_)) (by grind [up]) (by grind [up]) (by grind [up]) (by grind [up]) ?_
    | with_reducible refine m_wide (by assumption) (by repeat (first | assumption | refine MI.sc rfl ?_ | refine MI.ar rfl ?_)) (by grind [up]) (by grind [up]) (by grind [up]) (by grind [up]) ?_
    | exact OK.ret ⟨_, by assumption, by grind⟩
theorem m_clear (h : MW B w0 s A w) : OK (f_Mod_clear w (B + 11)) (fun q => MW B w0 (up (up (up s 0 0) 13 0) 15 0) A q.2 ∧ q.1 = s 13) := by
  unfold f_Mod_clear
  repeat' first
    | intro _
    | with_reducible refine OK.J1 ?_
    | with_reducible refine OK.J2 ?_
    | with_reducible refine OK.J3 ?_
    | with_reducible refine OK.ifN (by decide) ?_
    | with_reducible refine OK.ifP (by decide) ?_
    | with_reducible refine OK.ite (fun _ => ?_) (fun _ => ?_)
    | with_reducible refine k_gIa (by assumption) (by decide) ?_
    | with_reducible refine k_pF2 (by assumption) (by decide) ?_
    | with_reducible refine k_xo (by assumption) ?_
    | with_reducible refine k_gI (by assumption) (by decide) ?_
    | with_reducible refine k_gR (by assumption) (by decide) ?_
    | with_reducible refine k_pF (by assumption) (by decide) ?_
    | with_reducible refine k_aI (by assumption) (by decide) (by decide) (by grind) (by grind [mln]) ?_
    | with_reducible refine k_sI (by assumption) (by decide) (by decide) (by grind) (by grind [mln]) ?_
  exact OK.ret ⟨by assumption, by grind [up]⟩
theorem m_want {x : Int32} (h : MW B w0 s A w) (hI : MI s A) : OK (f_Mod_want w (B + 11) x) (fun q => (s 13 = 8 ∧ MW B w0 (up s 0 1) A q.2) ∨ (s 13 ≠ 8 ∧ ¬ (1 ≤ x ∧ x ≤ 100) ∧ MW B w0 (up s 0 2) A q.2) ∨ (s 13 ≠ 8 ∧ 1 ≤ x ∧ x ≤ 100 ∧ MW B w0 (up (up (up s 0 0) 13 (s 13 + 1)) 15 0) (upA A 14 (s 13) x) q.2 ∧ q.1 = s 13 + 1)) := by
  have a6 := hI.2.2.1
  have e : up s 0 0 13 = s 13 := rfl
  unfold f_Mod_want
  repeat' first
    | intro _
    | with_reducible refine OK.J1 ?_
    | with_reducible refine OK.J2 ?_
    | with_reducible refine OK.J3 ?_
    | with_reducible refine OK.ifN (by decide) ?_
    | with_reducible refine OK.ifP (by decide) ?_
    | with_reducible refine OK.ite (fun _ => ?_) (fun _ => ?_)
    | with_reducible refine k_gIa (by assumption) (by decide) ?_
    | with_reducible refine k_pF2 (by assumption) (by decide) ?_
    | with_reducible refine k_xo (by assumption) ?_
    | with_reducible refine k_gI (by assumption) (by decide) ?_
    | with_reducible refine k_gR (by assumption) (by decide) ?_
    | with_reducible refine k_pF (by assumption) (by decide) ?_
    | with_reducible refine k_aI (by assumption) (by decide) (by decide) (by grind) (by grind [mln]) ?_
    | with_reducible refine k_sI (by assumption) (by decide) (by decide) (by grind) (by grind [mln]) ?_
    | with_reducible refine m_isIn ?_ ?_
    | with_reducible refine k_sI (by assumption) (by decide) (by decide) (by grind [up]) (by grind [up, mln]) ?_
  · exact OK.ret (Or.inl ⟨by assumption, by assumption⟩)
  · exact OK.ret (Or.inr (Or.inr ⟨by assumption, by assumption, by assumption, by assumption, by grind [up]⟩))
  · exact OK.ret (Or.inr (Or.inl ⟨by assumption, by assumption, by assumption⟩))
end MP3
