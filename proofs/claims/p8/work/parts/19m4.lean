/-! the reference's tellings -/
section MP4
variable {B : Nat} {w0 : Mp} {s : Nat → Int32} {A : Nat → Int32 → Int32} {w : Mp} {β : Type} {P : β → Prop}
def msame (s : Nat → Int32) (A : Nat → Int32 → Int32) (f n : Int32) : Prop := ∃ k, 0 ≤ k ∧ k < s 1 ∧ A 2 k = f ∧ A 3 k = n
theorem m_leaf_L {x1 x2 x3 x4 : Int32} (h : MW B w0 s A w) (hI : MI s A) : ∀ (n : Nat) (x5 x6 : Int32), 0 ≤ x6 → x6 ≤ s 1 → (s 1 - x6).toInt < n → ((x5 = 0 ∧ ∀ k, 0 ≤ k → k < x6 → ¬ (A 2 k = x1 ∧ A 3 k = x2)) ∨ (x5 = 1 ∧ msame s A x1 x2)) → OK (f_Mod_leaf_L6 w (B + 11) x1 x2 x3 x4 n x5 x6) (fun q => (q.2.1 = 0 ∧ ¬ msame s A x1 x2) ∨ (q.2.1 = 1 ∧ msame s A x1 x2)) := by
  have a1 := hI.1
  intro n
  induction n with
  | zero => intro x5 x6 b0 b1 hn; exact (fu_zero b0 b1 hn).elim
  | succ n ih =>
    intro x5 x6 b0 b1 hn hc
    rw [f_Mod_leaf_L6]
    repeat' first
      | intro _
      | with_reducible refine OK.J1 ?_
      | with_reducible refine OK.J2 ?_
      | with_reducible refine OK.J3 ?_
      | with_reducible refine OK.ifN (by decide) ?_
      | with_reducible refine OK.ifP (by decide) ?_
      | with_reducible refine OK.ite (fun _ => ?_) (fun _ => ?_)
      | with_reducible refine k_gIa (by assumption) (by decide) ?_
      | with_reducible refine k_pF2 (by assumption) (by decide) ?_
      | with_reducible refine k_xo (by assumption) ?_
      | with_reducible refine k_gI (by assumption) (by decide) ?_
      | with_reducible refine k_gR (by assumption) (by decide) ?_
      | with_reducible refine k_pF (by assumption) (by decide) ?_
      | with_reducible refine k_aI (by assumption) (by decide) (by decide) (by grind) (by grind [mln]) ?_
      | with_reducible refine k_sI (by assumption) (by decide) (by decide) (by grind) (by grind [mln]) ?_
    · refine OK.ret ?_
      have : x6 = s 1 := by grind
      subst this
      rcases hc with ⟨c1, c2⟩ | c
      · exact Or.inl ⟨c1, fun ⟨k, k1, k2, k3, k4⟩ => c2 k k1 k2 ⟨k3, k4⟩⟩
      · exact Or.inr c
    · exact ih _ _ (by grind) (by grind) (fu_step (by grind) (by grind) (by assumption)) (Or.inr ⟨rfl, x6, b0, by grind, by assumption, by assumption⟩)
    · exact ih _ _ (by grind) (by grind) (fu_step (by grind) (by grind) (by assumption)) (Or.inl ⟨rfl, fun k k1 k2 => by
        by_cases e : k = x6
        · subst e; grind
        · rcases hc with c | c
          · exact c.2 k k1 (by grind)
          · grind⟩)
    · exact ih _ _ (by grind) (by grind) (fu_step (by grind) (by grind) (by assumption)) (Or.inl ⟨rfl, fun k k1 k2 => by
        by_cases e : k = x6
        · subst e; grind
        · rcases hc with c | c
          · exact c.2 k k1 (by grind)
          · grind⟩)
    · exact ih _ _ (by grind) (by grind) (fu_step (by grind) (by grind) (by assumption)) (Or.inr ⟨rfl, by
        rcases hc with c | c
        · grind
        · exact c.2⟩)
theorem m_leaf {x1 x2 x3 x4 : Int32} (h : MW B w0 s A w) (hI : MI s A) : OK (f_Mod_leaf w (B + 11) x1 x2 x3 x4) (fun q =>
    ((s 1 = 32 ∨ msame s A x1 x2) ∧ MW B w0 (up s 0 1) A q.2) ∨
    (s 1 ≠ 32 ∧ ¬ msame s A x1 x2 ∧ ¬ (0 ≤ x1 ∧ x1 ≤ 3 ∧ 0 ≤ x2 ∧ x2 ≤ 1000 ∧ 1 ≤ x3 ∧ x3 ≤ 12 ∧ 1 ≤ x4 ∧ x4 ≤ 12) ∧ MW B w0 (up s 0 2) A q.2) ∨
    (s 1 ≠ 32 ∧ ¬ msame s A x1 x2 ∧ (0 ≤ x1 ∧ x1 ≤ 3 ∧ 0 ≤ x2 ∧ x2 ≤ 1000 ∧ 1 ≤ x3 ∧ x3 ≤ 12 ∧ 1 ≤ x4 ∧ x4 ≤ 12) ∧ MW B w0 (up (up (up s 0 0) 1 (s 1 + 1)) 15 0) (upA (upA (upA (upA A 2 (s 1) x1) 3 (s 1) x2) 4 (s 1) x3) 5 (s 1) x4) q.2 ∧ q.1 = s 1)) := by
  have a1 := hI.1
  have fu : (s 1 - 0).toInt < (100000 : Nat) := fu_any (by grind) (by grind)
  generalize hms : msame s A x1 x2 = ms at *
  unfold f_Mod_leaf
  repeat' first
    | intro _
    | with_reducible refine OK.J1 ?_
    | with_reducible refine OK.J2 ?_
    | with_reducible refine OK.J3 ?_
    | with_reducible refine OK.ifN (by decide) ?_
    | with_reducible refine OK.ifP (by decide) ?_
    | with_reducible refine OK.ite (fun _ => ?_) (fun _ => ?_)
    | with_reducible refine k_gIa (by assumption) (by decide) ?_
    | with_reducible refine k_pF2 (by assumption) (by decide) ?_
    | with_reducible refine k_xo (by assumption) ?_
    | with_reducible refine k_gI (by assumption) (by decide) ?_
    | with_reducible refine k_gR (by assumption) (by decide) ?_
    | with_reducible refine k_pF (by assumption) (by decide) ?_
    | with_reducible refine k_aI (by assumption) (by decide) (by decide) (by grind) (by grind [mln]) ?_
    | with_reducible refine k_sI (by assumption) (by decide) (by decide) (by grind) (by grind [mln]) ?_
    | with_reducible refine m_isIn ?_ ?_
    | with_reducible refine OK.call (m_leaf_L h hI _ _ _ (by decide) a1.1 fu (Or.inl ⟨rfl, fun k k1 k2 => by grind⟩)) ?_
    | with_reducible refine k_sI (by assumption) (by decide) (by decide) (by grind [up]) (by grind [up, mln]) ?_
  all_goals refine OK.ret ?_
  all_goals first
    | exact Or.inl ⟨by grind, by assumption⟩
    | exact Or.inr (Or.inl ⟨by grind, by grind, by grind, by assumption⟩)
    | exact Or.inr (Or.inr ⟨by grind, by grind, by grind, by assumption, by grind [up]⟩)
    | (exfalso; grind)
theorem m_pixel {x1 x2 x3 x4 : Int32} (h : MW B w0 s A w) (hI : MI s A) : OK (f_Mod_pixel w (B + 11) x1 x2 x3 x4) (fun q =>
    (¬ (0 ≤ x1 ∧ x1 < s 1 ∧ 0 ≤ x2 ∧ x2 < A 4 x1 ∧ 0 ≤ x3 ∧ x3 < A 5 x1) ∧ MW B w0 (up s 0 1) A q.2) ∨
    ((0 ≤ x1 ∧ x1 < s 1 ∧ 0 ≤ x2 ∧ x2 < A 4 x1 ∧ 0 ≤ x3 ∧ x3 < A 5 x1) ∧ ¬ (0 ≤ x4 ∧ x4 ≤ 255) ∧ MW B w0 (up s 0 2) A q.2) ∨
    ((0 ≤ x1 ∧ x1 < s 1 ∧ 0 ≤ x2 ∧ x2 < A 4 x1 ∧ 0 ≤ x3 ∧ x3 < A 5 x1) ∧ (0 ≤ x4 ∧ x4 ≤ 255) ∧ A 8 (144 * x1 + 12 * x3 + x2) = x4 ∧ q.1 = 0 ∧ MW B w0 (up s 0 0) A q.2) ∨
    ((0 ≤ x1 ∧ x1 < s 1 ∧ 0 ≤ x2 ∧ x2 < A 4 x1 ∧ 0 ≤ x3 ∧ x3 < A 5 x1) ∧ (0 ≤ x4 ∧ x4 ≤ 255) ∧ A 8 (144 * x1 + 12 * x3 + x2) ≠ x4 ∧ q.1 = 1 ∧ MW B w0 (up s 0 0) (upA A 8 (144 * x1 + 12 * x3 + x2) x4) q.2)) := by
  have a1 := hI.1
  have a9 : 0 ≤ x1 → x1 < s 1 → 0 ≤ x2 → x2 < A 4 x1 → 0 ≤ x3 → x3 < A 5 x1 → 0 ≤ 144 * x1 + 12 * x3 + x2 ∧ 144 * x1 + 12 * x3 + x2 < mln 8 := fun b0 b1 b2 b3 b4 b5 => by
    have := hI.2.2.2.1 x1 b0 b1
    show _ ∧ _ < (4608 : Int32)
    constructor <;> grind
  generalize hz : 144 * x1 + 12 * x3 + x2 = z at a9 ⊢
  unfold f_Mod_pixel
  rw [hz]
  repeat' first
    | intro _
    | with_reducible refine OK.J1 ?_
    | with_reducible refine OK.J2 ?_
    | with_reducible refine OK.J3 ?_
    | with_reducible refine OK.ifN (by decide) ?_
    | with_reducible refine OK.ifP (by decide) ?_
    | with_reducible refine OK.ite (fun _ => ?_) (fun _ => ?_)
    | with_reducible refine k_aI (by assumption) (by decide) (by decide) (a9 (by grind) (by grind) (by grind) (by grind) (by grind) (by grind)).1 (a9 (by grind) (by grind) (by grind) (by grind) (by grind) (by grind)).2 ?_
    | with_reducible refine k_sI (by assumption) (by decide) (by decide) (a9 (by grind) (by grind) (by grind) (by grind) (by grind) (by grind)).1 (a9 (by grind) (by grind) (by grind) (by grind) (by grind) (by grind)).2 ?_
    | with_reducible refine k_gIa (by assumption) (by decide) ?_
    | with_reducible refine k_pF2 (by assumption) (by decide) ?_
    | with_reducible refine k_xo (by assumption) ?_
    | with_reducible refine k_gI (by assumption) (by decide) ?_
    | with_reducible refine k_gR (by assumption) (by decide) ?_
    | with_reducible refine k_pF (by assumption) (by decide) ?_
    | with_reducible refine k_aI (by assumption) (by decide) (by decide) (by grind) (by grind [mln]) ?_
    | with_reducible refine k_sI (by assumption) (by decide) (by decide) (by grind) (by grind [mln]) ?_
    | with_reducible refine m_isIn ?_ ?_
  all_goals refine OK.ret ?_
  all_goals first
    | exact Or.inl ⟨by grind, by assumption⟩
    | exact Or.inr (Or.inl ⟨by grind, by grind, by assumption⟩)
    | exact Or.inr (Or.inr (Or.inl ⟨by grind, by grind, by grind, rfl, by assumption⟩))
    | exact Or.inr (Or.inr (Or.inr ⟨by grind, by grind, by grind, rfl, by assumption⟩))
    | (exfalso; grind)
theorem m_reserve {x1 x2 : Int32} (h : MW B w0 s A w) (hI : MI s A) : OK (f_Mod_reserve w (B + 11) x1 x2) (fun q =>
    (¬ (0 ≤ x1 ∧ x1 < s 1) ∧ MW B w0 (up s 0 1) A q.2) ∨
    ((0 ≤ x1 ∧ x1 < s 1) ∧ A 7 x1 ≠ 0 ∧ MW B w0 (up s 0 2) A q.2) ∨
    ((0 ≤ x1 ∧ x1 < s 1) ∧ A 7 x1 = 0 ∧ ¬ (0 ≤ x2 ∧ x2 ≤ 1000) ∧ MW B w0 (up s 0 3) A q.2) ∨
    ((0 ≤ x1 ∧ x1 < s 1) ∧ A 7 x1 = 0 ∧ (0 ≤ x2 ∧ x2 ≤ 1000) ∧ A 6 x1 = x2 ∧ q.1 = 0 ∧ MW B w0 (up s 0 0) A q.2) ∨
    ((0 ≤ x1 ∧ x1 < s 1) ∧ A 7 x1 = 0 ∧ (0 ≤ x2 ∧ x2 ≤ 1000) ∧ A 6 x1 ≠ x2 ∧ q.1 = 1 ∧ MW B w0 (up (up s 0 0) 15 0) (upA A 6 x1 x2) q.2)) := by
  have a1 := hI.1
  unfold f_Mod_reserve
  repeat' first
    | intro _
    | with_reducible refine OK.J1 ?_
    | with_reducible refine OK.J2 ?_
    | with_reducible refine OK.J3 ?_
    | with_reducible refine OK.ifN (by decide) ?_
    | with_reducible refine OK.ifP (by decide) ?_
    | with_reducible refine OK.ite (fun _ => ?_) (fun _ => ?_)
    | with_reducible refine k_gIa (by assumption) (by decide) ?_
    | with_reducible refine k_pF2 (by assumption) (by decide) ?_
    | with_reducible refine k_xo (by assumption) ?_
    | with_reducible refine k_gI (by assumption) (by decide) ?_
    | with_reducible refine k_gR (by assumption) (by decide) ?_
    | with_reducible refine k_pF (by assumption) (by decide) ?_
    | with_reducible refine k_aI (by assumption) (by decide) (by decide) (by grind) (by grind [mln]) ?_
    | with_reducible refine k_sI (by assumption) (by decide) (by decide) (by grind) (by grind [mln]) ?_
    | with_reducible refine m_isIn ?_ ?_
  all_goals refine OK.ret ?_
  all_goals first
    | exact Or.inl ⟨by grind, by assumption⟩
    | exact Or.inr (Or.inl ⟨by grind, by grind, by assumption⟩)
    | exact Or.inr (Or.inr (Or.inl ⟨by grind, by grind, by grind, by assumption⟩))
    | exact Or.inr (Or.inr (Or.inr (Or.inl ⟨by grind, by grind, by grind, by grind, rfl, by assumption⟩)))
    | exact Or.inr (Or.inr (Or.inr (Or.inr ⟨by grind, by grind, by grind, by grind, rfl, by assumption⟩)))
    | (exfalso; grind)
end MP4
