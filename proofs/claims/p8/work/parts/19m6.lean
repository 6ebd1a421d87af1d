/-! the reference: number -/
theorem wl {v : Int32} : 1 ≤ wlen v ∧ wlen v ≤ 4 := by grind [wlen]
section MP6
variable {B : Nat} {w0 : Mp} {s : Nat → Int32} {A : Nat → Int32 → Int32} {w : Mp} {β : Type} {P : β → Prop}
theorem u21 {j : Nat} {x y : Int32} (hj : j ≠ 21) : upA A 21 x y j = A j := if_neg hj
theorem u12 {x y : Int32} : upA A 21 x y 12 = A 12 := if_neg (by decide)
theorem u10 {x y : Int32} : upA A 21 x y 10 = A 10 := if_neg (by decide)
theorem u03 {x y : Int32} : upA A 21 x y 3 = A 3 := if_neg (by decide)
theorem w12 {n : Nat} {v x y : Int32} : wdig A v n x y 12 = A 12 := wdig_ne (by decide) ..
theorem w10 {n : Nat} {v x y : Int32} : wdig A v n x y 10 = A 10 := wdig_ne (by decide) ..
theorem w03 {n : Nat} {v x y : Int32} : wdig A v n x y 3 = A 3 := wdig_ne (by decide) ..
theorem m_number {f k i : Int32} (h : MW B w0 s A w) (hI : MI s A) : OK (f_Mod_number w (B + 11) f k i) (fun q => ∃ c A', MW B w0 (up s 0 c) A' q.2 ∧ (∀ j, j ≠ 21 → A' j = A j) ∧ c = if 0 ≤ f ∧ f < s 9 ∧ 0 ≤ k ∧ k < A 11 f then (if 0 ≤ i then 0 else 2) else 1) := by
  have a6 := hI.2.1
  have p : 0 ≤ f → f < s 9 → 0 ≤ k → k < A 11 f → (0 ≤ 8 * f + k ∧ 8 * f + k < 64) ∧ (0 ≤ A 12 (8 * f + k) ∧ A 12 (8 * f + k) < 32) ∧ (0 ≤ A 3 (A 12 (8 * f + k)) ∧ A 3 (A 12 (8 * f + k)) ≤ 1000) := fun b0 b1 b2 b3 => by
    have z := m_pc hI b0 b1 b2 b3
    rw [z.2.1]
    exact ⟨z.1, z.2.2.1, z.2.2.2.2.2⟩
  have l1 := wl (v := f + 1)
  have l2 := wl (v := A 3 (A 12 (8 * f + k)))
  generalize hz : 8 * f + k = z at p l2
  unfold f_Mod_number
  rw [hz]
  repeat' first
    | intro _
    | with_reducible refine OK.J1 ?_
    | with_reducible refine OK.J2 ?_
    | with_reducible refine OK.J3 ?_
    | with_reducible refine OK.ifN (by decide) ?_
    | with_reducible refine OK.ifP (by decide) ?_
    | with_reducible refine OK.ifP (by exact rfl) ?_
    | with_reducible refine OK.ifN (fun z => absurd (show (1 : Int32) = 0 from z) (by decide)) ?_
    | with_reducible refine OK.ite (fun _ => ?_) (fun _ => ?_)
    | simp only [u12, u10, u03, w12, w10, w03]
    | with_reducible refine k_gIa (by assumption) (by decide) ?_
    | with_reducible refine k_pF2 (by assumption) (by decide) ?_
    | with_reducible refine k_xo (by assumption) ?_
    | with_reducible refine k_gI (by assumption) (by decide) ?_
    | with_reducible refine k_gR (by assumption) (by decide) ?_
    | with_reducible refine k_pF (by assumption) (by decide) ?_
    | with_reducible refine k_aI (by assumption) (by decide) (by decide) (by grind) (by grind [mln]) ?_
    | with_reducible refine k_sI (by assumption) (by decide) (by decide) (by grind) (by grind [mln]) ?_
    | with_reducible refine m_noPiece (by assumption) (by assumption) ?_ ?_
    | with_reducible refine m_isMirrored (by assumption) (by grind) (by grind) ?_
    | with_reducible refine m_isTurned (by assumption) (by grind) (by grind) ?_
    | with_reducible refine m_writeNumber (by assumption) (by grind) (by grind) (by grind) (by grind) ?_
  all_goals exact OK.ret ⟨_, _, by assumption, fun j hj => by simp only [u21 hj, wdig_ne hj], by grind⟩
end MP6
