/-! the reference's readers -/
section MP1
variable {B : Nat} {w0 : Mp} {s : Nat → Int32} {A : Nat → Int32 → Int32} {w : Mp} {β : Type} {P : β → Prop}
theorem m_isIn {F : Int32 → Option β} {x a b : Int32} (h1 : a ≤ x → x ≤ b → OK (F 1) P) (h2 : ¬ (a ≤ x ∧ x ≤ b) → OK (F 0) P) : OK ((f_Mod_isIn w x a b).bind F) P := by
  unfold f_Mod_isIn
  by_cases c1 : x < a
  · rw [if_pos c1]
    exact h2 (by grind)
  · rw [if_neg c1]
    by_cases c2 : b < x
    · rw [if_pos c2]
      exact h2 (by grind)
    · rw [if_neg c2]
      exact h1 (by grind) (by grind)
def mmir (A : Nat → Int32 → Int32) (f k : Int32) : Int32 := if k - k / 2 * 2 = 1 then (if A 10 f = 0 then 1 else if A 10 f = 3 then 1 else 0) else 0
def mtur (A : Nat → Int32 → Int32) (f k : Int32) : Int32 := if A 10 f = 2 then (if k - k / 2 * 2 = 1 then 1 else 0) else if A 10 f = 3 then (if k ≤ 1 then 0 else 1) else 0
theorem m_isMirrored {F : Int32 → Option β} {f k : Int32} (h : MW B w0 s A w) (h0 : 0 ≤ f) (h1 : f < 8) (hp : OK (F (mmir A f k)) P) : OK ((f_Mod_isMirrored w (B + 11) f k).bind F) P := by
  refine OK.call (P := fun v => v = mmir A f k) ?_ (fun v e => by rw [e]; exact hp)
  unfold f_Mod_isMirrored
  repeat' first
    | intro _
    | with_reducible refine OK.J1 ?_
    | with_reducible refine OK.J2 ?_
    | with_reducible refine OK.J3 ?_
    | with_reducible refine OK.ifN (by decide) ?_
    | with_reducible refine OK.ifP (by decide) ?_
    | with_reducible refine OK.ite (fun _ => ?_) (fun _ => ?_)
    | with_reducible refine k_gIa (by assumption) (by decide) ?_
    | with_reducible refine k_pF2 (by assumption) (by decide) ?_
    | with_reducible refine k_xo (by assumption) ?_
    | with_reducible refine k_gI (by assumption) (by decide) ?_
    | with_reducible refine k_gR (by assumption) (by decide) ?_
    | with_reducible refine k_pF (by assumption) (by decide) ?_
    | with_reducible refine k_aI (by assumption) (by decide) (by decide) (by grind) (by grind [mln]) ?_
    | with_reducible refine k_sI (by assumption) (by decide) (by decide) (by grind) (by grind [mln]) ?_
  all_goals refine OK.ret ?_
  all_goals grind [mmir]
theorem m_isTurned {F : Int32 → Option β} {f k : Int32} (h : MW B w0 s A w) (h0 : 0 ≤ f) (h1 : f < 8) (hp : OK (F (mtur A f k)) P) : OK ((f_Mod_isTurned w (B + 11) f k).bind F) P := by
  refine OK.call (P := fun v => v = mtur A f k) ?_ (fun v e => by rw [e]; exact hp)
  unfold f_Mod_isTurned
  repeat' first
    | intro _
    | with_reducible refine OK.J1 ?_
    | with_reducible refine OK.J2 ?_
    | with_reducible refine OK.J3 ?_
    | with_reducible refine OK.ifN (by decide) ?_
    | with_reducible refine OK.ifP (by decide) ?_
    | with_reducible refine OK.ite (fun _ => ?_) (fun _ => ?_)
    | with_reducible refine k_gIa (by assumption) (by decide) ?_
    | with_reducible refine k_pF2 (by assumption) (by decide) ?_
    | with_reducible refine k_xo (by assumption) ?_
    | with_reducible refine k_gI (by assumption) (by decide) ?_
    | with_reducible refine k_gR (by assumption) (by decide) ?_
    | with_reducible refine k_pF (by assumption) (by decide) ?_
    | with_reducible refine k_aI (by assumption) (by decide) (by decide) (by grind) (by grind [mln]) ?_
    | with_reducible refine k_sI (by assumption) (by decide) (by decide) (by grind) (by grind [mln]) ?_
  all_goals refine OK.ret ?_
  all_goals grind [mtur]
theorem m_pc (hI : MI s A) {f k : Int32} (h0 : 0 ≤ f) (h1 : f < s 9) (h2 : 0 ≤ k) (h3 : k < A 11 f) : (0 ≤ 8 * f + k ∧ 8 * f + k < 64) ∧ A 12 (8 * f + k) = pcs A f k ∧ (0 ≤ pcs A f k ∧ pcs A f k < 32) ∧ (1 ≤ A 4 (pcs A f k) ∧ A 4 (pcs A f k) ≤ 12) ∧ (1 ≤ A 5 (pcs A f k) ∧ A 5 (pcs A f k) ≤ 12) ∧ (0 ≤ A 3 (pcs A f k) ∧ A 3 (pcs A f k) ≤ 1000) := by
  obtain ⟨i1, i2, i3, i4, i5, i6, i7⟩ := hI
  have a1 := i5 f h0 h1
  have a2 := i6 f k h0 h1 h2 h3
  have a3 := i4 (pcs A f k) a2.1 a2.2
  refine ⟨by grind, rfl, by grind, by grind, by grind, by grind⟩
theorem m_wide {F : Int32 → Option β} {f k : Int32} (h : MW B w0 s A w) (hI : MI s A) (h0 : 0 ≤ f) (h1 : f < s 9) (h2 : 0 ≤ k) (h3 : k < A 11 f) (hp : ∀ v, v = A 4 (pcs A f k) → 1 ≤ v → v ≤ 12 → OK (F v) P) : OK ((f_Mod_wide w (B + 11) f k).bind F) P := by
  obtain ⟨a1, a2, a3, a4, a5, a6⟩ := m_pc hI h0 h1 h2 h3
  refine OK.call (P := fun v => v = A 4 (pcs A f k)) ?_ (fun v e => hp v e (by grind) (by grind))
  unfold f_Mod_wide
  repeat' first
    | intro _
    | with_reducible refine OK.J1 ?_
    | with_reducible refine OK.J2 ?_
    | with_reducible refine OK.J3 ?_
    | with_reducible refine OK.ifN (by decide) ?_
    | with_reducible refine OK.ifP (by decide) ?_
    | with_reducible refine OK.ite (fun _ => ?_) (fun _ => ?_)
    | with_reducible refine k_gIa (by assumption) (by decide) ?_
    | with_reducible refine k_pF2 (by assumption) (by decide) ?_
    | with_reducible refine k_xo (by assumption) ?_
    | with_reducible refine k_gI (by assumption) (by decide) ?_
    | with_reducible refine k_gR (by assumption) (by decide) ?_
    | with_reducible refine k_pF (by assumption) (by decide) ?_
    | with_reducible refine k_aI (by assumption) (by decide) (by decide) (by grind) (by grind [mln]) ?_
    | with_reducible refine k_sI (by assumption) (by decide) (by decide) (by grind) (by grind [mln]) ?_
  all_goals refine OK.ret ?_
  all_goals grind
theorem m_high {F : Int32 → Option β} {f k : Int32} (h : MW B w0 s A w) (hI : MI s A) (h0 : 0 ≤ f) (h1 : f < s 9) (h2 : 0 ≤ k) (h3 : k < A 11 f) (hp : ∀ v, v = A 5 (pcs A f k) → 1 ≤ v → v ≤ 12 → OK (F v) P) : OK ((f_Mod_high w (B + 11) f k).bind F) P := by
  obtain ⟨a1, a2, a3, a4, a5, a6⟩ := m_pc hI h0 h1 h2 h3
  refine OK.call (P := fun v => v = A 5 (pcs A f k)) ?_ (fun v e => hp v e (by grind) (by grind))
  unfold f_Mod_high
  repeat' first
    | intro _
    | with_reducible refine OK.J1 ?_
    | with_reducible refine OK.J2 ?_
    | with_reducible refine OK.J3 ?_
    | with_reducible refine OK.ifN (by decide) ?_
    | with_reducible refine OK.ifP (by decide) ?_
    | with_reducible refine OK.ite (fun _ => ?_) (fun _ => ?_)
    | with_reducible refine k_gIa (by assumption) (by decide) ?_
    | with_reducible refine k_pF2 (by assumption) (by decide) ?_
    | with_reducible refine k_xo (by assumption) ?_
    | with_reducible refine k_gI (by assumption) (by decide) ?_
    | with_reducible refine k_gR (by assumption) (by decide) ?_
    | with_reducible refine k_pF (by assumption) (by decide) ?_
    | with_reducible refine k_aI (by assumption) (by decide) (by decide) (by grind) (by grind [mln]) ?_
    | with_reducible refine k_sI (by assumption) (by decide) (by decide) (by grind) (by grind [mln]) ?_
  all_goals refine OK.ret ?_
  all_goals grind
theorem m_grey {F : Int32 → Option β} {f k x y : Int32} (h : MW B w0 s A w) (hI : MI s A) (h0 : 0 ≤ f) (h1 : f < s 9) (h2 : 0 ≤ k) (h3 : k < A 11 f) (h4 : 0 ≤ x) (h5 : x < A 4 (pcs A f k)) (h6 : 0 ≤ y) (h7 : y < A 5 (pcs A f k)) (hp : OK (F (A 8 (144 * pcs A f k + 12 * (if mtur A f k = 0 then y else A 5 (pcs A f k) - 1 - y) + (if mmir A f k = 0 then x else A 4 (pcs A f k) - 1 - x)))) P) : OK ((f_Mod_grey w (B + 11) f k x y).bind F) P := by
  obtain ⟨a1, a2, a3, a4, a5, a6⟩ := m_pc hI h0 h1 h2 h3
  have a7 := hI.2.1
  refine OK.call (P := fun v => v = (A 8 (144 * pcs A f k + 12 * (if mtur A f k = 0 then y else A 5 (pcs A f k) - 1 - y) + (if mmir A f k = 0 then x else A 4 (pcs A f k) - 1 - x)))) ?_ (fun v e => by rw [e]; exact hp)
  unfold f_Mod_grey
  repeat' first
    | intro _
    | with_reducible refine OK.J1 ?_
    | with_reducible refine OK.J2 ?_
    | with_reducible refine OK.J3 ?_
    | with_reducible refine OK.ifN (by decide) ?_
    | with_reducible refine OK.ifP (by decide) ?_
    | with_reducible refine OK.ite (fun _ => ?_) (fun _ => ?_)
    | with_reducible refine k_gIa (by assumption) (by decide) ?_
    | with_reducible refine k_pF2 (by assumption) (by decide) ?_
    | with_reducible refine k_xo (by assumption) ?_
    | with_reducible refine k_gI (by assumption) (by decide) ?_
    | with_reducible refine k_gR (by assumption) (by decide) ?_
    | with_reducible refine k_pF (by assumption) (by decide) ?_
    | with_reducible refine k_aI (by assumption) (by decide) (by decide) (by grind) (by grind [mln]) ?_
    | with_reducible refine k_sI (by assumption) (by decide) (by decide) (by grind) (by grind [mln]) ?_
    | with_reducible refine m_isMirrored (by assumption) (by grind) (by grind) ?_
    | with_reducible refine m_isTurned (by assumption) (by grind) (by grind) ?_
  all_goals refine OK.ret ?_
  all_goals grind
theorem m_seams {F : Int32 → Option β} {f : Int32} (h : MW B w0 s A w) (h0 : 0 ≤ f) (h1 : f < 8) (hp : OK (F (if A 10 f = 3 then 2 else A 11 f - 1)) P) : OK ((f_Mod_seams w (B + 11) f).bind F) P := by
  refine OK.call (P := fun v => v = (if A 10 f = 3 then 2 else A 11 f - 1)) ?_ (fun v e => by rw [e]; exact hp)
  unfold f_Mod_seams
  repeat' first
    | intro _
    | with_reducible refine OK.J1 ?_
    | with_reducible refine OK.J2 ?_
    | with_reducible refine OK.J3 ?_
    | with_reducible refine OK.ifN (by decide) ?_
    | with_reducible refine OK.ifP (by decide) ?_
    | with_reducible refine OK.ite (fun _ => ?_) (fun _ => ?_)
    | with_reducible refine k_gIa (by assumption) (by decide) ?_
    | with_reducible refine k_pF2 (by assumption) (by decide) ?_
    | with_reducible refine k_xo (by assumption) ?_
    | with_reducible refine k_gI (by assumption) (by decide) ?_
    | with_reducible refine k_gR (by assumption) (by decide) ?_
    | with_reducible refine k_pF (by assumption) (by decide) ?_
    | with_reducible refine k_aI (by assumption) (by decide) (by decide) (by grind) (by grind [mln]) ?_
    | with_reducible refine k_sI (by assumption) (by decide) (by decide) (by grind) (by grind [mln]) ?_
  all_goals refine OK.ret ?_
  all_goals grind
theorem m_leftOf {F : Int32 → Option β} {f k : Int32} (h : MW B w0 s A w) (h0 : 0 ≤ f) (h1 : f < 8) (hp : OK (F (if A 10 f = 3 then 2 * k else k)) P) : OK ((f_Mod_leftOf w (B + 11) f k).bind F) P := by
  refine OK.call (P := fun v => v = (if A 10 f = 3 then 2 * k else k)) ?_ (fun v e => by rw [e]; exact hp)
  unfold f_Mod_leftOf
  repeat' first
    | intro _
    | with_reducible refine OK.J1 ?_
    | with_reducible refine OK.J2 ?_
    | with_reducible refine OK.J3 ?_
    | with_reducible refine OK.ifN (by decide) ?_
    | with_reducible refine OK.ifP (by decide) ?_
    | with_reducible refine OK.ite (fun _ => ?_) (fun _ => ?_)
    | with_reducible refine k_gIa (by assumption) (by decide) ?_
    | with_reducible refine k_pF2 (by assumption) (by decide) ?_
    | with_reducible refine k_xo (by assumption) ?_
    | with_reducible refine k_gI (by assumption) (by decide) ?_
    | with_reducible refine k_gR (by assumption) (by decide) ?_
    | with_reducible refine k_pF (by assumption) (by decide) ?_
    | with_reducible refine k_aI (by assumption) (by decide) (by decide) (by grind) (by grind [mln]) ?_
    | with_reducible refine k_sI (by assumption) (by decide) (by decide) (by grind) (by grind [mln]) ?_
  all_goals refine OK.ret ?_
  all_goals grind
end MP1
