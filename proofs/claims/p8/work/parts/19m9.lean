/-! the reference: match -/
def cntf (s : Nat → Int32) (A : Nat → Int32 → Int32) (g : Int32) : Int32 := Int32.ofNat (cn (frb A g) (s 1).toNatClampNeg)
def mbrk (A : Nat → Int32 → Int32) (r : Int32 → Int32) (n : Int32) : Prop := ∃ k, 1 ≤ k ∧ k < n ∧ A 3 (r k) ≠ A 3 (r (k - 1)) + 1
def upPU (A : Nat → Int32 → Int32) (pc us : Int32 → Int32) : Nat → Int32 → Int32 := fun j => if j = 12 then pc else if j = 7 then us else A j
theorem upPU_12 {A : Nat → Int32 → Int32} {pc us : Int32 → Int32} {i x : Int32} : upA (upPU A pc us) 12 i x = upPU A (fun y => if y = i then x else pc y) us := by
  funext j
  unfold upA upPU
  by_cases h : j = 12
  · subst h; rfl
  · rw [if_neg h, if_neg h, if_neg h]
theorem upPU_7 {A : Nat → Int32 → Int32} {pc us : Int32 → Int32} {i x : Int32} : upA (upPU A pc us) 7 i x = upPU A pc (fun y => if y = i then x else us y) := by
  funext j
  unfold upA upPU
  by_cases h : j = 7
  · subst h; rfl
  · rw [if_neg h]
    by_cases h2 : j = 12
    · rw [if_pos h2, if_pos h2]
    · rw [if_neg h2, if_neg h, if_neg h2, if_neg h]
theorem upPU_id {A : Nat → Int32 → Int32} : upPU A (A 12) (A 7) = A := by
  funext j
  unfold upPU
  by_cases h : j = 12
  · rw [if_pos h, h]
  · rw [if_neg h]
    by_cases h2 : j = 7
    · rw [if_pos h2, h2]
    · rw [if_neg h2]
def FL (s : Nat → Int32) (A : Nat → Int32 → Int32) (n fl rs : Int32) (r : Int32 → Int32) : Prop := RI s A fl rs r ∧ rs = cntf s A fl ∧ 0 ≤ rs ∧ rs ≤ s 1 ∧ 0 ≤ fl ∧ fl ≤ 4 ∧ (∀ g, 0 ≤ g → g < fl → cntf s A g < n) ∧ (fl < 4 → n ≤ rs)
section MP9
variable {B : Nat} {w0 : Mp} {s : Nat → Int32} {A : Nat → Int32 → Int32} {w : Mp} {β : Type} {P : β → Prop}
theorem m_match_L7 {kd n : Int32} (hI : MI s A) : ∀ (m : Nat) (x3 rs : Int32) (r : Int32 → Int32) (w : Mp), MW B w0 (up s 18 rs) (upR A r) w → 0 ≤ x3 → x3 ≤ 4 → (4 - x3).toInt < m → RI s A x3 rs r → rs = cntf s A x3 → 0 ≤ rs → rs ≤ s 1 → (∀ g, 0 ≤ g → g < x3 → cntf s A g < n) → OK (f_Mod_match_L7 (B + 11) kd n m x3 w) (fun q => ∃ rs r, MW B w0 (up s 18 rs) (upR A r) q.2.2 ∧ FL s A n q.2.1 rs r) := by
  intro m
  induction m with
  | zero => intro x3 rs r w _ b0 b1 hn; exact (fu_zero b0 b1 hn).elim
  | succ m ih =>
    intro x3 rs r w h b0 b1 hn hr he hr0 hr1 hg
    rw [f_Mod_match_L7]
    refine OK.ite (fun c => OK.ret ⟨rs, r, h, hr, he, hr0, hr1, b0, b1, hg, fun z => by grind⟩) (fun c => ?_)
    refine k_gIa h (by decide) ?_
    refine OK.ite (fun c2 => OK.ret ⟨rs, r, h, hr, he, hr0, hr1, b0, b1, hg, fun z => c2⟩) (fun c2 => ?_)
    refine k_xo h ?_
    refine m_fillRow hI h (fun w' rs' r' h' hr' he' b0' b1' => ?_)
    refine ih _ rs' r' w' h' (by grind) (by grind) (fu_step b0 (by grind) hn) hr' he' b0' b1' (fun g g0 g1 => ?_)
    by_cases e : g = x3
    · rw [e, ← he]; grind
    · exact hg g g0 (by grind)
theorem m_match_L114 {kd n : Int32} {rs : Int32} {r : Int32 → Int32} (hI : MI s A) (h : MW B w0 s (upR A r) w) (hr : ∀ j, 0 ≤ j → j < n → 0 ≤ r j ∧ r j < s 1) (hn8 : n ≤ 8) (hn2 : 2 ≤ n) : ∀ (m : Nat) (x5 x6 : Int32), 1 ≤ x6 → x6 ≤ n → (n - x6).toInt < m → ((x5 = 0 ∧ ∀ k, 1 ≤ k → k < x6 → A 3 (r k) = A 3 (r (k - 1)) + 1) ∨ (x5 = 1 ∧ mbrk A r n)) → OK (f_Mod_match_L114 w (B + 11) kd n m x5 x6) (fun q => (q.2.1 = 0 ∧ ¬ mbrk A r n) ∨ (q.2.1 = 1 ∧ mbrk A r n)) := by
  have a1 := hI.1
  intro m
  induction m with
  | zero => intro x5 x6 b0 b1 hn; exact (fu_zero (by grind) b1 hn).elim
  | succ m ih =>
    intro x5 x6 b0 b1 hn hc
    have fs : x6 < n → (n - (x6 + 1)).toInt < m := fun z => fu_step (by grind) z hn
    have j1 : x6 < n → 0 ≤ r x6 ∧ r x6 < s 1 := fun z => hr x6 (by grind) z
    have j2 : x6 < n → 0 ≤ r (x6 - 1) ∧ r (x6 - 1) < s 1 := fun z => hr (x6 - 1) (by grind) (by grind)
    clear hr hn
    rw [f_Mod_match_L114]
    refine OK.ite (fun c => ?_) (fun c => ?_)
    · have e : x6 = n := by grind
      subst e
      refine OK.ret ?_
      rcases hc with ⟨c1, c2⟩ | c1
      · exact Or.inl ⟨c1, fun ⟨k, k0, k1, k2⟩ => k2 (c2 k k0 k1)⟩
      · exact Or.inr c1
    · have c' : x6 < n := by grind
      have fs := fs c'
      have j1 := j1 c'
      have j2 := j2 c'
      refine OK.ite (fun c0 => ?_) (fun c0 => ?_)
      · have hc : ∀ k, 1 ≤ k → k < x6 → A 3 (r k) = A 3 (r (k - 1)) + 1 := by
          rcases hc with c1 | c1
          · exact c1.2
          · have := c1.1; grind
        refine k_gR h (by decide) ?_
        refine k_gR h (by decide) ?_
        refine k_aIr h (by grind) (by grind) ?_
        refine k_aIR h (by decide) (by decide) (by decide) j1.1 (by show r x6 < (32 : Int32); grind) ?_
        refine k_gR h (by decide) ?_
        refine k_gR h (by decide) ?_
        refine k_aIr h (by grind) (by grind) ?_
        refine k_aIR h (by decide) (by decide) (by decide) j2.1 (by show r (x6 - 1) < (32 : Int32); grind) ?_
        refine OK.ite (fun c2 => ?_) (fun c2 => ?_)
        · refine ih _ _ (by grind) (by grind) fs (Or.inl ⟨rfl, fun k k0 k1 => ?_⟩)
          by_cases e : k = x6
          · rw [e]; exact c2
          · exact hc k k0 (by grind)
        · exact ih _ _ (by grind) (by grind) fs (Or.inr ⟨rfl, x6, b0, c', c2⟩)
      · refine ih _ _ (by grind) (by grind) fs (Or.inr ⟨rfl, ?_⟩)
        rcases hc with c1 | c1
        · exact absurd c1.1 c0
        · exact c1.2
/-- what the pieces and the used leaves are behind m pieces of the face F -/
def PU (A : Nat → Int32 → Int32) (F m : Int32) (r pc us : Int32 → Int32) : Prop := (∀ k, 0 ≤ k → k < m → pc (8 * F + k) = r k) ∧ (∀ i, i < 8 * F ∨ 8 * F + m ≤ i → pc i = A 12 i) ∧ (∀ k, 0 ≤ k → k < m → us (r k) = 1) ∧ (∀ l, (∀ k, 0 ≤ k → k < m → r k ≠ l) → us l = A 7 l)
theorem PU_step {F m : Int32} {r pc us : Int32 → Int32} (h : PU A F m r pc us) (f0 : 0 ≤ F) (f1 : F < 8) (m0 : 0 ≤ m) (m1 : m < 8) : PU A F (m + 1) r (fun y => if y = 8 * F + m then r m else pc y) (fun y => if y = r m then 1 else us y) := by
  obtain ⟨h1, h2, h3, h4⟩ := h
  refine ⟨fun k k0 k1 => ?_, fun i hi => ?_, fun k k0 k1 => ?_, fun l hl => ?_⟩
  · by_cases e : k = m
    · rw [e]; exact if_pos rfl
    · show (if 8 * F + k = 8 * F + m then r m else pc (8 * F + k)) = r k
      rw [if_neg (by grind)]
      exact h1 k k0 (by grind)
  · show (if i = 8 * F + m then r m else pc i) = A 12 i
    rw [if_neg (by grind)]
    exact h2 i (by grind)
  · show (if r k = r m then 1 else us (r k)) = 1
    by_cases e : r k = r m
    · rw [if_pos e]
    · rw [if_neg e]
      exact h3 k k0 (by
        by_cases e2 : k = m
        · rw [e2] at e; exact absurd rfl e
        · grind)
  · show (if l = r m then 1 else us l) = A 7 l
    rw [if_neg (fun z => hl m m0 (by grind) z.symm)]
    exact h4 l (fun k k0 k1 => hl k k0 (by grind))
theorem m_match_L199 {n : Int32} {r : Int32 → Int32} (hr : ∀ j, 0 ≤ j → j < n → 0 ≤ r j ∧ r j < 32) (e19 : A 19 = r) (hn8 : n ≤ 8) (hn2 : 2 ≤ n) (f0 : 0 ≤ s 9) (f1 : s 9 < 8) : ∀ (m : Nat) (x6 : Int32) (pc us : Int32 → Int32) (w : Mp), MW B w0 s (upPU A pc us) w → 0 ≤ x6 → x6 ≤ n → (n - x6).toInt < m → PU A (s 9) x6 r pc us → OK (f_Mod_match_L199 (B + 11) n m x6 w) (fun q => ∃ pc us, MW B w0 s (upPU A pc us) q.2.2 ∧ PU A (s 9) n r pc us) := by
  intro m
  induction m with
  | zero => intro x6 pc us w _ b0 b1 hn; exact (fu_zero (by grind) b1 hn).elim
  | succ m ih =>
    intro x6 pc us w h b0 b1 hn hc
    rw [f_Mod_match_L199]
    refine OK.ite (fun c => ?_) (fun c => ?_)
    · have e : x6 = n := by grind
      subst e
      exact OK.ret ⟨pc, us, h, hc⟩
    · have c' : x6 < n := by grind
      have j1 := hr x6 b0 c'
      have fs := fu_step b0 c' hn
      have x8 : 0 ≤ 8 * s 9 + x6 ∧ 8 * s 9 + x6 < 64 := by grind
      have e19' : ∀ pc us, upPU A pc us 19 = r := fun pc us => e19
      refine k_gR h (by decide) ?_
      refine k_gI h (by decide) ?_
      refine k_gR h (by decide) ?_
      refine k_aI h (by decide) (by decide) b0 (by show x6 < (32 : Int32); grind) ?_
      rw [e19']
      refine k_sI h (by decide) (by decide) x8.1 x8.2 (fun w1 h1 => ?_)
      rw [upPU_12] at h1
      refine k_gR h1 (by decide) ?_
      refine k_gR h1 (by decide) ?_
      refine k_aI h1 (by decide) (by decide) b0 (by show x6 < (32 : Int32); grind) ?_
      rw [e19', show vp_nar .boolean (1 : Int32) = 1 by decide]
      refine k_sI h1 (by decide) (by decide) j1.1 j1.2 (fun w2 h2 => ?_)
      rw [upPU_7] at h2
      exact ih _ _ _ w2 h2 (by grind) (by grind) fs (PU_step hc f0 f1 b0 (by grind))
end MP9
