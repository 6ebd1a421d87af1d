/-! the reference: apart -/
def upF (A : Nat → Int32 → Int32) (us kd sn pc : Int32 → Int32) : Nat → Int32 → Int32 := fun j => if j = 7 then us else if j = 10 then kd else if j = 11 then sn else if j = 12 then pc else A j
theorem upF_7 {A : Nat → Int32 → Int32} {us kd sn pc : Int32 → Int32} {i x : Int32} : upA (upF A us kd sn pc) 7 i x = upF A (fun y => if y = i then x else us y) kd sn pc := by
  funext j
  unfold upA upF
  by_cases h : j = 7
  · subst h; rfl
  · simp only [if_neg h]
theorem upF_10 {A : Nat → Int32 → Int32} {us kd sn pc : Int32 → Int32} {i x : Int32} : upA (upF A us kd sn pc) 10 i x = upF A us (fun y => if y = i then x else kd y) sn pc := by
  funext j
  unfold upA upF
  by_cases h : j = 10
  · subst h; rfl
  · simp only [if_neg h]
theorem upF_11 {A : Nat → Int32 → Int32} {us kd sn pc : Int32 → Int32} {i x : Int32} : upA (upF A us kd sn pc) 11 i x = upF A us kd (fun y => if y = i then x else sn y) pc := by
  funext j
  unfold upA upF
  by_cases h : j = 11
  · subst h; rfl
  · simp only [if_neg h]
theorem upF_12 {A : Nat → Int32 → Int32} {us kd sn pc : Int32 → Int32} {i x : Int32} : upA (upF A us kd sn pc) 12 i x = upF A us kd sn (fun y => if y = i then x else pc y) := by
  funext j
  unfold upA upF
  by_cases h : j = 12
  · subst h; rfl
  · simp only [if_neg h]
theorem upF_id {A : Nat → Int32 → Int32} : upF A (A 7) (A 10) (A 11) (A 12) = A := by
  funext j
  unfold upF
  by_cases h1 : j = 7
  · rw [if_pos h1, h1]
  · rw [if_neg h1]
    by_cases h2 : j = 10
    · rw [if_pos h2, h2]
    · rw [if_neg h2]
      by_cases h3 : j = 11
      · rw [if_pos h3, h3]
      · rw [if_neg h3]
        by_cases h4 : j = 12
        · rw [if_pos h4, h4]
        · rw [if_neg h4]
/-- the places lo .. hi - 1 hold what stood d behind -/
def shf (a0 a : Int32 → Int32) (lo hi d : Int32) : Prop := ∀ i, a i = if lo ≤ i ∧ i < hi then a0 (i + d) else a0 i
theorem shf_step {a0 a : Int32 → Int32} {lo hi d : Int32} (h : shf a0 a lo hi d) (h0 : 0 ≤ lo) (h1 : lo ≤ hi) (h2 : hi < 1000) (d0 : 0 ≤ d) (d1 : d < 1000) : shf a0 (fun y => if y = hi then a (hi + d) else a y) lo (hi + 1) d := by
  intro i
  show (if i = hi then a (hi + d) else a i) = _
  by_cases e : i = hi
  · rw [if_pos e, e, if_pos (by lia), h (hi + d), if_neg (by lia)]
  · rw [if_neg e, h i]
    by_cases c : lo ≤ i ∧ i < hi
    · rw [if_pos c, if_pos (by lia)]
    · rw [if_neg c, if_neg (by lia)]
theorem shf_0 {a0 : Int32 → Int32} {lo d : Int32} : shf a0 a0 lo lo d := fun i => by rw [if_neg (by lia)]
section MPb
variable {B : Nat} {w0 : Mp} {s : Nat → Int32} {A : Nat → Int32 → Int32} {w : Mp} {β : Type} {P : β → Prop}
def US (A : Nat → Int32 → Int32) (f m : Int32) (us : Int32 → Int32) : Prop := (∀ k, 0 ≤ k → k < m → us (pcs A f k) = 0) ∧ (∀ l, (∀ k, 0 ≤ k → k < m → pcs A f k ≠ l) → us l = A 7 l)
theorem US_step {f m : Int32} {us : Int32 → Int32} (h : US A f m us) (m0 : 0 ≤ m) (m1 : m < 8) : US A f (m + 1) (fun y => if y = pcs A f m then 0 else us y) := by
  refine ⟨fun k k0 k1 => ?_, fun l hl => ?_⟩
  · show (if pcs A f k = pcs A f m then 0 else us (pcs A f k)) = 0
    by_cases e : pcs A f k = pcs A f m
    · rw [if_pos e]
    · rw [if_neg e]
      exact h.1 k k0 (by
        by_cases e2 : k = m
        · rw [e2] at e; exact absurd rfl e
        · grind)
  · show (if l = pcs A f m then 0 else us l) = A 7 l
    rw [if_neg (fun z => hl m m0 (by lia) z.symm)]
    exact h.2 l (fun k k0 k1 => hl k k0 (by lia))
theorem m_apart_L12 {f : Int32} (hI : MI s A) (h0 : 0 ≤ f) (h1 : f < s 9) : ∀ (m : Nat) (x2 : Int32) (us : Int32 → Int32) (w : Mp), MW B w0 s (upF A us (A 10) (A 11) (A 12)) w → 0 ≤ x2 → x2 ≤ A 11 f → (A 11 f - x2).toInt < m → US A f x2 us → OK (f_Mod_apart_L12 (B + 11) f m x2 w) (fun q => ∃ us, MW B w0 s (upF A us (A 10) (A 11) (A 12)) q.2.2 ∧ US A f (A 11 f) us) := by
  have a5 := hI.2.2.2.2.1 f h0 h1
  have a6 := hI.2.1
  have a1 := hI.1
  intro m
  induction m with
  | zero => intro x2 us w _ b0 b1 hn; exact (fu_zero b0 b1 hn).elim
  | succ m ih =>
    intro x2 us w h b0 b1 hn hc
    rw [f_Mod_apart_L12]
    have f8 : f < 8 := by lia
    refine k_gR h (by decide) (k_aI h (by decide) (by decide) h0 f8 ?_)
    show OK (if A 11 f ≤ x2 then _ else _) _
    refine OK.ite (fun c => ?_) (fun c => ?_)
    · have e : x2 = A 11 f := by lia
      rw [e] at hc
      exact OK.ret ⟨us, h, hc⟩
    · obtain ⟨p1, p2, p3, -⟩ := m_pc hI h0 h1 b0 (by lia : x2 < A 11 f)
      refine k_gR h (by decide) (k_gR h (by decide) (k_aI h (by decide) (by decide) p1.1 p1.2 ?_))
      rw [show upF A us (A 10) (A 11) (A 12) 12 = A 12 from rfl, p2, show vp_nar .boolean (0 : Int32) = 0 by decide]
      refine k_sI h (by decide) (by decide) p3.1 p3.2 (fun w1 h1' => ?_)
      rw [upF_7] at h1'
      exact ih _ _ w1 h1' (by lia) (by lia) (fu_step b0 (by lia) hn) (US_step hc b0 (by lia))
theorem m_apart_L87 {g lo : Int32} {us kd sn : Int32 → Int32} (g0 : 1 ≤ g) (g1 : g < 8) (l0 : 0 ≤ lo) (l1 : lo ≤ 8 * g - 8) : ∀ (m : Nat) (x3 : Int32) (pc : Int32 → Int32) (w : Mp), MW B w0 s (upF A us kd sn pc) w → 0 ≤ x3 → x3 ≤ 8 → (8 - x3).toInt < m → shf (A 12) pc lo (8 * g - 8 + x3) 8 → OK (f_Mod_apart_L87 (B + 11) g m x3 w) (fun q => ∃ pc, MW B w0 s (upF A us kd sn pc) q.2.2 ∧ shf (A 12) pc lo (8 * g) 8) := by
  intro m
  induction m with
  | zero => intro x3 pc w _ b0 b1 hn; exact (fu_zero b0 b1 hn).elim
  | succ m ih =>
    intro x3 pc w h b0 b1 hn hc
    rw [f_Mod_apart_L87]
    refine OK.ite (fun c => ?_) (fun c => ?_)
    · have e : x3 = 8 := by lia
      rw [e, show 8 * g - 8 + 8 = 8 * g by lia] at hc
      exact OK.ret ⟨pc, h, hc⟩
    · have x1 : 0 ≤ 8 * g + x3 ∧ 8 * g + x3 < 64 := by lia
      have x2 : 0 ≤ 8 * g - 8 + x3 ∧ 8 * g - 8 + x3 < 64 := by lia
      refine k_gR h (by decide) (k_gR h (by decide) (k_aI h (by decide) (by decide) x1.1 x1.2 ?_))
      refine k_sI h (by decide) (by decide) x2.1 x2.2 (fun w1 h1 => ?_)
      rw [upF_12, show upF A us kd sn pc 12 = pc from rfl] at h1
      have st := shf_step hc l0 (by lia) (by lia) (by decide) (by decide)
      rw [show 8 * g - 8 + x3 + 8 = 8 * g + x3 by lia, show 8 * g - 8 + x3 + 1 = 8 * g - 8 + (x3 + 1) by lia] at st
      exact ih _ _ w1 h1 (by lia) (by lia) (fu_step b0 (by lia) hn) st
theorem ar49 {f x n : Int32} (h0 : 0 ≤ f) (h1 : f < n) (h9 : n ≤ 8) (b0 : f < x) (c : ¬ n ≤ x) : ((0 ≤ x ∧ x < 8) ∧ (0 ≤ x - 1 ∧ x - 1 < 8)) ∧ (1 ≤ x ∧ 8 * f ≤ 8 * x - 8 ∧ f ≤ x - 1 ∧ x - 1 < 1000) ∧ (f < x + 1 ∧ x + 1 ≤ n ∧ x < n ∧ 0 ≤ 8 * f) := by
  refine ⟨⟨by lia, by lia⟩, ⟨by lia, by lia, by lia, by lia⟩, by lia, by lia, by lia, by lia⟩
theorem ar50 {x : Int32} : x - 1 + 1 = x ∧ x + 1 - 1 = x ∧ 8 * (x + 1) - 8 = 8 * x ∧ 8 * x - 8 + 0 = 8 * x - 8 := by
  refine ⟨by grind, by grind, by grind, by grind⟩
theorem m_apart_L49 {f : Int32} {us : Int32 → Int32} (h0 : 0 ≤ f) (h1 : f < s 9) (h9 : s 9 ≤ 8) : ∀ (m : Nat) (x2 : Int32) (kd sn pc : Int32 → Int32) (w : Mp), MW B w0 s (upF A us kd sn pc) w → f < x2 → x2 ≤ s 9 → (s 9 - x2).toInt < m → shf (A 10) kd f (x2 - 1) 1 → shf (A 11) sn f (x2 - 1) 1 → shf (A 12) pc (8 * f) (8 * x2 - 8) 8 → OK (f_Mod_apart_L49 (B + 11) m x2 w) (fun q => ∃ kd sn pc, MW B w0 s (upF A us kd sn pc) q.2.2 ∧ shf (A 10) kd f (s 9 - 1) 1 ∧ shf (A 11) sn f (s 9 - 1) 1 ∧ shf (A 12) pc (8 * f) (8 * s 9 - 8) 8) := by
  intro m
  induction m with
  | zero => intro x2 kd sn pc w _ b0 b1 hn; exact (fu_zero (by clear hn; lia) b1 hn).elim
  | succ m ih =>
    intro x2 kd sn pc w h b0 b1 hn c1 c2 c3
    rw [f_Mod_apart_L49]
    refine k_gI h (by decide) ?_
    refine OK.ite (fun c => ?_) (fun c => ?_)
    · have e : x2 = s 9 := by clear c1 c2 c3 ih hn h; lia
      rw [e] at c1 c2 c3
      exact OK.ret ⟨kd, sn, pc, h, c1, c2, c3⟩
    · obtain ⟨⟨y1, y2⟩, ⟨y3, y4, y5, y6⟩, y7, y8, y9, y10⟩ := ar49 h0 h1 h9 b0 c
      obtain ⟨e1, e2, e3, e4⟩ := ar50 (x := x2)
      refine k_gR h (by decide) (k_gR h (by decide) (k_aI h (by decide) (by decide) y1.1 y1.2 ?_))
      refine k_sI h (by decide) (by decide) y2.1 y2.2 (fun w1 k1 => ?_)
      rw [upF_10, show upF A us kd sn pc 10 = kd from rfl] at k1
      refine k_gR k1 (by decide) (k_gR k1 (by decide) (k_aI k1 (by decide) (by decide) y1.1 y1.2 ?_))
      refine k_sI k1 (by decide) (by decide) y2.1 y2.2 (fun w2 k2 => ?_)
      rw [upF_11, show upF A us (fun y => if y = x2 - 1 then kd x2 else kd y) sn pc 11 = sn from rfl] at k2
      refine OK.call (m_apart_L87 (g := x2) (lo := 8 * f) y3 y1.2 y10 y4 _ _ _ w2 k2 (by decide) (by decide) (by decide) (by rw [e4]; exact c3)) (fun q ⟨pc', k3, c3'⟩ => ?_)
      have d1 := shf_step c1 h0 y5 y6 (by decide) (by decide)
      have d2 := shf_step c2 h0 y5 y6 (by decide) (by decide)
      rw [e1] at d1 d2
      exact ih _ _ _ _ _ k3 y7 y8 (fu_step y1.1 y9 hn) (by rw [e2]; exact d1) (by rw [e2]; exact d2) (by rw [e3]; exact c3')
theorem m_apart {f : Int32} (h : MW B w0 s A w) (hI : MI s A) : OK (f_Mod_apart w (B + 11) f) (fun q => (¬ (0 ≤ f ∧ f < s 9) ∧ MW B w0 (up s 0 1) A q.2) ∨ (0 ≤ f ∧ f < s 9 ∧ q.1 = s 9 - 1 ∧ ∃ us kd sn pc, MW B w0 (up (up (up s 0 0) 9 (s 9 - 1)) 15 0) (upF A us kd sn pc) q.2 ∧ US A f (A 11 f) us ∧ shf (A 10) kd f (s 9 - 1) 1 ∧ shf (A 11) sn f (s 9 - 1) 1 ∧ shf (A 12) pc (8 * f) (8 * s 9 - 8) 8)) := by
  unfold f_Mod_apart
  refine k_xo h ?_
  refine m_noFace h (fun w1 f0 f1 h1 => ?_) (fun w1 hc h1 => ?_)
  · have a6 := hI.2.1
    have a5 := hI.2.2.2.2.1 f f0 f1
    refine OK.ifP rfl ?_
    have u1 : f < f + 1 := by lia
    have u2 : f + 1 ≤ s 9 := by lia
    have hI' : MI (up s 0 0) A := MI.sc rfl hI
    rw [← upF_id (A := A)] at h1
    have fz : (A 11 f - 0).toInt < (100000 : Nat) := fu_any (by lia) (by lia)
    refine OK.call (m_apart_L12 hI' f0 f1 100000 0 _ w1 h1 (by decide) (by lia) fz ⟨fun k k0 k1 => by lia, fun l _ => rfl⟩) (fun q ⟨us, h2, hu⟩ => ?_)
    have fy : (s 9 - (f + 1)).toInt < (100000 : Nat) := by
      have z : (s 9 - f).toInt < (100000 : Nat) := by
        have z1 := fu_any (k := s 9 - f) (by lia) (by lia)
        rw [Int32.sub_zero] at z1
        exact z1
      have := fu_step f0 f1 (n := 100000) (by omega)
      exact this
    refine OK.call (m_apart_L49 (s := up s 0 0) f0 f1 a6.2 100000 (f + 1) _ _ _ _ h2 (by lia) (by show f + 1 ≤ s 9; grind) fy (by rw [show f + 1 - 1 = f by lia]; exact shf_0) (by rw [show f + 1 - 1 = f by lia]; exact shf_0) (by rw [show 8 * (f + 1) - 8 = 8 * f by lia]; exact shf_0)) (fun q ⟨kd, sn, pc, h3, c1, c2, c3⟩ => ?_)
    refine k_gI h3 (by decide) (k_pF h3 (by decide) (fun w4 h4 => k_pF h4 (by decide) (fun w5 h5 => ?_)))
    refine k_gI h5 (by decide) ?_
    exact OK.ret (Or.inr ⟨f0, f1, rfl, us, kd, sn, pc, h5, hu, c1, c2, c3⟩)
  · refine OK.ifN (fun z => absurd (show (1 : Int32) = 0 from z) (by decide)) ?_
    exact OK.ret (Or.inl ⟨hc, h1⟩)
end MPb
