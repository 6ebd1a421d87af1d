/-! the reference's readers with loops -/
section MP2
variable {B : Nat} {w0 : Mp} {s : Nat → Int32} {A : Nat → Int32 → Int32} {w : Mp} {β : Type} {P : β → Prop}
theorem m_sumAt_L {f a d : Int32} (h : MW B w0 s A w) (hI : MI s A) (h0 : 0 ≤ f) (h1 : f < s 9) (h2 : 0 ≤ a) (h3 : a < A 11 f - 1) (h4 : -3 ≤ d) (h5 : d ≤ 3) : ∀ (n : Nat) (x5 x6 : Int32), 0 ≤ x6 → x6 ≤ 12 → (12 - x6).toInt < n → OK (f_Mod_sumAt_L14 w (B + 11) f d a n x5 x6) (fun _ => True) := by
  have a5 := hI.2.2.2.2.1 f h0 h1
  have p1 := (m_pc hI h0 h1 h2 (k := a) (by grind)).2.2.2.1
  have p2 := (m_pc hI h0 h1 (k := a + 1) (by grind) (by grind)).2.2.2.1
  intro n
  induction n with
  | zero => intro x5 x6 b0 b1 hn; exact (fu_zero b0 b1 hn).elim
  | succ n ih =>
    intro x5 x6 b0 b1 hn
    rw [f_Mod_sumAt_L14]
    repeat' first
      | intro _
      | with_reducible refine OK.J1 ?_
      | with_reducible refine OK.J2 ?_
      | with_reducible refine OK.J3 ?_
      | with_reducible refine OK.ifN (by decide) ?_
      | with_reducible refine OK.ifP (by decide) ?_
      | with_reducible refine OK.ite (fun _ => ?_) (fun _ => ?_)
      | with_reducible refine k_gIa (by assumption) (by decide) ?_
      | with_reducible refine k_pF2 (by assumption) (by decide) ?_
      | with_reducible refine k_xo (by assumption) ?_
      | with_reducible refine k_gI (by assumption) (by decide) ?_
      | with_reducible refine k_gR (by assumption) (by decide) ?_
      | with_reducible refine k_pF (by assumption) (by decide) ?_
      | with_reducible refine k_aI (by assumption) (by decide) (by decide) (by grind) (by grind [mln]) ?_
      | with_reducible refine k_sI (by assumption) (by decide) (by decide) (by grind) (by grind [mln]) ?_
      | with_reducible refine m_high (by assumption) (by assumption) (by grind) (by grind) (by grind) (by grind) ?_
      | with_reducible refine m_wide (by assumption) (by assumption) (by grind) (by grind) (by grind) (by grind) ?_
      | with_reducible refine m_grey (by assumption) (by assumption) (by grind) (by grind) (by grind) (by grind) (by grind) (by grind) (by grind) (by grind) ?_
      | exact OK.ret trivial
      | exact ih _ _ (by grind) (by grind) (fu_step (by grind) (by grind) (by assumption))
theorem m_sumAt {F : Int32 → Option β} {f k d : Int32} (h : MW B w0 s A w) (hI : MI s A) (h0 : 0 ≤ f) (h1 : f < s 9) (h2 : 0 ≤ k) (h3 : k < (if A 10 f = 3 then 2 else A 11 f - 1)) (h4 : -3 ≤ d) (h5 : d ≤ 3) (hp : ∀ v, OK (F v) P) : OK ((f_Mod_sumAt w (B + 11) f k d).bind F) P := by
  have a5 := hI.2.2.2.2.1 f h0 h1
  have a6 := hI.2.1
  have a7 : 0 ≤ (if A 10 f = 3 then 2 * k else k) ∧ (if A 10 f = 3 then 2 * k else k) < A 11 f - 1 := by
    by_cases c : A 10 f = 3
    · rw [if_pos c] at h3 ⊢
      have := a5.2.2.2.2 c
      constructor <;> grind
    · rw [if_neg c] at h3 ⊢
      exact ⟨h2, h3⟩
  refine OK.call (P := fun _ => True) ?_ (fun v _ => hp v)
  unfold f_Mod_sumAt
  repeat' first
    | intro _
    | with_reducible refine OK.J1 ?_
    | with_reducible refine OK.J2 ?_
    | with_reducible refine OK.J3 ?_
    | with_reducible refine OK.ifN (by decide) ?_
    | with_reducible refine OK.ifP (by decide) ?_
    | with_reducible refine OK.ite (fun _ => ?_) (fun _ => ?_)
    | with_reducible refine k_gIa (by assumption) (by decide) ?_
    | with_reducible refine k_pF2 (by assumption) (by decide) ?_
    | with_reducible refine k_xo (by assumption) ?_
    | with_reducible refine k_gI (by assumption) (by decide) ?_
    | with_reducible refine k_gR (by assumption) (by decide) ?_
    | with_reducible refine k_pF (by assumption) (by decide) ?_
    | with_reducible refine k_aI (by assumption) (by decide) (by decide) (by grind) (by grind [mln]) ?_
    | with_reducible refine k_sI (by assumption) (by decide) (by decide) (by grind) (by grind [mln]) ?_
    | with_reducible refine m_leftOf (by assumption) (by grind) (by grind) ?_
    | with_reducible refine OK.call (m_sumAt_L h hI h0 h1 a7.1 a7.2 h4 h5 _ _ _ (by decide) (by decide) (by decide)) ?_
    | exact OK.ret trivial
theorem m_shiftOf_L23 {f k x5 : Int32} (h : MW B w0 s A w) (hI : MI s A) (h0 : 0 ≤ f) (h1 : f < s 9) (h2 : 0 ≤ k) (h3 : k < (if A 10 f = 3 then 2 else A 11 f - 1)) (h4 : 1 ≤ x5) (h5 : x5 ≤ 3) : ∀ (n : Nat) (x3 x4 x6 : Int32), 0 ≤ x6 → x6 ≤ 2 → (2 - x6).toInt < n → OK (f_Mod_shiftOf_L23 w (B + 11) f k x5 n x3 x4 x6) (fun _ => True) := by
  intro n
  induction n with
  | zero => intro x3 x4 x6 b0 b1 hn; exact (fu_zero b0 b1 hn).elim
  | succ n ih =>
    intro x3 x4 x6 b0 b1 hn
    rw [f_Mod_shiftOf_L23]
    repeat' first
      | intro _
      | with_reducible refine OK.J1 ?_
      | with_reducible refine OK.J2 ?_
      | with_reducible refine OK.J3 ?_
      | with_reducible refine OK.ifN (by decide) ?_
      | with_reducible refine OK.ifP (by decide) ?_
      | with_reducible refine OK.ite (fun _ => ?_) (fun _ => ?_)
      | with_reducible refine k_gIa (by assumption) (by decide) ?_
      | with_reducible refine k_pF2 (by assumption) (by decide) ?_
      | with_reducible refine k_xo (by assumption) ?_
      | with_reducible refine k_gI (by assumption) (by decide) ?_
      | with_reducible refine k_gR (by assumption) (by decide) ?_
      | with_reducible refine k_pF (by assumption) (by decide) ?_
      | with_reducible refine k_aI (by assumption) (by decide) (by decide) (by grind) (by grind [mln]) ?_
      | with_reducible refine k_sI (by assumption) (by decide) (by decide) (by grind) (by grind [mln]) ?_
      | with_reducible refine m_sumAt h hI h0 h1 h2 h3 (by grind) (by grind) ?_
      | exact OK.ret trivial
      | exact ih _ _ _ (by grind) (by grind) (fu_step (by grind) (by grind) (by assumption))
theorem m_shiftOf_L14 {f k : Int32} (h : MW B w0 s A w) (hI : MI s A) (h0 : 0 ≤ f) (h1 : f < s 9) (h2 : 0 ≤ k) (h3 : k < (if A 10 f = 3 then 2 else A 11 f - 1)) : ∀ (n : Nat) (x3 x4 x5 : Int32), 1 ≤ x5 → x5 ≤ 4 → (4 - x5).toInt < n → OK (f_Mod_shiftOf_L14 w (B + 11) f k n x3 x4 x5) (fun _ => True) := by
  intro n
  induction n with
  | zero => intro x3 x4 x5 b0 b1 hn; exact (fu_zero (by grind) b1 hn).elim
  | succ n ih =>
    intro x3 x4 x5 b0 b1 hn
    rw [f_Mod_shiftOf_L14]
    repeat' first
      | intro _
      | with_reducible refine OK.J1 ?_
      | with_reducible refine OK.J2 ?_
      | with_reducible refine OK.J3 ?_
      | with_reducible refine OK.ifN (by decide) ?_
      | with_reducible refine OK.ifP (by decide) ?_
      | with_reducible refine OK.ite (fun _ => ?_) (fun _ => ?_)
      | with_reducible refine k_gIa (by assumption) (by decide) ?_
      | with_reducible refine k_pF2 (by assumption) (by decide) ?_
      | with_reducible refine k_xo (by assumption) ?_
      | with_reducible refine k_gI (by assumption) (by decide) ?_
      | with_reducible refine k_gR (by assumption) (by decide) ?_
      | with_reducible refine k_pF (by assumption) (by decide) ?_
      | with_reducible refine k_aI (by assumption) (by decide) (by decide) (by grind) (by grind [mln]) ?_
      | with_reducible refine k_sI (by assumption) (by decide) (by decide) (by grind) (by grind [mln]) ?_
      | with_reducible refine OK.call (m_shiftOf_L23 h hI h0 h1 h2 h3 (by grind) (by grind) _ _ _ _ (by decide) (by decide) (by decide)) ?_
      | exact OK.ret trivial
      | exact ih _ _ _ (by grind) (by grind) (fu_step (by grind) (by grind) (by assumption))
theorem m_shiftOf {F : Int32 → Option β} {f k : Int32} (h : MW B w0 s A w) (hI : MI s A) (h0 : 0 ≤ f) (h1 : f < s 9) (h2 : 0 ≤ k) (h3 : k < (if A 10 f = 3 then 2 else A 11 f - 1)) (hp : ∀ v, OK (F v) P) : OK ((f_Mod_shiftOf w (B + 11) f k).bind F) P := by
  refine OK.call (P := fun _ => True) ?_ (fun v _ => hp v)
  unfold f_Mod_shiftOf
  repeat' first
    | intro _
    | with_reducible refine OK.J1 ?_
    | with_reducible refine OK.J2 ?_
    | with_reducible refine OK.J3 ?_
    | with_reducible refine OK.ifN (by decide) ?_
    | with_reducible refine OK.ifP (by decide) ?_
    | with_reducible refine OK.ite (fun _ => ?_) (fun _ => ?_)
    | with_reducible refine k_gIa (by assumption) (by decide) ?_
    | with_reducible refine k_pF2 (by assumption) (by decide) ?_
    | with_reducible refine k_xo (by assumption) ?_
    | with_reducible refine k_gI (by assumption) (by decide) ?_
    | with_reducible refine k_gR (by assumption) (by decide) ?_
    | with_reducible refine k_pF (by assumption) (by decide) ?_
    | with_reducible refine k_aI (by assumption) (by decide) (by decide) (by grind) (by grind [mln]) ?_
    | with_reducible refine k_sI (by assumption) (by decide) (by decide) (by grind) (by grind [mln]) ?_
    | with_reducible refine m_sumAt h hI h0 h1 h2 h3 (by grind) (by grind) ?_
    | with_reducible refine OK.call (m_shiftOf_L14 h hI h0 h1 h2 h3 _ _ _ _ (by decide) (by decide) (by decide)) ?_
    | exact OK.ret trivial
theorem m_across_L {f k : Int32} (h : MW B w0 s A w) (hI : MI s A) (h0 : 0 ≤ f) (h1 : f < s 9) (h2 : 0 ≤ k) (h3 : k ≤ A 11 f) : ∀ (n : Nat) (x3 x4 : Int32), 0 ≤ x4 → x4 ≤ k → (k - x4).toInt < n → OK (f_Mod_across_L33 w (B + 11) f k n x3 x4) (fun _ => True) := by
  have a5 := hI.2.2.2.2.1 f h0 h1
  intro n
  induction n with
  | zero => intro x5 x6 b0 b1 hn; exact (fu_zero b0 b1 hn).elim
  | succ n ih =>
    intro x5 x6 b0 b1 hn
    rw [f_Mod_across_L33]
    repeat' first
      | intro _
      | with_reducible refine OK.J1 ?_
      | with_reducible refine OK.J2 ?_
      | with_reducible refine OK.J3 ?_
      | with_reducible refine OK.ifN (by decide) ?_
      | with_reducible refine OK.ifP (by decide) ?_
      | with_reducible refine OK.ite (fun _ => ?_) (fun _ => ?_)
      | with_reducible refine k_gIa (by assumption) (by decide) ?_
      | with_reducible refine k_pF2 (by assumption) (by decide) ?_
      | with_reducible refine k_xo (by assumption) ?_
      | with_reducible refine k_gI (by assumption) (by decide) ?_
      | with_reducible refine k_gR (by assumption) (by decide) ?_
      | with_reducible refine k_pF (by assumption) (by decide) ?_
      | with_reducible refine k_aI (by assumption) (by decide) (by decide) (by grind) (by grind [mln]) ?_
      | with_reducible refine k_sI (by assumption) (by decide) (by decide) (by grind) (by grind [mln]) ?_
      | with_reducible refine m_high (by assumption) (by assumption) (by grind) (by grind) (by grind) (by grind) ?_
      | with_reducible refine m_wide (by assumption) (by assumption) (by grind) (by grind) (by grind) (by grind) ?_
      | exact OK.ret trivial
      | exact ih _ _ (by grind) (by grind) (fu_step (by grind) (by grind) (by assumption))
theorem fu_any {k : Int32} (h : k < 1000) (h0 : 0 ≤ k) : (k - 0).toInt < (100000 : Nat) := by
  rw [Int32.lt_iff_toInt_lt, show (1000 : Int32).toInt = 1000 by decide] at h
  rw [Int32.le_iff_toInt_le, show (0 : Int32).toInt = 0 by decide] at h0
  rw [Int32.toInt_sub, show (0 : Int32).toInt = 0 by decide, Int.bmod_eq_of_le (by omega) (by omega)]
  omega
theorem m_across {F : Int32 → Option β} {f k : Int32} (h : MW B w0 s A w) (hI : MI s A) (h0 : 0 ≤ f) (h1 : f < s 9) (h2 : 0 ≤ k) (h3 : k < A 11 f) (hp : ∀ v, OK (F v) P) : OK ((f_Mod_across w (B + 11) f k).bind F) P := by
  have a5 := hI.2.2.2.2.1 f h0 h1
  have a6 := hI.2.1
  refine OK.call (P := fun _ => True) ?_ (fun v _ => hp v)
  unfold f_Mod_across
  repeat' first
    | intro _
    | with_reducible refine OK.J1 ?_
    | with_reducible refine OK.J2 ?_
    | with_reducible refine OK.J3 ?_
    | with_reducible refine OK.ifN (by decide) ?_
    | with_reducible refine OK.ifP (by decide) ?_
    | with_reducible refine OK.ite (fun _ => ?_) (fun _ => ?_)
    | with_reducible refine k_gIa (by assumption) (by decide) ?_
    | with_reducible refine k_pF2 (by assumption) (by decide) ?_
    | with_reducible refine k_xo (by assumption) ?_
    | with_reducible refine k_gI (by assumption) (by decide) ?_
    | with_reducible refine k_gR (by assumption) (by decide) ?_
    | with_reducible refine k_pF (by assumption) (by decide) ?_
    | with_reducible refine k_aI (by assumption) (by decide) (by decide) (by grind) (by grind [mln]) ?_
    | with_reducible refine k_sI (by assumption) (by decide) (by decide) (by grind) (by grind [mln]) ?_
    | with_reducible refine m_high (by assumption) (by assumption) (by grind) (by grind) (by grind) (by grind) ?_
    | with_reducible refine m_wide (by assumption) (by assumption) (by grind) (by grind) (by grind) (by grind) ?_
    | with_reducible refine OK.call (m_across_L h hI h0 h1 h2 (by grind) _ _ _ (by decide) (by grind) (fu_any (by grind) (by grind))) ?_
    | exact OK.ret trivial
theorem m_topOf_L {f k : Int32} (h : MW B w0 s A w) (hI : MI s A) (h0 : 0 ≤ f) (h1 : f < s 9) (h2 : 0 ≤ k) (h3 : k < A 11 f) (h4 : A 10 f ≠ 3) : ∀ (n : Nat) (x3 x4 : Int32), 0 ≤ x4 → x4 ≤ k → (k - x4).toInt < n → OK (f_Mod_topOf_L31 w (B + 11) f k n x3 x4) (fun _ => True) := by
  have a5 := hI.2.2.2.2.1 f h0 h1
  intro n
  induction n with
  | zero => intro x5 x6 b0 b1 hn; exact (fu_zero b0 b1 hn).elim
  | succ n ih =>
    intro x5 x6 b0 b1 hn
    rw [f_Mod_topOf_L31]
    repeat' first
      | intro _
      | with_reducible refine OK.J1 ?_
      | with_reducible refine OK.J2 ?_
      | with_reducible refine OK.J3 ?_
      | with_reducible refine OK.ifN (by decide) ?_
      | with_reducible refine OK.ifP (by decide) ?_
      | with_reducible refine OK.ite (fun _ => ?_) (fun _ => ?_)
      | with_reducible refine k_gIa (by assumption) (by decide) ?_
      | with_reducible refine k_pF2 (by assumption) (by decide) ?_
      | with_reducible refine k_xo (by assumption) ?_
      | with_reducible refine k_gI (by assumption) (by decide) ?_
      | with_reducible refine k_gR (by assumption) (by decide) ?_
      | with_reducible refine k_pF (by assumption) (by decide) ?_
      | with_reducible refine k_aI (by assumption) (by decide) (by decide) (by grind) (by grind [mln]) ?_
      | with_reducible refine k_sI (by assumption) (by decide) (by decide) (by grind) (by grind [mln]) ?_
      | with_reducible refine m_shiftOf h hI h0 h1 (by grind) (by grind) ?_
      | exact OK.ret trivial
      | exact ih _ _ (by grind) (by grind) (fu_step (by grind) (by grind) (by assumption))
theorem m_topOf {F : Int32 → Option β} {f k : Int32} (h : MW B w0 s A w) (hI : MI s A) (h0 : 0 ≤ f) (h1 : f < s 9) (h2 : 0 ≤ k) (h3 : k < A 11 f) (hp : ∀ v, OK (F v) P) : OK ((f_Mod_topOf w (B + 11) f k).bind F) P := by
  have a5 := hI.2.2.2.2.1 f h0 h1
  have a6 := hI.2.1
  refine OK.call (P := fun _ => True) ?_ (fun v _ => hp v)
  unfold f_Mod_topOf
  repeat' first
    | intro _
    | with_reducible refine OK.J1 ?_
    | with_reducible refine OK.J2 ?_
    | with_reducible refine OK.J3 ?_
    | with_reducible refine OK.ifN (by decide) ?_
    | with_reducible refine OK.ifP (by decide) ?_
    | with_reducible refine OK.ite (fun _ => ?_) (fun _ => ?_)
    | with_reducible refine k_gIa (by assumption) (by decide) ?_
    | with_reducible refine k_pF2 (by assumption) (by decide) ?_
    | with_reducible refine k_xo (by assumption) ?_
    | with_reducible refine k_gI (by assumption) (by decide) ?_
    | with_reducible refine k_gR (by assumption) (by decide) ?_
    | with_reducible refine k_pF (by assumption) (by decide) ?_
    | with_reducible refine k_aI (by assumption) (by decide) (by decide) (by grind) (by grind [mln]) ?_
    | with_reducible refine k_sI (by assumption) (by decide) (by decide) (by grind) (by grind [mln]) ?_
    | with_reducible refine m_high (by assumption) (by assumption) (by grind) (by grind) (by grind) (by grind) ?_
    | with_reducible refine m_wide (by assumption) (by assumption) (by grind) (by grind) (by grind) (by grind) ?_
    | with_reducible refine OK.call (m_topOf_L h hI h0 h1 h2 h3 (by grind) _ _ _ (by decide) (by grind) (fu_any (by grind) (by grind))) ?_
    | exact OK.ret trivial
theorem m_leastTop_L {f : Int32} (h : MW B w0 s A w) (hI : MI s A) (h0 : 0 ≤ f) (h1 : f < s 9) : ∀ (n : Nat) (x2 x3 : Int32), 0 ≤ x3 → x3 ≤ 8 → (8 - x3).toInt < n → OK (f_Mod_leastTop_L4 w (B + 11) f n x2 x3) (fun _ => True) := by
  have a5 := hI.2.2.2.2.1 f h0 h1
  have a6 := hI.2.1
  intro n
  induction n with
  | zero => intro x5 x6 b0 b1 hn; exact (fu_zero b0 b1 hn).elim
  | succ n ih =>
    intro x5 x6 b0 b1 hn
    rw [f_Mod_leastTop_L4]
    repeat' first
      | intro _
      | with_reducible refine OK.J1 ?_
      | with_reducible refine OK.J2 ?_
      | with_reducible refine OK.J3 ?_
      | with_reducible refine OK.ifN (by decide) ?_
      | with_reducible refine OK.ifP (by decide) ?_
      | with_reducible refine OK.ite (fun _ => ?_) (fun _ => ?_)
      | with_reducible refine k_gIa (by assumption) (by decide) ?_
      | with_reducible refine k_pF2 (by assumption) (by decide) ?_
      | with_reducible refine k_xo (by assumption) ?_
      | with_reducible refine k_gI (by assumption) (by decide) ?_
      | with_reducible refine k_gR (by assumption) (by decide) ?_
      | with_reducible refine k_pF (by assumption) (by decide) ?_
      | with_reducible refine k_aI (by assumption) (by decide) (by decide) (by grind) (by grind [mln]) ?_
      | with_reducible refine k_sI (by assumption) (by decide) (by decide) (by grind) (by grind [mln]) ?_
      | with_reducible refine m_topOf h hI h0 h1 (by grind) (by grind) ?_
      | exact OK.ret trivial
      | exact ih _ _ (by grind) (by grind) (fu_step (by grind) (by grind) (by assumption))
theorem m_leastTop {F : Int32 → Option β} {f : Int32} (h : MW B w0 s A w) (hI : MI s A) (h0 : 0 ≤ f) (h1 : f < s 9) (hp : ∀ v, OK (F v) P) : OK ((f_Mod_leastTop w (B + 11) f).bind F) P := by
  refine OK.call (P := fun _ => True) ?_ (fun v _ => hp v)
  unfold f_Mod_leastTop
  repeat' first
    | intro _
    | with_reducible refine OK.J1 ?_
    | with_reducible refine OK.J2 ?_
    | with_reducible refine OK.J3 ?_
    | with_reducible refine OK.ifN (by decide) ?_
    | with_reducible refine OK.ifP (by decide) ?_
    | with_reducible refine OK.ite (fun _ => ?_) (fun _ => ?_)
    | with_reducible refine k_gIa (by assumption) (by decide) ?_
    | with_reducible refine k_pF2 (by assumption) (by decide) ?_
    | with_reducible refine k_xo (by assumption) ?_
    | with_reducible refine k_gI (by assumption) (by decide) ?_
    | with_reducible refine k_gR (by assumption) (by decide) ?_
    | with_reducible refine k_pF (by assumption) (by decide) ?_
    | with_reducible refine k_aI (by assumption) (by decide) (by decide) (by grind) (by grind [mln]) ?_
    | with_reducible refine k_sI (by assumption) (by decide) (by decide) (by grind) (by grind [mln]) ?_
    | with_reducible refine OK.call (m_leastTop_L h hI h0 h1 _ _ _ (by decide) (by decide) (by decide)) ?_
    | exact OK.ret trivial
theorem m_wideOf_L {f : Int32} (h : MW B w0 s A w) (hI : MI s A) (h0 : 0 ≤ f) (h1 : f < s 9) : ∀ (n : Nat) (x2 x3 : Int32), 0 ≤ x3 → x3 ≤ 8 → (8 - x3).toInt < n → OK (f_Mod_wideOf_L4 w (B + 11) f n x2 x3) (fun _ => True) := by
  have a5 := hI.2.2.2.2.1 f h0 h1
  have a6 := hI.2.1
  intro n
  induction n with
  | zero => intro x5 x6 b0 b1 hn; exact (fu_zero b0 b1 hn).elim
  | succ n ih =>
    intro x5 x6 b0 b1 hn
    rw [f_Mod_wideOf_L4]
    repeat' first
      | intro _
      | with_reducible refine OK.J1 ?_
      | with_reducible refine OK.J2 ?_
      | with_reducible refine OK.J3 ?_
      | with_reducible refine OK.ifN (by decide) ?_
      | with_reducible refine OK.ifP (by decide) ?_
      | with_reducible refine OK.ite (fun _ => ?_) (fun _ => ?_)
      | with_reducible refine k_gIa (by assumption) (by decide) ?_
      | with_reducible refine k_pF2 (by assumption) (by decide) ?_
      | with_reducible refine k_xo (by assumption) ?_
      | with_reducible refine k_gI (by assumption) (by decide) ?_
      | with_reducible refine k_gR (by assumption) (by decide) ?_
      | with_reducible refine k_pF (by assumption) (by decide) ?_
      | with_reducible refine k_aI (by assumption) (by decide) (by decide) (by grind) (by grind [mln]) ?_
      | with_reducible refine k_sI (by assumption) (by decide) (by decide) (by grind) (by grind [mln]) ?_
      | with_reducible refine m_across h hI h0 h1 (by grind) (by grind) ?_
      | with_reducible refine m_high (by assumption) (by assumption) (by grind) (by grind) (by grind) (by grind) ?_
      | with_reducible refine m_wide (by assumption) (by assumption) (by grind) (by grind) (by grind) (by grind) ?_
      | exact OK.ret trivial
      | exact ih _ _ (by grind) (by grind) (fu_step (by grind) (by grind) (by assumption))
theorem m_wideOf {F : Int32 → Option β} {f : Int32} (h : MW B w0 s A w) (hI : MI s A) (h0 : 0 ≤ f) (h1 : f < s 9) (hp : ∀ v, OK (F v) P) : OK ((f_Mod_wideOf w (B + 11) f).bind F) P := by
  refine OK.call (P := fun _ => True) ?_ (fun v _ => hp v)
  unfold f_Mod_wideOf
  repeat' first
    | intro _
    | with_reducible refine OK.J1 ?_
    | with_reducible refine OK.J2 ?_
    | with_reducible refine OK.J3 ?_
    | with_reducible refine OK.ifN (by decide) ?_
    | with_reducible refine OK.ifP (by decide) ?_
    | with_reducible refine OK.ite (fun _ => ?_) (fun _ => ?_)
    | with_reducible refine k_gIa (by assumption) (by decide) ?_
    | with_reducible refine k_pF2 (by assumption) (by decide) ?_
    | with_reducible refine k_xo (by assumption) ?_
    | with_reducible refine k_gI (by assumption) (by decide) ?_
    | with_reducible refine k_gR (by assumption) (by decide) ?_
    | with_reducible refine k_pF (by assumption) (by decide) ?_
    | with_reducible refine k_aI (by assumption) (by decide) (by decide) (by grind) (by grind [mln]) ?_
    | with_reducible refine k_sI (by assumption) (by decide) (by decide) (by grind) (by grind [mln]) ?_
    | with_reducible refine OK.call (m_wideOf_L h hI h0 h1 _ _ _ (by decide) (by decide) (by decide)) ?_
    | exact OK.ret trivial
end MP2
