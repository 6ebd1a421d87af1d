/-! the sums at the seams: one function for both sides -/
def gyA (A : Nat → Int32 → Int32) (f k x y : Int32) : Int32 := A 8 (144 * pcs A f k + 12 * (if mtur A f k = 0 then y else A 5 (pcs A f k) - 1 - y) + (if mmir A f k = 0 then x else A 4 (pcs A f k) - 1 - x))
def tmA (A : Nat → Int32 → Int32) (f a d y : Int32) : Int32 := if y - d < 0 then 255 else if y - d < A 5 (pcs A f (a + 1)) then (if 0 ≤ gyA A f a (A 4 (pcs A f a) - 1) y - gyA A f (a + 1) 0 (y - d) then gyA A f a (A 4 (pcs A f a) - 1) y - gyA A f (a + 1) 0 (y - d) else -(gyA A f a (A 4 (pcs A f a) - 1) y - gyA A f (a + 1) 0 (y - d))) else 255
def sm (t : Int32 → Int32) : Nat → Int32
  | 0 => 0
  | n + 1 => sm t n + t (Int32.ofNat n)
def lfA (A : Nat → Int32 → Int32) (f k : Int32) : Int32 := if A 10 f = 3 then 2 * k else k
def sumA (A : Nat → Int32 → Int32) (f k d : Int32) : Int32 := sm (tmA A f (lfA A f k) d) (A 5 (pcs A f (lfA A f k))).toNatClampNeg
section VL1
variable {B : Nat} {w0 : Mp} {s : Nat → Int32} {A : Nat → Int32 → Int32} {w : Mp} {T K : Nat → Nat} {V : Nat → Nat → Int32} {R : Nat → Nat → Option Nat} {I : Nat → Int32 → Int32} {O : Nat → Int32 → Option Nat} {N : Nat → Int32} {β : Type} {P : β → Prop}
theorem OK.J1p {α : Type} {ff : α → Option β} {F : (α → Option β) → Option β} {Q : α → Prop} (hf : ∀ x, Q x → OK (ff x) P) (hF : ∀ gg : α → Option β, (∀ x, Q x → OK (gg x) P) → OK (F gg) P) : OK (xJ1 ff F) P := hF ff hf
theorem OK.J2p {α1 α2 : Type} {ff : α1 → α2 → Option β} {F : (α1 → α2 → Option β) → Option β} {Q : α1 → α2 → Prop} (hf : ∀ x y, Q x y → OK (ff x y) P) (hF : ∀ gg : α1 → α2 → Option β, (∀ x y, Q x y → OK (gg x y) P) → OK (F gg) P) : OK (xJ2 ff F) P := hF ff hf
theorem sm_step {t : Int32 → Int32} {x : Int32} (h0 : 0 ≤ x) (h1 : x < 1000) : sm t (x + 1).toNatClampNeg = sm t x.toNatClampNeg + t x := by
  have e : (x + 1).toNatClampNeg = x.toNatClampNeg + 1 := by
    have a := cl_int h0
    have p1 : 0 ≤ x + 1 := by lia
    have b := cl_int p1
    rw [Int32.lt_iff_toInt_lt, show (1000 : Int32).toInt = 1000 by decide] at h1
    rw [Int32.le_iff_toInt_le, show (0 : Int32).toInt = 0 by decide] at h0
    rw [Int32.toInt_add, show (1 : Int32).toInt = 1 by decide, Int.bmod_eq_of_le (by omega) (by omega)] at b
    omega
  rw [e]
  show sm t x.toNatClampNeg + t (Int32.ofNat x.toNatClampNeg) = _
  rw [ofn_cl h0]
theorem v_sumAt_L {f a d : Int32} (h : MW B w0 s A w) (hI : MI s A) (h0 : 0 ≤ f) (h1 : f < s 9) (h2 : 0 ≤ a) (h3 : a < A 11 f - 1) (h4 : -3 ≤ d) (h5 : d ≤ 3) : ∀ (n : Nat) (x5 x6 : Int32), 0 ≤ x6 → x6 ≤ A 5 (pcs A f a) → (12 - x6).toInt < n → x5 = sm (tmA A f a d) x6.toNatClampNeg → OK (f_Mod_sumAt_L14 w (B + 11) f d a n x5 x6) (fun q => q.2.1 = sm (tmA A f a d) (A 5 (pcs A f a)).toNatClampNeg) := by
  have a5 := hI.2.2.2.2.1 f h0 h1
  have ka : a < A 11 f := by clear h4 h5; lia
  have kb : 0 ≤ a + 1 ∧ a + 1 < A 11 f := by clear h4 h5; constructor <;> lia
  have p1 := m_pc hI h0 h1 h2 (k := a) ka
  have p2 := m_pc hI h0 h1 (k := a + 1) kb.1 kb.2
  have p1w := p1.2.2.2.1
  have p1h := p1.2.2.2.2.1
  have p2w := p2.2.2.2.1
  clear p1 p2 a5
  intro n
  induction n with
  | zero => intro x5 x6 b0 b1 hn; exact (fu_zero b0 (show x6 ≤ 12 by clear hn; lia) hn).elim
  | succ n ih =>
    intro x5 x6 b0 b1 hn e
    rw [f_Mod_sumAt_L14]
    refine k_xo h (m_high h hI h0 h1 h2 ka (fun v ev v1 v2 => OK.ite (fun c => OK.ret ?_) (fun c => ?_)))
    · have : x6 = A 5 (pcs A f a) := by clear ih hn e; lia
      show x5 = _
      rw [e, this]
    · have x2 : x6 < 12 := by clear hn ih e; lia
      have fs := fu_step b0 x2 hn
      have x3 : 0 ≤ x6 + 1 ∧ x6 + 1 ≤ A 5 (pcs A f a) := by clear hn ih fs e; constructor <;> lia
      have st := sm_step (t := tmA A f a d) b0 (show x6 < 1000 by clear hn ih fs e; lia)
      have go : ∀ z, z = tmA A f a d x6 → OK (f_Mod_sumAt_L14 w (B + 11) f d a n (x5 + z) (x6 + 1)) (fun q => q.2.1 = sm (tmA A f a d) (A 5 (pcs A f a)).toNatClampNeg) := fun z ez => ih _ _ x3.1 x3.2 fs (by rw [st, ez, e])
      refine OK.ite (fun c1 => go _ ?_) (fun c1 => k_xo h (m_high h hI h0 h1 kb.1 kb.2 (fun v' ev' v1' v2' => OK.ite (fun c2 => ?_) (fun c2 => go _ ?_))))
      · unfold tmA; rw [if_pos c1]
      · refine k_xo h (m_wide h hI h0 h1 h2 ka (fun u eu u1 u2 => ?_))
        rw [eu]
        refine k_xo h (m_grey h hI h0 h1 h2 ka (by clear hn ih fs e go; lia) (by clear hn ih fs e go; lia) b0 (by clear hn ih fs e go; lia) ?_)
        refine k_xo h (m_grey h hI h0 h1 kb.1 kb.2 (by decide) (by clear hn ih fs e go; lia) (by clear hn ih fs e go; lia) (by rw [← ev']; exact c2) ?_)
        refine OK.ite (fun c3 => go _ ?_) (fun c3 => go _ ?_)
        · have c3 : 0 ≤ gyA A f a (A 4 (pcs A f a) - 1) x6 - gyA A f (a + 1) 0 (x6 - d) := c3
          show gyA A f a (A 4 (pcs A f a) - 1) x6 - gyA A f (a + 1) 0 (x6 - d) = _
          unfold tmA; rw [if_neg c1, if_pos (by rw [← ev']; exact c2), if_pos c3]
        · have c3 : ¬ 0 ≤ gyA A f a (A 4 (pcs A f a) - 1) x6 - gyA A f (a + 1) 0 (x6 - d) := c3
          show -(gyA A f a (A 4 (pcs A f a) - 1) x6 - gyA A f (a + 1) 0 (x6 - d)) = _
          unfold tmA; rw [if_neg c1, if_pos (by rw [← ev']; exact c2), if_neg c3]
      · unfold tmA; rw [if_neg c1, if_neg (by rw [← ev']; exact c2)]
theorem lfA_b {f k : Int32} (hI : MI s A) (h0 : 0 ≤ f) (h1 : f < s 9) (h2 : 0 ≤ k) (h3 : k < (if A 10 f = 3 then 2 else A 11 f - 1)) : 0 ≤ lfA A f k ∧ lfA A f k < A 11 f - 1 := by
  have a5 := hI.2.2.2.2.1 f h0 h1
  unfold lfA
  by_cases c : A 10 f = 3
  · rw [if_pos c] at h3 ⊢
    have := a5.2.2.2.2 c
    constructor <;> lia
  · rw [if_neg c] at h3 ⊢
    exact ⟨h2, h3⟩
theorem v_sumAt {F : Int32 → Option β} {f k d : Int32} (h : MW B w0 s A w) (hI : MI s A) (h0 : 0 ≤ f) (h1 : f < s 9) (h2 : 0 ≤ k) (h3 : k < (if A 10 f = 3 then 2 else A 11 f - 1)) (h4 : -3 ≤ d) (h5 : d ≤ 3) (hp : OK (F (sumA A f k d)) P) : OK ((f_Mod_sumAt w (B + 11) f k d).bind F) P := by
  have a6 := hI.2.1
  have a7 := lfA_b hI h0 h1 h2 h3
  refine OK.call (P := fun v => v = sumA A f k d) ?_ (fun v e => by rw [e]; exact hp)
  unfold f_Mod_sumAt
  have p1 := m_pc hI h0 h1 a7.1 (k := lfA A f k) (by have := a7.2; clear a7 h3; have := hI.2.2.2.2.1 f h0 h1; lia)
  refine k_xo h (m_leftOf h h0 (by clear a7 h3; lia) (OK.call (v_sumAt_L h hI h0 h1 a7.1 a7.2 h4 h5 _ _ _ (by decide) (by have := p1.2.2.2.2.1; clear a7 h3 p1; lia) (by decide) rfl) (fun q hq => OK.ret hq)))
/-! the same of the class, by what both have in common -/
theorem tur_eq (A : Nat → Int32 → Int32) (f k : Int32) : ctur (A 10 f) k = mtur A f k := by
  unfold ctur mtur
  grind
theorem c_piece (hC : CI B T K V R O N) (hI : MI s A) (hS : SIM B V R I O N s A) {f k : Int32} (h0 : 0 ≤ f) (h1 : f < s 9) (h2 : 0 ≤ k) (h3 : k < A 11 f) : V (la (O (fpc B R O f)) k) 1 = mmir A f k ∧ V (la (O (fpc B R O f)) k) 2 = mtur A f k ∧ R (la (O (fpc B R O f)) k) 0 = some (la (O (B + 1)) (pcs A f k)) ∧ T (la (O (fpc B R O f)) k) = 2 ∧ T (la (O (B + 1)) (pcs A f k)) = 1 ∧ LE V R I (la (O (B + 1)) (pcs A f k)) A (pcs A f k) := by
  obtain ⟨⟨l1, l2⟩, ⟨f1, f2⟩, -⟩ := hS
  obtain ⟨ta, -, ra, tp, -, hk⟩ := hC.fc h0 (by rw [f1]; exact h1)
  obtain ⟨e1, e2, e3⟩ := f2 f h0 h1
  obtain ⟨p1, p2, p3⟩ := e3 k h2 h3
  obtain ⟨tq, -⟩ := hk k h2 (by rw [e2]; exact h3)
  have b := hI.2.2.2.2.2.1 f k h0 h1 h2 h3
  obtain ⟨tl, el, -⟩ := hC.lf b.1 (by rw [l1]; exact b.2)
  exact ⟨p1, by rw [← tur_eq]; exact p2, by rw [p3]; exact el, tq, tl, l2 _ b.1 b.2⟩
theorem c_grey (hC : CI B T K V R O N) (hI : MI s A) (hS : SIM B V R I O N s A) {f k x y v : Int32} (h0 : 0 ≤ f) (h1 : f < s 9) (h2 : 0 ≤ k) (h3 : k < A 11 f) (x0 : -1000 ≤ x) (y0 : -1000 ≤ y) (hv : shw V R I (la (O (fpc B R O f)) k) (la (O (B + 1)) (pcs A f k)) x y v) : v = if 0 ≤ x ∧ x < A 4 (pcs A f k) ∧ 0 ≤ y ∧ y < A 5 (pcs A f k) then gyA A f k x y else -1 := by
  obtain ⟨c1, c2, c3, c4, c5, ⟨⟨-, -, e3, e4, -, -⟩, e7⟩⟩ := c_piece hC hI hS h0 h1 h2 h3
  have p := m_pc hI h0 h1 h2 h3
  have pw := p.2.2.2.1
  have ph := p.2.2.2.2.1
  clear p
  unfold shw at hv
  obtain ⟨g, hg, hv⟩ := hv
  rw [c1, c2, e3, e4] at hv
  unfold hld at hv
  rw [e3, e4] at hv
  have cx : (0 ≤ (if mmir A f k = 0 then x else A 4 (pcs A f k) - 1 - x) ∧ (if mmir A f k = 0 then x else A 4 (pcs A f k) - 1 - x) < A 4 (pcs A f k)) ↔ (0 ≤ x ∧ x < A 4 (pcs A f k)) := by
    by_cases c : mmir A f k = 0
    · rw [if_pos c]
    · rw [if_neg c]
      clear hv ph e3 e4 c1 c2
      constructor
      · rintro ⟨q1, q2⟩; constructor <;> lia
      · rintro ⟨q1, q2⟩; constructor <;> lia
  have cy : (0 ≤ (if mtur A f k = 0 then y else A 5 (pcs A f k) - 1 - y) ∧ (if mtur A f k = 0 then y else A 5 (pcs A f k) - 1 - y) < A 5 (pcs A f k)) ↔ (0 ≤ y ∧ y < A 5 (pcs A f k)) := by
    by_cases c : mtur A f k = 0
    · rw [if_pos c]
    · rw [if_neg c]
      clear hv pw e3 e4 c1 c2 cx
      constructor
      · rintro ⟨q1, q2⟩; constructor <;> lia
      · rintro ⟨q1, q2⟩; constructor <;> lia
  rcases hv with ⟨⟨q1, q2, q3, q4⟩, e⟩ | ⟨nq, e⟩
  · have zx := cx.mp ⟨q1, q2⟩
    have zy := cy.mp ⟨q3, q4⟩
    rw [if_pos ⟨zx.1, zx.2, zy.1, zy.2⟩, e, e7 g _ _ hg q1 q2 q3 q4]
    rfl
  · rw [if_neg (fun z => nq ⟨(cx.mpr ⟨z.1, z.2.1⟩).1, (cx.mpr ⟨z.1, z.2.1⟩).2, (cy.mpr z.2.2).1, (cy.mpr z.2.2).2⟩)]
    exact e
theorem gy_b (hS : SIM B V R I O N s A) (f k x y : Int32) : 0 ≤ gyA A f k x y ∧ gyA A f k x y ≤ 255 := hS.2.2.2.2 _
theorem v_diff_L {f a d : Int32} (h : CW B w0 T V R I O N w) (hC : CI B T K V R O N) (hI : MI s A) (hS : SIM B V R I O N s A) (h0 : 0 ≤ f) (h1 : f < s 9) (h2 : 0 ≤ a) (h3 : a < A 11 f - 1) (h4 : -3 ≤ d) (h5 : d ≤ 3) : ∀ (n : Nat) (x6 x7 : Int32), 0 ≤ x7 → x7 ≤ A 5 (pcs A f a) → (12 - x7).toInt < n → x6 = sm (tmA A f a d) x7.toNatClampNeg → OK (f_Face_differenceAt_L40 w d (some (la (O (fpc B R O f)) a)) (some (la (O (fpc B R O f)) (a + 1))) n x6 x7) (fun q => q.2.1 = sm (tmA A f a d) (A 5 (pcs A f a)).toNatClampNeg) := by
  have a5 := hI.2.2.2.2.1 f h0 h1
  have ka : a < A 11 f := by clear h4 h5; lia
  have kb : 0 ≤ a + 1 ∧ a + 1 < A 11 f := by clear h4 h5; constructor <;> lia
  obtain ⟨-, -, r1, t1, u1, ⟨⟨-, -, e3, e4, -, -⟩, -⟩⟩ := c_piece hC hI hS h0 h1 h2 ka
  obtain ⟨-, -, r2, t2, u2, -⟩ := c_piece hC hI hS h0 h1 kb.1 kb.2
  have L1 := hC.2.1 _ u1
  have L2 := hC.2.1 _ u2
  have p1 := m_pc hI h0 h1 h2 (k := a) ka
  have p2 := m_pc hI h0 h1 (k := a + 1) kb.1 kb.2
  have p1w := p1.2.2.2.1
  have p1h := p1.2.2.2.2.1
  have p2w := p2.2.2.2.1
  clear p1 p2 a5
  intro n
  induction n with
  | zero => intro x6 x7 b0 b1 hn; exact (fu_zero b0 (show x7 ≤ 12 by clear hn; lia) hn).elim
  | succ n ih =>
    intro x6 x7 b0 b1 hn e
    rw [f_Face_differenceAt_L40]
    refine c_gRs h t1 r1 (by decide) (c_gI h u1 (by decide) ?_)
    rw [e4]
    refine OK.ite (fun c => OK.ret ?_) (fun c => ?_)
    · have : x7 = A 5 (pcs A f a) := by clear ih hn e; lia
      show x6 = _
      rw [e, this]
    have x2 : x7 < 12 := by clear hn ih e; lia
    have fs := fu_step b0 x2 hn
    have x3 : 0 ≤ x7 + 1 ∧ x7 + 1 ≤ A 5 (pcs A f a) := by clear hn ih fs e; constructor <;> lia
    have st := sm_step (t := tmA A f a d) b0 (show x7 < 1000 by clear hn ih fs e; lia)
    have go : ∀ z, z = tmA A f a d x7 → OK (f_Face_differenceAt_L40 w d (some (la (O (fpc B R O f)) a)) (some (la (O (fpc B R O f)) (a + 1))) n (x6 + z) (x7 + 1)) (fun q => q.2.1 = sm (tmA A f a d) (A 5 (pcs A f a)).toNatClampNeg) := fun z ez => ih _ _ x3.1 x3.2 fs (by rw [st, ez, e])
    refine c_gRs h t1 r1 (by decide) (c_gI h u1 (by decide) ?_)
    rw [e3]
    refine c_xo h t1 (by decide) (n_greyShown h t1 r1 u1 L1 (fun v hv => c_xo h t2 (by decide) (n_greyShown h t2 r2 u2 L2 (fun v' hv' => ?_))))
    have ev := c_grey hC hI hS h0 h1 h2 ka (by clear hn ih fs e go hv hv'; lia) (by clear hn ih fs e go hv hv'; lia) hv
    have ev' := c_grey hC hI hS h0 h1 kb.1 kb.2 (by decide) (by clear hn ih fs e go hv hv' ev; lia) hv'
    rw [if_pos (by clear hn ih fs e go hv hv' ev ev'; refine ⟨?_, ?_, b0, ?_⟩ <;> lia)] at ev
    have gb := gy_b hS f (a + 1) 0 (x7 - d)
    by_cases c1 : x7 - d < 0
    · rw [if_neg (by clear hn ih fs e go hv hv' ev ev' gb; intro z; have := z.2.2.1; lia)] at ev'
      refine OK.ifP ev' (go _ ?_)
      unfold tmA; rw [if_pos c1]
    · by_cases c2 : x7 - d < A 5 (pcs A f (a + 1))
      · rw [if_pos ⟨by decide, by clear hn ih fs e go hv hv' ev ev' gb; lia, by clear hn ih fs e go hv hv' ev ev' gb; lia, c2⟩] at ev'
        refine OK.ifN (by rw [ev']; clear hn ih fs e go hv hv' ev ev'; lia) (go _ ?_)
        unfold tmA; rw [if_neg c1, if_pos c2, ev, ev']
        by_cases c3 : 0 ≤ gyA A f a (A 4 (pcs A f a) - 1) x7 - gyA A f (a + 1) 0 (x7 - d)
        · rw [if_pos c3, if_pos c3]
        · rw [if_neg c3, if_neg c3]; generalize gyA A f a (A 4 (pcs A f a) - 1) x7 - gyA A f (a + 1) 0 (x7 - d) = zz; simp
      · rw [if_neg (fun z => c2 z.2.2.2)] at ev'
        refine OK.ifP ev' (go _ ?_)
        unfold tmA; rw [if_neg c1, if_neg c2]
theorem v_diff {F : Int32 → Option β} {f k d : Int32} (h : CW B w0 T V R I O N w) (hC : CI B T K V R O N) (hI : MI s A) (hS : SIM B V R I O N s A) (h0 : 0 ≤ f) (h1 : f < s 9) (h2 : 0 ≤ k) (h3 : k < (if A 10 f = 3 then 2 else A 11 f - 1)) (h4 : -3 ≤ d) (h5 : d ≤ 3) (hp : OK (F (sumA A f k d)) P) : OK ((f_Face_differenceAt w (la (O (B + 2)) f) k d).bind F) P := by
  have a7 := lfA_b hI h0 h1 h2 h3
  refine OK.call (P := fun v => v = sumA A f k d) ?_ (fun v e => by rw [e]; exact hp)
  obtain ⟨f1, f2⟩ := hS.2.1
  obtain ⟨ta, -, ra, tp, -, hk⟩ := hC.fc h0 (by rw [f1]; exact h1)
  obtain ⟨e1, e2, -⟩ := f2 f h0 h1
  have p1 := (m_pc hI h0 h1 a7.1 (k := lfA A f k) (by have := a7.2; clear a7 h3; have := hI.2.2.2.2.1 f h0 h1; lia)).2.2.2.2.1
  have kk : lfA A f k < N (fpc B R O f) ∧ 0 ≤ lfA A f k + 1 ∧ lfA A f k + 1 < N (fpc B R O f) := by
    rw [e2]
    have := hI.2.2.2.2.1 f h0 h1
    clear hk h3
    refine ⟨?_, ?_, ?_⟩ <;> lia
  have q1 := (hk _ a7.1 kk.1).2
  have q2 := (hk _ kk.2.1 kk.2.2).2
  have go : OK ((gR w (some (la (O (B + 2)) f)) 3 1).bind fun v_4 => (aR w v_4 3 (lfA A f k)).bind fun v_5 => (gR w (some (la (O (B + 2)) f)) 3 1).bind fun v_6 => (aR w v_6 3 (lfA A f k + (1 : Int32))).bind fun v_7 => (f_Face_differenceAt_L40 w d v_5 v_7 100000 (0 : Int32) (0 : Int32)).bind fun q_16 => some q_16.2.1) (fun v => v = sumA A f k d) := by
    refine c_gRs h ta ra (by decide) (c_aRs h tp (by decide) a7.1 kk.1 q1 (c_gRs h ta ra (by decide) (c_aRs h tp (by decide) kk.2.1 kk.2.2 q2 ?_)))
    exact OK.call (v_diff_L h hC hI hS h0 h1 a7.1 a7.2 h4 h5 _ _ _ (by decide) (by clear hk h3 kk; lia) (by decide) rfl) (fun q hq => OK.ret hq)
  unfold f_Face_differenceAt
  refine c_gI h ta (by decide) (OK.J1 ?_)
  rw [e1]
  unfold lfA at go
  refine OK.ite (fun c => ?_) (fun c => ?_)
  · rw [if_pos c] at go
    exact go
  · rw [if_neg c] at go
    exact go
end VL1
