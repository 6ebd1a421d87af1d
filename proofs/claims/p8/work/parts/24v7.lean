/-! about, balance: the same answers -/
def mxF (b : Int32 → Int32) (m : Int32) : Nat → Int32
  | 0 => m
  | n + 1 => if mxF b m n < b (Int32.ofNat n) then b (Int32.ofNat n) else mxF b m n
def mnF (b : Int32 → Int32) (m : Int32) : Nat → Int32
  | 0 => m
  | n + 1 => if b (Int32.ofNat n) < mnF b m n then b (Int32.ofNat n) else mnF b m n
def enA (A : Nat → Int32 → Int32) (f k : Int32) : Int32 := acA A f k + A 4 (pcs A f k)
def boA (A : Nat → Int32 → Int32) (f k : Int32) : Int32 := toA A f k + A 5 (pcs A f k)
def sizA (A : Nat → Int32 → Int32) (f : Int32) : Int32 := mxF (enA A f) 0 (A 11 f).toNatClampNeg
def botA (A : Nat → Int32 → Int32) (f : Int32) : Int32 := mxF (boA A f) (-1000000) (A 11 f).toNatClampNeg
def lsA (A : Nat → Int32 → Int32) (f : Int32) : Int32 := mnF (toA A f) 0 (A 11 f).toNatClampNeg
def abV (A : Nat → Int32 → Int32) (f t : Int32) : Int32 := if t = 0 then sizA A f else if t = 1 then botA A f - lsA A f else if t = 2 then A 11 f else A 10 f
section VL7
variable {B : Nat} {w0 w : Mp} {s : Nat → Int32} {A : Nat → Int32 → Int32} {T K : Nat → Nat} {V V' : Nat → Nat → Int32} {R : Nat → Nat → Option Nat} {I : Nat → Int32 → Int32} {O : Nat → Int32 → Option Nat} {N : Nat → Int32} {sz g : Nat} {β : Type} {P : β → Prop}
theorem cl_s {x : Int32} (h0 : 0 ≤ x) (h1 : x < 1000) : (x + 1).toNatClampNeg = x.toNatClampNeg + 1 := by
  have a := cl_int h0
  have p1 : 0 ≤ x + 1 := by lia
  have b := cl_int p1
  rw [Int32.lt_iff_toInt_lt, show (1000 : Int32).toInt = 1000 by decide] at h1
  rw [Int32.le_iff_toInt_le, show (0 : Int32).toInt = 0 by decide] at h0
  rw [Int32.toInt_add, show (1 : Int32).toInt = 1 by decide, Int.bmod_eq_of_le (by omega) (by omega)] at b
  omega
theorem mx_step {b : Int32 → Int32} {m x : Int32} (h0 : 0 ≤ x) (h1 : x < 1000) : mxF b m (x + 1).toNatClampNeg = if mxF b m x.toNatClampNeg < b x then b x else mxF b m x.toNatClampNeg := by
  rw [cl_s h0 h1]
  show (if mxF b m x.toNatClampNeg < b (Int32.ofNat x.toNatClampNeg) then b (Int32.ofNat x.toNatClampNeg) else mxF b m x.toNatClampNeg) = _
  rw [ofn_cl h0]
theorem mn_step {b : Int32 → Int32} {m x : Int32} (h0 : 0 ≤ x) (h1 : x < 1000) : mnF b m (x + 1).toNatClampNeg = if b x < mnF b m x.toNatClampNeg then b x else mnF b m x.toNatClampNeg := by
  rw [cl_s h0 h1]
  show (if b (Int32.ofNat x.toNatClampNeg) < mnF b m x.toNatClampNeg then b (Int32.ofNat x.toNatClampNeg) else mnF b m x.toNatClampNeg) = _
  rw [ofn_cl h0]
theorem mx_start {b : Int32 → Int32} {m : Int32} (h : m < b 0) : ∀ n, mxF b (b 0) (n + 1) = mxF b m (n + 1) := by
  intro n
  induction n with
  | zero =>
    show (if b 0 < b (Int32.ofNat 0) then b (Int32.ofNat 0) else b 0) = (if m < b (Int32.ofNat 0) then b (Int32.ofNat 0) else m)
    rw [show Int32.ofNat 0 = 0 from rfl, if_pos h]
    by_cases c : b 0 < b 0
    · rw [if_pos c]
    · rw [if_neg c]
  | succ n ih =>
    show (if mxF b (b 0) (n + 1) < b (Int32.ofNat (n + 1)) then b (Int32.ofNat (n + 1)) else mxF b (b 0) (n + 1)) = (if mxF b m (n + 1) < b (Int32.ofNat (n + 1)) then b (Int32.ofNat (n + 1)) else mxF b m (n + 1))
    rw [ih]
/-! the reference -/
theorem v_wideOf_L {f : Int32} (h : MW B w0 s A w) (hI : MI s A) (h0 : 0 ≤ f) (h1 : f < s 9) : ∀ (n : Nat) (x2 x3 : Int32), 0 ≤ x3 → x3 ≤ A 11 f → (A 11 f - x3).toInt < n → x2 = mxF (enA A f) 0 x3.toNatClampNeg → OK (f_Mod_wideOf_L4 w (B + 11) f n x2 x3) (fun q => q.2.1 = sizA A f) := by
  have a8 := (hI.2.2.2.2.1 f h0 h1).2.2.2.1
  have f8 : f < 8 := by have := hI.2.1; clear a8; lia
  intro n
  induction n with
  | zero => intro x2 x3 b0 b1 hn; exact (fu_zero b0 b1 hn).elim
  | succ n ih =>
    intro x2 x3 b0 b1 hn e
    rw [f_Mod_wideOf_L4]
    refine k_gR h (by decide) (k_aI h (by decide) (by decide) h0 (show f < mln 11 from f8) (OK.ite (fun c => OK.ret ?_) (fun c => ?_)))
    · have : x3 = A 11 f := by clear ih hn e; lia
      show x2 = _
      rw [e, this]; rfl
    · have y : x3 < A 11 f := by clear ih hn e; lia
      have fs := fu_step b0 y hn
      have nx : 0 ≤ x3 + 1 ∧ x3 + 1 ≤ A 11 f := by clear ih hn e fs; constructor <;> lia
      have st := mx_step (b := enA A f) (m := 0) b0 (show x3 < 1000 by clear ih hn e fs; lia)
      refine k_xo h (v_across h hI h0 h1 b0 y (k_xo h (m_wide h hI h0 h1 b0 y (fun v ev _ _ => ?_))))
      have ee : acA A f x3 + v = enA A f x3 := by rw [ev]; rfl
      rw [ee]
      rw [← e] at st
      refine OK.ite (fun d => ih _ _ nx.1 nx.2 fs ?_) (fun d => ih _ _ nx.1 nx.2 fs ?_)
      · rw [st, if_neg (by clear ih hn e fs st; lia)]
      · rw [st, if_pos (by clear ih hn e fs st; lia)]
theorem v_wideOf {F : Int32 → Option β} {f : Int32} (h : MW B w0 s A w) (hI : MI s A) (h0 : 0 ≤ f) (h1 : f < s 9) (hp : OK (F (sizA A f)) P) : OK ((f_Mod_wideOf w (B + 11) f).bind F) P := by
  have a5 := hI.2.2.2.2.1 f h0 h1
  refine OK.call (P := fun v => v = sizA A f) ?_ (fun v e => by rw [e]; exact hp)
  unfold f_Mod_wideOf
  exact OK.call (v_wideOf_L h hI h0 h1 _ _ _ (by decide) (by clear h hp; lia) (fu_any (by clear h hp; lia) (by clear h hp; lia)) rfl) (fun q hq => OK.ret hq)
theorem v_leastTop_L {f : Int32} (h : MW B w0 s A w) (hI : MI s A) (h0 : 0 ≤ f) (h1 : f < s 9) : ∀ (n : Nat) (x2 x3 : Int32), 0 ≤ x3 → x3 ≤ A 11 f → (A 11 f - x3).toInt < n → x2 = mnF (toA A f) 0 x3.toNatClampNeg → OK (f_Mod_leastTop_L4 w (B + 11) f n x2 x3) (fun q => q.2.1 = lsA A f) := by
  have a8 := (hI.2.2.2.2.1 f h0 h1).2.2.2.1
  have f8 : f < 8 := by have := hI.2.1; clear a8; lia
  intro n
  induction n with
  | zero => intro x2 x3 b0 b1 hn; exact (fu_zero b0 b1 hn).elim
  | succ n ih =>
    intro x2 x3 b0 b1 hn e
    rw [f_Mod_leastTop_L4]
    refine k_gR h (by decide) (k_aI h (by decide) (by decide) h0 (show f < mln 11 from f8) (OK.ite (fun c => OK.ret ?_) (fun c => ?_)))
    · have : x3 = A 11 f := by clear ih hn e; lia
      show x2 = _
      rw [e, this]; rfl
    · have y : x3 < A 11 f := by clear ih hn e; lia
      have fs := fu_step b0 y hn
      have nx : 0 ≤ x3 + 1 ∧ x3 + 1 ≤ A 11 f := by clear ih hn e fs; constructor <;> lia
      have st := mn_step (b := toA A f) (m := 0) b0 (show x3 < 1000 by clear ih hn e fs; lia)
      rw [← e] at st
      refine k_xo h (v_topOf h hI h0 h1 b0 y (OK.ite (fun d => ih _ _ nx.1 nx.2 fs ?_) (fun d => ih _ _ nx.1 nx.2 fs ?_)))
      · rw [st, if_neg (by clear ih hn e fs st; lia)]
      · rw [st, if_pos (by clear ih hn e fs st; lia)]
theorem v_leastTop {F : Int32 → Option β} {f : Int32} (h : MW B w0 s A w) (hI : MI s A) (h0 : 0 ≤ f) (h1 : f < s 9) (hp : OK (F (lsA A f)) P) : OK ((f_Mod_leastTop w (B + 11) f).bind F) P := by
  have a5 := hI.2.2.2.2.1 f h0 h1
  refine OK.call (P := fun v => v = lsA A f) ?_ (fun v e => by rw [e]; exact hp)
  unfold f_Mod_leastTop
  exact OK.call (v_leastTop_L h hI h0 h1 _ _ _ (by decide) (by clear h hp; lia) (fu_any (by clear h hp; lia) (by clear h hp; lia)) rfl) (fun q hq => OK.ret hq)
theorem v_about_L {f t : Int32} (h : MW B w0 s A w) (hI : MI s A) (h0 : 0 ≤ f) (h1 : f < s 9) : ∀ (n : Nat) (x3 x4 : Int32), 0 ≤ x4 → x4 ≤ A 11 f → (A 11 f - x4).toInt < n → x3 = mxF (boA A f) (-1000000) x4.toNatClampNeg → OK (f_Mod_about_L43 w (B + 11) f t n x3 x4) (fun q => q.2.1 = botA A f) := by
  have a8 := (hI.2.2.2.2.1 f h0 h1).2.2.2.1
  have f8 : f < 8 := by have := hI.2.1; clear a8; lia
  intro n
  induction n with
  | zero => intro x2 x3 b0 b1 hn; exact (fu_zero b0 b1 hn).elim
  | succ n ih =>
    intro x3 x4 b0 b1 hn e
    rw [f_Mod_about_L43]
    refine k_gR h (by decide) (k_aI h (by decide) (by decide) h0 (show f < mln 11 from f8) (OK.ite (fun c => OK.ret ?_) (fun c => ?_)))
    · have : x4 = A 11 f := by clear ih hn e; lia
      show x3 = _
      rw [e, this]; rfl
    · have y : x4 < A 11 f := by clear ih hn e; lia
      have fs := fu_step b0 y hn
      have nx : 0 ≤ x4 + 1 ∧ x4 + 1 ≤ A 11 f := by clear ih hn e fs; constructor <;> lia
      have st := mx_step (b := boA A f) (m := -1000000) b0 (show x4 < 1000 by clear ih hn e fs; lia)
      refine k_xo h (v_topOf h hI h0 h1 b0 y (k_xo h (m_high h hI h0 h1 b0 y (fun v ev _ _ => ?_))))
      have ee : toA A f x4 + v = boA A f x4 := by rw [ev]; rfl
      rw [ee]
      rw [← e] at st
      refine OK.ite (fun d => ih _ _ nx.1 nx.2 fs ?_) (fun d => ih _ _ nx.1 nx.2 fs ?_)
      · rw [st, if_neg (by clear ih hn e fs st; lia)]
      · rw [st, if_pos (by clear ih hn e fs st; lia)]
theorem u_mabout {f t : Int32} (h : MW B w0 s A w) (hI : MI s A) : OK (f_Mod_about w (B + 11) f t) (fun q => (¬ (0 ≤ f ∧ f < s 9) ∧ MW B w0 (up s 0 1) A q.2) ∨ (0 ≤ f ∧ f < s 9 ∧ ¬ (0 ≤ t ∧ t ≤ 3) ∧ MW B w0 (up s 0 2) A q.2) ∨ (0 ≤ f ∧ f < s 9 ∧ (0 ≤ t ∧ t ≤ 3) ∧ q.1 = abV A f t ∧ MW B w0 (up s 0 0) A q.2)) := by
  unfold f_Mod_about
  refine k_xo h (m_noFace h (fun w1 f0 f1 h1 => OK.ifP rfl ?_) (fun w1 c h1 => OK.ifN ne1 (OK.ret (Or.inl ⟨c, h1⟩))))
  have a5 := hI.2.2.2.2.1 f f0 f1
  have f8 : f < 8 := by have := hI.2.1; clear a5; lia
  refine m_isIn (fun a1 a2 => ?_) (fun c => ?_)
  · refine OK.J1 (OK.ifN (by decide) (k_pF2 h1 (by decide) (fun w2 h2 => k_gIa h2 (by decide) (OK.ifP (by decide) ?_))))
    refine OK.call (v_about_L h2 (MI.sc rfl hI) f0 f1 _ _ _ (by decide) (by clear h1 h2; lia) (fu_any (by clear h1 h2; lia) (by clear h1 h2; lia)) rfl) (fun q hq => ?_)
    have yes : ∀ v, v = abV A f t → OK (some (v, w2) : Option (Int32 × Mp)) (fun q => (¬ (0 ≤ f ∧ f < s 9) ∧ MW B w0 (up s 0 1) A q.2) ∨ (0 ≤ f ∧ f < s 9 ∧ ¬ (0 ≤ t ∧ t ≤ 3) ∧ MW B w0 (up s 0 2) A q.2) ∨ (0 ≤ f ∧ f < s 9 ∧ (0 ≤ t ∧ t ≤ 3) ∧ q.1 = abV A f t ∧ MW B w0 (up s 0 0) A q.2)) := fun v ev => OK.ret (Or.inr (Or.inr ⟨f0, f1, ⟨a1, a2⟩, ev, h2⟩))
    refine OK.ite (fun c => ?_) (fun d0 => OK.ite (fun c => ?_) (fun d1 => OK.ite (fun c => ?_) (fun d2 => ?_)))
    · exact k_xo h2 (v_wideOf h2 (MI.sc rfl hI) f0 f1 (yes _ (by unfold abV; rw [if_pos c])))
    · exact k_xo h2 (v_leastTop h2 (MI.sc rfl hI) f0 f1 (yes _ (by unfold abV; rw [if_neg d0, if_pos c, hq])))
    · exact k_gR h2 (by decide) (k_aI h2 (by decide) (by decide) f0 (show f < mln 11 from f8) (yes _ (by unfold abV; rw [if_neg d0, if_neg d1, if_pos c])))
    · exact k_gR h2 (by decide) (k_aI h2 (by decide) (by decide) f0 (show f < mln 10 from f8) (yes _ (by unfold abV; rw [if_neg d0, if_neg d1, if_neg d2])))
  · exact OK.J1 (OK.ifP rfl (k_pF2 h1 (by decide) (fun w2 h2 => k_gIa h2 (by decide) (OK.ifN (by decide) (OK.ret (Or.inr (Or.inl ⟨f0, f1, c, h2⟩)))))))
/-! the class -/
theorem lay_at (hC : CI B T K V R O N) (hI : MI s A) (hS : SIM B V R I O N s A) {f k : Int32} (h0 : 0 ≤ f) (h1 : f < s 9) (k0 : 0 ≤ k) (k1 : k < A 11 f) (hl : LI B T V V' R O A f (A 11 f)) : (O (fpc B R O f) k = some (la (O (fpc B R O f)) k) ∧ T (la (O (fpc B R O f)) k) = 2 ∧ R (la (O (fpc B R O f)) k) 0 = some (la (O (B + 1)) (pcs A f k)) ∧ T (la (O (B + 1)) (pcs A f k)) = 1) ∧ V' (la (O (fpc B R O f)) k) 3 = acA A f k ∧ V' (la (O (fpc B R O f)) k) 4 = toA A f k ∧ V' (la (O (B + 1)) (pcs A f k)) 3 = A 4 (pcs A f k) ∧ V' (la (O (B + 1)) (pcs A f k)) 4 = A 5 (pcs A f k) := by
  obtain ⟨-, -, c3, c4, c5, ⟨⟨-, -, e3, e4, -⟩, -⟩⟩ := c_piece hC hI hS h0 h1 k0 k1
  have qo := (hC.fc h0 (by rw [hS.2.1.1]; exact h1)).2.2.2.2.2 k k0 (by rw [(hS.2.1.2 f h0 h1).2.1]; exact k1)
  have pl := hl.2 k k0 k1
  exact ⟨⟨qo.2, c4, c3, c5⟩, pl.1, pl.2, by rw [hl.1 _ 3 (Or.inl (by rw [c5]; decide))]; exact e3, by rw [hl.1 _ 4 (Or.inl (by rw [c5]; decide))]; exact e4⟩
theorem x_size_L (h : CW B w0 T V' R I O N w) (hC : CI B T K V R O N) (hI : MI s A) (hS : SIM B V R I O N s A) {f : Int32} (h0 : 0 ≤ f) (h1 : f < s 9) (hl : LI B T V V' R O A f (A 11 f)) : ∀ (n : Nat) (x1 x4 : Int32), 0 ≤ x4 → x4 ≤ A 11 f → (A 11 f - x4).toInt < n → x1 = mxF (enA A f) 0 x4.toNatClampNeg → OK (f_Face_sizeAcross_L13 w (some (fpc B R O f)) (A 11 f) n x1 x4) (fun q => q.2.1 = sizA A f) := by
  have a8 := (hI.2.2.2.2.1 f h0 h1).2.2.2.1
  obtain ⟨-, -, -, tp, -, -⟩ := hC.fc h0 (by rw [hS.2.1.1]; exact h1)
  have e2 := (hS.2.1.2 f h0 h1).2.1
  intro n
  induction n with
  | zero => intro x1 x4 b0 b1 hn; exact (fu_zero b0 b1 hn).elim
  | succ n ih =>
    intro x1 x4 b0 b1 hn e
    rw [f_Face_sizeAcross_L13]
    refine OK.ite (fun c => OK.ret ?_) (fun c => ?_)
    · have : x4 = A 11 f := by clear ih hn e; lia
      show x1 = _
      rw [e, this]; rfl
    · have y : x4 < A 11 f := by clear ih hn e; lia
      have fs := fu_step b0 y hn
      have nx : 0 ≤ x4 + 1 ∧ x4 + 1 ≤ A 11 f := by clear ih hn e fs; constructor <;> lia
      have st := mx_step (b := enA A f) (m := 0) b0 (show x4 < 1000 by clear ih hn e fs; lia)
      obtain ⟨⟨q1, q2, q3, q4⟩, v3, -, w3, -⟩ := lay_at hC hI hS h0 h1 b0 y hl
      refine c_aRs h tp (by decide) b0 (by rw [e2]; exact y) q1 (c_xo h q2 (by decide) (n_end h q2 q3 q4 (ih _ _ nx.1 nx.2 fs ?_)))
      rw [v3, w3, st, e]
      rfl
theorem x_size {F : Int32 → Option β} (h : CW B w0 T V' R I O N w) (hC : CI B T K V R O N) (hI : MI s A) (hS : SIM B V R I O N s A) {f : Int32} (h0 : 0 ≤ f) (h1 : f < s 9) (hl : LI B T V V' R O A f (A 11 f)) (hp : OK (F (sizA A f)) P) : OK ((f_Face_sizeAcross w (la (O (B + 2)) f)).bind F) P := by
  have a5 := hI.2.2.2.2.1 f h0 h1
  obtain ⟨ta, -, ra, tp, -, -⟩ := hC.fc h0 (by rw [hS.2.1.1]; exact h1)
  have e2 := (hS.2.1.2 f h0 h1).2.1
  refine OK.call (P := fun v => v = sizA A f) ?_ (fun v e => by rw [e]; exact hp)
  unfold f_Face_sizeAcross
  refine c_gRs h ta ra (by decide) (c_aL h tp (by decide) (by rw [e2]; clear hl hp; lia) ?_)
  rw [e2]
  exact OK.call (x_size_L h hC hI hS h0 h1 hl _ _ _ (by decide) (by clear hl hp; lia) (fu_any (by clear hl hp; lia) (by clear hl hp; lia)) rfl) (fun q hq => OK.ret hq)
theorem x_top_L (h : CW B w0 T V' R I O N w) (hC : CI B T K V R O N) (hI : MI s A) (hS : SIM B V R I O N s A) {f : Int32} (h0 : 0 ≤ f) (h1 : f < s 9) (hl : LI B T V V' R O A f (A 11 f)) : ∀ (n : Nat) (x1 x4 : Int32), 0 ≤ x4 → x4 ≤ A 11 f → (A 11 f - x4).toInt < n → x1 = mnF (toA A f) 0 x4.toNatClampNeg → OK (f_Face_leastTop_L21 w (some (fpc B R O f)) (A 11 f) n x1 x4) (fun q => q.2.1 = lsA A f) := by
  have a8 := (hI.2.2.2.2.1 f h0 h1).2.2.2.1
  obtain ⟨-, -, -, tp, -, -⟩ := hC.fc h0 (by rw [hS.2.1.1]; exact h1)
  have e2 := (hS.2.1.2 f h0 h1).2.1
  intro n
  induction n with
  | zero => intro x1 x4 b0 b1 hn; exact (fu_zero b0 b1 hn).elim
  | succ n ih =>
    intro x1 x4 b0 b1 hn e
    rw [f_Face_leastTop_L21]
    refine OK.ite (fun c => OK.ret ?_) (fun c => ?_)
    · have : x4 = A 11 f := by clear ih hn e; lia
      show x1 = _
      rw [e, this]; rfl
    · have y : x4 < A 11 f := by clear ih hn e; lia
      have fs := fu_step b0 y hn
      have nx : 0 ≤ x4 + 1 ∧ x4 + 1 ≤ A 11 f := by clear ih hn e fs; constructor <;> lia
      have st := mn_step (b := toA A f) (m := 0) b0 (show x4 < 1000 by clear ih hn e fs; lia)
      obtain ⟨⟨q1, q2, q3, q4⟩, -, v4, -, -⟩ := lay_at hC hI hS h0 h1 b0 y hl
      refine c_aRs h tp (by decide) b0 (by rw [e2]; exact y) q1 (c_gI h q2 (by decide) (ih _ _ nx.1 nx.2 fs ?_))
      rw [v4, st, e]
theorem to_0 {f : Int32} : toA A f 0 = 0 := by
  unfold toA
  by_cases c : A 10 f = 3
  · rw [if_pos c, if_pos (by decide)]
  · rw [if_neg c]; rfl
theorem x_top {F : Int32 → Option β} (h : CW B w0 T V' R I O N w) (hC : CI B T K V R O N) (hI : MI s A) (hS : SIM B V R I O N s A) {f : Int32} (h0 : 0 ≤ f) (h1 : f < s 9) (hl : LI B T V V' R O A f (A 11 f)) (hp : OK (F (lsA A f)) P) : OK ((f_Face_leastTop w (la (O (B + 2)) f)).bind F) P := by
  have a5 := hI.2.2.2.2.1 f h0 h1
  obtain ⟨ta, -, ra, tp, -, -⟩ := hC.fc h0 (by rw [hS.2.1.1]; exact h1)
  have e2 := (hS.2.1.2 f h0 h1).2.1
  obtain ⟨⟨q1, q2, q3, q4⟩, -, v4, -, -⟩ := lay_at hC hI hS h0 h1 (k := 0) (by decide) (by clear hl hp; lia) hl
  refine OK.call (P := fun v => v = lsA A f) ?_ (fun v e => by rw [e]; exact hp)
  unfold f_Face_leastTop
  refine c_gRs h ta ra (by decide) (c_aRs h tp (by decide) (by decide) (by rw [e2]; clear hl hp; lia) q1 (c_gI h q2 (by decide) (c_gRs h ta ra (by decide) (c_aL h tp (by decide) (by rw [e2]; clear hl hp; lia) ?_))))
  rw [e2, v4, to_0]
  exact OK.call (x_top_L h hC hI hS h0 h1 hl _ _ _ (by decide) (by clear hl hp; lia) (fu_any (by clear hl hp; lia) (by clear hl hp; lia)) rfl) (fun q hq => OK.ret hq)
theorem x_bot_L (h : CW B w0 T V' R I O N w) (hC : CI B T K V R O N) (hI : MI s A) (hS : SIM B V R I O N s A) {f : Int32} (h0 : 0 ≤ f) (h1 : f < s 9) (hl : LI B T V V' R O A f (A 11 f)) : ∀ (n : Nat) (x1 x4 : Int32), 0 ≤ x4 → x4 ≤ A 11 f → (A 11 f - x4).toInt < n → x1 = mxF (boA A f) (boA A f 0) x4.toNatClampNeg → OK (f_Face_greatestBottom_L21 w (some (fpc B R O f)) (A 11 f) n x1 x4) (fun q => q.2.1 = mxF (boA A f) (boA A f 0) (A 11 f).toNatClampNeg) := by
  have a8 := (hI.2.2.2.2.1 f h0 h1).2.2.2.1
  obtain ⟨-, -, -, tp, -, -⟩ := hC.fc h0 (by rw [hS.2.1.1]; exact h1)
  have e2 := (hS.2.1.2 f h0 h1).2.1
  intro n
  induction n with
  | zero => intro x1 x4 b0 b1 hn; exact (fu_zero b0 b1 hn).elim
  | succ n ih =>
    intro x1 x4 b0 b1 hn e
    rw [f_Face_greatestBottom_L21]
    refine OK.ite (fun c => OK.ret ?_) (fun c => ?_)
    · have : x4 = A 11 f := by clear ih hn e; lia
      show x1 = _
      rw [e, this]
    · have y : x4 < A 11 f := by clear ih hn e; lia
      have fs := fu_step b0 y hn
      have nx : 0 ≤ x4 + 1 ∧ x4 + 1 ≤ A 11 f := by clear ih hn e fs; constructor <;> lia
      have st := mx_step (b := boA A f) (m := boA A f 0) b0 (show x4 < 1000 by clear ih hn e fs; lia)
      obtain ⟨⟨q1, q2, q3, q4⟩, -, v4, -, w4⟩ := lay_at hC hI hS h0 h1 b0 y hl
      refine c_aRs h tp (by decide) b0 (by rw [e2]; exact y) q1 (c_xo h q2 (by decide) (n_bottom h q2 q3 q4 (ih _ _ nx.1 nx.2 fs ?_)))
      rw [v4, w4, st, e]
      rfl
theorem x_bot {F : Int32 → Option β} (h : CW B w0 T V' R I O N w) (hC : CI B T K V R O N) (hI : MI s A) (hS : SIM B V R I O N s A) {f : Int32} (h0 : 0 ≤ f) (h1 : f < s 9) (hl : LI B T V V' R O A f (A 11 f)) (hp : OK (F (botA A f)) P) : OK ((f_Face_greatestBottom w (la (O (B + 2)) f)).bind F) P := by
  have a5 := hI.2.2.2.2.1 f h0 h1
  have n2 := a5.2.2.1
  have n8 := a5.2.2.2.1
  clear a5
  obtain ⟨ta, -, ra, tp, -, -⟩ := hC.fc h0 (by rw [hS.2.1.1]; exact h1)
  have e2 := (hS.2.1.2 f h0 h1).2.1
  obtain ⟨⟨q1, q2, q3, q4⟩, -, v4, -, w4⟩ := lay_at hC hI hS h0 h1 (k := 0) (by decide) (by clear hl hp; lia) hl
  have p := (m_pc hI h0 h1 (k := 0) (by decide) (by clear hl hp; lia)).2.2.2.2.1
  have eb : botA A f = mxF (boA A f) (boA A f 0) (A 11 f).toNatClampNeg := by
    unfold botA
    obtain ⟨m, hm⟩ : ∃ m, (A 11 f).toNatClampNeg = m + 1 := ⟨(A 11 f).toNatClampNeg - 1, by
      have := cl_int (show 0 ≤ A 11 f by clear hl hp p; lia)
      rw [Int32.le_iff_toInt_le, show (2 : Int32).toInt = 2 by decide] at n2
      omega⟩
    rw [hm]
    refine (mx_start ?_ m).symm
    unfold boA
    rw [to_0]
    clear hl hp v4 w4
    lia
  refine OK.call (P := fun v => v = botA A f) ?_ (fun v e => by rw [e]; exact hp)
  unfold f_Face_greatestBottom
  refine c_gRs h ta ra (by decide) (c_aRs h tp (by decide) (by decide) (by rw [e2]; clear hl hp p; lia) q1 (c_xo h q2 (by decide) (n_bottom h q2 q3 q4 (c_gRs h ta ra (by decide) (c_aL h tp (by decide) (by rw [e2]; clear hl hp p; lia) ?_)))))
  rw [e2, v4, w4]
  exact OK.call (x_bot_L h hC hI hS h0 h1 hl _ _ _ (by decide) (by clear hl hp p; lia) (fu_any (by clear hl hp p; lia) (by clear hl hp p; lia)) rfl) (fun q hq => OK.ret (by rw [eb]; exact hq))
theorem u_about {f t : Int32} (h : CW B w0 T V R I O N w) (hC : CI B T K V R O N) (hI : MI s A) (hS : SIM B V R I O N s A) (hQ : SX B V R O s A) : OK (f_LM_about w sz B f t) (fun q => (¬ (0 ≤ f ∧ f < s 9) ∧ q = (.inr 2, w, sz + 1)) ∨ (0 ≤ f ∧ f < s 9 ∧ ¬ (0 ≤ t ∧ t ≤ 3) ∧ LQ B w0 T V R I O N A f sz (.inr 1) q) ∨ (0 ≤ f ∧ f < s 9 ∧ (0 ≤ t ∧ t ≤ 3) ∧ LQ B w0 T V R I O N A f sz (.inl (abV A f t)) q)) := by
  unfold f_LM_about
  refine c_face h hC hS (fun c => OK.ret (Or.inl ⟨c, rfl⟩)) (fun f0 f1 ta => ?_)
  obtain ⟨-, -, ra, tp, hn, -⟩ := hC.fc f0 (by rw [hS.2.1.1]; exact f1)
  obtain ⟨e1, e2, -⟩ := hS.2.1.2 f f0 f1
  refine c_xo h ta (by decide) (v_lay h hC hI hS hQ f0 f1 (fun w' V' h' hl => ?_))
  have yes : ∀ v, v = abV A f t → 0 ≤ t → t ≤ 3 → OK (some (.inl v, w', sz) : Option ((Int32 ⊕ Nat) × Mp × Nat)) (fun q => (¬ (0 ≤ f ∧ f < s 9) ∧ q = (.inr 2, w, sz + 1)) ∨ (0 ≤ f ∧ f < s 9 ∧ ¬ (0 ≤ t ∧ t ≤ 3) ∧ LQ B w0 T V R I O N A f sz (.inr 1) q) ∨ (0 ≤ f ∧ f < s 9 ∧ (0 ≤ t ∧ t ≤ 3) ∧ LQ B w0 T V R I O N A f sz (.inl (abV A f t)) q)) := fun v ev a b => OK.ret (Or.inr (Or.inr ⟨f0, f1, ⟨a, b⟩, V', h', hl, by rw [ev], Nat.le_refl _⟩))
  refine OK.ite (fun c => ?_) (fun d0 => ?_)
  · exact c_xo h' ta (by decide) (x_size h' hC hI hS f0 f1 hl (yes _ (by unfold abV; rw [if_pos c]) (by rw [c]; decide) (by rw [c]; decide)))
  refine OK.ite (fun c => ?_) (fun d1 => ?_)
  · exact c_xo h' ta (by decide) (x_bot h' hC hI hS f0 f1 hl (c_xo h' ta (by decide) (x_top h' hC hI hS f0 f1 hl (yes _ (by unfold abV; rw [if_neg d0, if_pos c]) (by rw [c]; decide) (by rw [c]; decide)))))
  refine OK.ite (fun c => ?_) (fun d2 => ?_)
  · exact c_gRs h' ta ra (by decide) (c_aL h' tp (by decide) (by clear hl; lia) (yes _ (by rw [e2]; unfold abV; rw [if_neg d0, if_neg d1, if_pos c]) (by rw [c]; decide) (by rw [c]; decide)))
  refine OK.ite (fun c => ?_) (fun d3 => ?_)
  · exact c_gI h' ta (by decide) (yes _ (by rw [hl.1 _ 0 (Or.inl (by rw [ta]; decide)), e1]; unfold abV; rw [if_neg d0, if_neg d1, if_neg d2]) (by rw [c]; decide) (by rw [c]; decide))
  exact OK.ret (Or.inr (Or.inl ⟨f0, f1, by lia, V', h', hl, rfl, Nat.le_succ _⟩))
theorem st_about {a b : Int32} (h : LL B g w sz) : OK (f_Law_about w sz (some B) a b (some (B + 28))) (fun q => OK ((xo q.2.1 (some (B + 11)) 5).bind fun b_9 => f_Mod_about q.2.1 b_9 a b) (fun q2 => LL B g q2.2 q.2.2 ∧ CM B q.1 q2.2 q2.1.toInt64)) := by
  obtain ⟨T, K, V, R, I, O, N, a5, a6, a7, s, A, hX⟩ := h.get
  obtain ⟨h1, h2, h3, h4, h5, h6, hM, hI, hO, hS, hQ⟩ := id hX
  unfold f_Law_about
  refine c_xo h1 h2.1.1.1 (by decide) (OK.call (u_about h1 h2 hI hS hQ) (fun q hq => ?_))
  rcases hq with ⟨c1, rfl⟩ | ⟨c1, c2, c3, V', v1, v2, e1, e2⟩ | ⟨c1, c2, c3, V', v1, v2, e1, e2⟩
  · refine sw_r (OK.ifP rfl (OK.ret (k_xo hM <| (u_mabout hM hI).mono (fun q2 hq2 => ?_))))
    rcases hq2 with ⟨d1, e⟩ | ⟨d1, d2, -⟩ | ⟨d1, d2, -⟩
    · exact hX.no e (by first | exact ne1 | exact ne2 | exact ne3)
    · exact absurd ⟨d1, d2⟩ c1
    · exact absurd ⟨d1, d2⟩ c1
  · rw [e1]
    have hx := CX.of v1 hO
    refine sw_r (OK.ifN (by decide) (OK.ifP rfl (OK.ret (k_xo (hx.mod hM) <| (u_mabout (hx.mod hM) hI).mono (fun q2 hq2 => ?_)))))
    rcases hq2 with ⟨d1, e⟩ | ⟨-, -, d2, e⟩ | ⟨-, -, d2, -⟩
    · exact absurd ⟨c1, c2⟩ d1
    · exact ⟨hX.lq c1 c2 v2 hx e e2, CM.no e rfl (by first | exact ne1 | exact ne2 | exact ne3)⟩
    · exact absurd d2 c3
  · rw [e1]
    refine sw_l ((CX.of v1 hO).put (fun w2 hx hf => OK.ret (k_xo (hx.mod hM) <| (u_mabout (hx.mod hM) hI).mono (fun q2 hq2 => ?_))))
    rcases hq2 with ⟨d1, e⟩ | ⟨-, -, d2, e⟩ | ⟨-, -, d2, ev, e⟩
    · exact absurd ⟨c1, c2⟩ d1
    · exact absurd c3 d2
    · exact ⟨hX.lq c1 c2 v2 hx e e2, CM.yes e rfl (by rw [ev]; exact hf)⟩
end VL7
