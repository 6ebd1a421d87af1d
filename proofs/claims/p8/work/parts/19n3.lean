/-! the class: faces' sums and places, read; leaves found and counted -/
theorem xtab_ok {β : Type} {P : β → Prop} {F : Int32 → Option β} {i : Int32} (i0 : 0 ≤ i) (i1 : i < 7) (hp : ∀ v, OK (F v) P) : OK ((xtab i).bind F) P := by
  have z := cl_in (n := 7) i0 i1
  rw [show (7 : Int32).toNatClampNeg = 7 by decide] at z
  unfold xtab
  rw [if_neg z]
  exact hp _
section CP3
variable {B : Nat} {w0 : Mp} {T K : Nat → Nat} {V : Nat → Nat → Int32} {R : Nat → Nat → Option Nat} {I : Nat → Int32 → Int32} {O : Nat → Int32 → Option Nat} {N : Nat → Int32} {w : Mp} {β : Type} {P : β → Prop}
theorem n_best_L {a p : Nat} {k : Int32} (h : CW B w0 T V R I O N w) (ht : T a = 3) (hr : R a 1 = some p) (hP : PIE T K V R O N p) (v4 : V a 0 = 3 → N p = 4) (k0 : 0 ≤ k) (k1 : k < sms V N a p) : ∀ (n : Nat) (x2 x3 x4 : Int32), 0 ≤ x4 → x4 ≤ 7 → (7 - x4).toInt < n → OK (f_Face_bestShift_L16 w a k n x2 x3 x4) (fun _ => True) := by
  intro n
  induction n with
  | zero => intro x2 x3 x4 b0 b1 hn; exact (fu_zero b0 b1 hn).elim
  | succ n ih =>
    intro x2 x3 x4 b0 b1 hn
    rw [f_Face_bestShift_L16]
    refine OK.ite (fun c => OK.ret trivial) (fun c => ?_)
    have y : x4 < 7 := by clear ih hn; lia
    have fs := fu_step b0 y hn
    have y2 : 0 ≤ x4 + 1 ∧ x4 + 1 ≤ 7 := by clear ih hn fs; constructor <;> lia
    refine xtab_ok b0 y (fun v => c_xo h ht (by decide) (n_diff h ht hr hP v4 k0 k1 (fun u => ?_)))
    refine OK.ite (fun _ => ih _ _ _ y2.1 y2.2 fs) (fun _ => xtab_ok b0 y (fun v' => ih _ _ _ y2.1 y2.2 fs))
theorem n_best {F : Int32 → Option β} {a p : Nat} {k : Int32} (h : CW B w0 T V R I O N w) (ht : T a = 3) (hr : R a 1 = some p) (hP : PIE T K V R O N p) (v4 : V a 0 = 3 → N p = 4) (k0 : 0 ≤ k) (k1 : k < sms V N a p) (hp : ∀ v, OK (F v) P) : OK ((f_Face_bestShift w a k).bind F) P := by
  refine OK.call (P := fun _ => True) ?_ (fun v _ => hp v)
  unfold f_Face_bestShift
  refine xtab_ok (by decide) (by decide) (fun v => c_xo h ht (by decide) (n_diff h ht hr hP v4 k0 k1 (fun u => ?_)))
  exact OK.call (n_best_L h ht hr hP v4 k0 k1 _ _ _ _ (by decide) (by decide) (by decide)) (fun q _ => OK.ret trivial)
theorem n_size_L {p : Nat} (h : CW B w0 T V R I O N w) (hP : PIE T K V R O N p) : ∀ (n : Nat) (x1 x4 : Int32), 0 ≤ x4 → x4 ≤ N p → (N p - x4).toInt < n → OK (f_Face_sizeAcross_L13 w (some p) (N p) n x1 x4) (fun _ => True) := by
  obtain ⟨tp, n8, hq⟩ := hP
  intro n
  induction n with
  | zero => intro x1 x4 b0 b1 hn; exact (fu_zero b0 b1 hn).elim
  | succ n ih =>
    intro x1 x4 b0 b1 hn
    rw [f_Face_sizeAcross_L13]
    refine OK.ite (fun c => OK.ret trivial) (fun c => ?_)
    have y : x4 < N p := by clear ih hn hq; lia
    have fs := fu_step b0 y hn
    obtain ⟨q, l, q1, q2, q3, q4, q5⟩ := hq x4 b0 y
    refine c_aRs h tp (by decide) b0 y q1 (c_xo h q2 (by decide) (n_end h q2 q3 q4 ?_))
    exact ih _ _ (by clear ih hn fs hq; lia) (by clear ih hn fs hq; lia) fs
theorem n_size {F : Int32 → Option β} {a p : Nat} (h : CW B w0 T V R I O N w) (ht : T a = 3) (hr : R a 1 = some p) (hP : PIE T K V R O N p) (hp : ∀ v, OK (F v) P) : OK ((f_Face_sizeAcross w a).bind F) P := by
  refine OK.call (P := fun _ => True) ?_ (fun v _ => hp v)
  have n8 := hP.2.1
  unfold f_Face_sizeAcross
  refine c_gRs h ht hr (by decide) (c_aL h hP.1 (by decide) (by lia) ?_)
  exact OK.call (n_size_L h hP _ _ _ (by decide) (by lia) (fu_any (by lia) (by lia))) (fun q _ => OK.ret trivial)
theorem n_top_L {p : Nat} (h : CW B w0 T V R I O N w) (hP : PIE T K V R O N p) : ∀ (n : Nat) (x1 x4 : Int32), 0 ≤ x4 → x4 ≤ N p → (N p - x4).toInt < n → OK (f_Face_leastTop_L21 w (some p) (N p) n x1 x4) (fun _ => True) := by
  obtain ⟨tp, n8, hq⟩ := hP
  intro n
  induction n with
  | zero => intro x1 x4 b0 b1 hn; exact (fu_zero b0 b1 hn).elim
  | succ n ih =>
    intro x1 x4 b0 b1 hn
    rw [f_Face_leastTop_L21]
    refine OK.ite (fun c => OK.ret trivial) (fun c => ?_)
    have y : x4 < N p := by clear ih hn hq; lia
    have fs := fu_step b0 y hn
    obtain ⟨q, l, q1, q2, q3, q4, q5⟩ := hq x4 b0 y
    refine c_aRs h tp (by decide) b0 y q1 (c_gI h q2 (by decide) ?_)
    exact ih _ _ (by clear ih hn fs hq; lia) (by clear ih hn fs hq; lia) fs
theorem n_top {F : Int32 → Option β} {a p : Nat} (h : CW B w0 T V R I O N w) (ht : T a = 3) (hr : R a 1 = some p) (hP : PIE T K V R O N p) (hp : ∀ v, OK (F v) P) : OK ((f_Face_leastTop w a).bind F) P := by
  refine OK.call (P := fun _ => True) ?_ (fun v _ => hp v)
  have n8 := hP.2.1
  obtain ⟨q, l, q1, q2, q3, q4, q5⟩ := hP.2.2 0 (by decide) (by lia)
  unfold f_Face_leastTop
  refine c_gRs h ht hr (by decide) (c_aRs h hP.1 (by decide) (by decide) (by lia) q1 (c_gI h q2 (by decide) (c_gRs h ht hr (by decide) (c_aL h hP.1 (by decide) (by lia) ?_))))
  exact OK.call (n_top_L h hP _ _ _ (by decide) (by lia) (fu_any (by lia) (by lia))) (fun q _ => OK.ret trivial)
theorem n_bot_L {p : Nat} (h : CW B w0 T V R I O N w) (hP : PIE T K V R O N p) : ∀ (n : Nat) (x1 x4 : Int32), 0 ≤ x4 → x4 ≤ N p → (N p - x4).toInt < n → OK (f_Face_greatestBottom_L21 w (some p) (N p) n x1 x4) (fun _ => True) := by
  obtain ⟨tp, n8, hq⟩ := hP
  intro n
  induction n with
  | zero => intro x1 x4 b0 b1 hn; exact (fu_zero b0 b1 hn).elim
  | succ n ih =>
    intro x1 x4 b0 b1 hn
    rw [f_Face_greatestBottom_L21]
    refine OK.ite (fun c => OK.ret trivial) (fun c => ?_)
    have y : x4 < N p := by clear ih hn hq; lia
    have fs := fu_step b0 y hn
    obtain ⟨q, l, q1, q2, q3, q4, q5⟩ := hq x4 b0 y
    refine c_aRs h tp (by decide) b0 y q1 (c_xo h q2 (by decide) (n_bottom h q2 q3 q4 ?_))
    exact ih _ _ (by clear ih hn fs hq; lia) (by clear ih hn fs hq; lia) fs
theorem n_bot {F : Int32 → Option β} {a p : Nat} (h : CW B w0 T V R I O N w) (ht : T a = 3) (hr : R a 1 = some p) (hP : PIE T K V R O N p) (hp : ∀ v, OK (F v) P) : OK ((f_Face_greatestBottom w a).bind F) P := by
  refine OK.call (P := fun _ => True) ?_ (fun v _ => hp v)
  have n8 := hP.2.1
  obtain ⟨q, l, q1, q2, q3, q4, q5⟩ := hP.2.2 0 (by decide) (by lia)
  unfold f_Face_greatestBottom
  refine c_gRs h ht hr (by decide) (c_aRs h hP.1 (by decide) (by decide) (by lia) q1 (c_xo h q2 (by decide) (n_bottom h q2 q3 q4 (c_gRs h ht hr (by decide) (c_aL h hP.1 (by decide) (by lia) ?_)))))
  exact OK.call (n_bot_L h hP _ _ _ (by decide) (by lia) (fu_any (by lia) (by lia))) (fun q _ => OK.ret trivial)
theorem n_seen_L {p : Nat} {x1 x3 : Int32} (h : CW B w0 T V R I O N w) (hP : PIE T K V R O N p) : ∀ (n : Nat) (x6 : Int32), 0 ≤ x6 → x6 ≤ N p → (N p - x6).toInt < n → OK (f_Face_greySeen_L31 w x1 x3 (some p) (N p) n x6) (fun q => q.1 = 0 ∨ q.1 = 1) := by
  obtain ⟨tp, n8, hq⟩ := hP
  intro n
  induction n with
  | zero => intro x4 b0 b1 hn; exact (fu_zero b0 b1 hn).elim
  | succ n ih =>
    intro x4 b0 b1 hn
    rw [f_Face_greySeen_L31]
    refine OK.ite (fun c => OK.ret (Or.inl rfl)) (fun c => ?_)
    have y : x4 < N p := by clear ih hn hq; lia
    have fs := fu_step b0 y hn
    obtain ⟨q, l, q1, q2, q3, q4, q5⟩ := hq x4 b0 y
    refine c_aRs h tp (by decide) b0 y q1 (c_gI h q2 (by decide) (c_gI h q2 (by decide) (c_xo h q2 (by decide) (n_greyShown h q2 q3 q4 q5 (fun v _ => ?_)))))
    exact OK.ite (fun _ => ih _ (by clear ih hn fs hq; lia) (by clear ih hn fs hq; lia) fs) (fun _ => OK.ret (Or.inr rfl))
theorem n_seen {F : Int32 → Option β} {a p : Nat} {x y : Int32} (h : CW B w0 T V R I O N w) (ht : T a = 3) (hr : R a 1 = some p) (hP : PIE T K V R O N p) (hp : ∀ v, OK (F v) P) : OK ((f_Face_greySeen w a x y).bind F) P := by
  refine OK.call (P := fun _ => True) ?_ (fun v _ => hp v)
  have n8 := hP.2.1
  unfold f_Face_greySeen
  refine OK.ite (fun _ => OK.ret trivial) (fun _ => OK.ite (fun _ => ?_) (fun _ => OK.ret trivial))
  refine c_xo h ht (by decide) (n_top h ht hr hP (fun v => c_gRs h ht hr (by decide) (c_aL h hP.1 (by decide) (by lia) ?_)))
  refine OK.call (n_seen_L h hP _ _ (by decide) (by lia) (fu_any (by lia) (by lia))) (fun q hq => ?_)
  rcases hq with e | e
  · exact OK.ifP e (OK.ret trivial)
  · exact OK.ifN (by rw [e]; decide) (OK.ifP e (OK.ret trivial))
theorem n_bal_L {p : Nat} {x1 : Int32} (h : CW B w0 T V R I O N w) (hP : PIE T K V R O N p) : ∀ (n : Nat) (x6 : Int32), 0 ≤ x6 → x6 ≤ N p → (N p - x6).toInt < n → OK (f_Face_isBalanced_L16 w x1 (some p) (N p) n x6) (fun q => q.1 = 0 ∨ q.1 = 1) := by
  obtain ⟨tp, n8, hq⟩ := hP
  intro n
  induction n with
  | zero => intro x4 b0 b1 hn; exact (fu_zero b0 b1 hn).elim
  | succ n ih =>
    intro x4 b0 b1 hn
    rw [f_Face_isBalanced_L16]
    refine OK.ite (fun c => OK.ret (Or.inl rfl)) (fun c => ?_)
    have y : x4 < N p := by clear ih hn hq; lia
    have fs := fu_step b0 y hn
    obtain ⟨q, l, q1, q2, q3, q4, q5⟩ := hq x4 b0 y
    refine c_aRs h tp (by decide) b0 y q1 (c_gI h q2 (by decide) (OK.ite (fun _ => OK.ret (Or.inr rfl)) (fun _ => c_gI h q2 (by decide) (c_xo h q2 (by decide) (n_end h q2 q3 q4 ?_)))))
    exact OK.ite (fun _ => OK.ret (Or.inr rfl)) (fun _ => ih _ (by clear ih hn fs hq; lia) (by clear ih hn fs hq; lia) fs)
theorem n_bal {F : Int32 → Option β} {a p : Nat} (h : CW B w0 T V R I O N w) (ht : T a = 3) (hr : R a 1 = some p) (hP : PIE T K V R O N p) (hp : ∀ v, v = 0 ∨ v = 1 → OK (F v) P) : OK ((f_Face_isBalanced w a).bind F) P := by
  refine OK.call (P := fun v => v = 0 ∨ v = 1) ?_ (fun v e => hp v e)
  have n8 := hP.2.1
  unfold f_Face_isBalanced
  refine c_xo h ht (by decide) (n_size h ht hr hP (fun v => c_gRs h ht hr (by decide) (c_aL h hP.1 (by decide) (by lia) ?_)))
  refine OK.call (n_bal_L h hP _ _ (by decide) (by lia) (fu_any (by lia) (by lia))) (fun q hq => ?_)
  rcases hq with e | e
  · exact OK.ifP e (OK.ret (Or.inl rfl))
  · exact OK.ifN (by rw [e]; decide) (OK.ifP e (OK.ret (Or.inr rfl)))
end CP3
