/-! the class: pieces and faces, read -/
section CP2
variable {B : Nat} {w0 : Mp} {T K : Nat → Nat} {V : Nat → Nat → Int32} {R : Nat → Nat → Option Nat} {I : Nat → Int32 → Int32} {O : Nat → Int32 → Option Nat} {N : Nat → Int32} {w : Mp} {β : Type} {P : β → Prop}
theorem n_greyOrNone {F : Int32 → Option β} {a : Nat} {x y : Int32} (h : CW B w0 T V R I O N w) (ht : T a = 1) (hL : LOK T K V R N a) (hp : ∀ v, (∃ g, R a 5 = some g ∧ ((hld V a x y ∧ v = I g (y * V a 3 + x)) ∨ (¬ hld V a x y ∧ v = -1))) → OK (F v) P) : OK ((f_Leaf_greyOrNone w a x y).bind F) P := by
  obtain ⟨l1, l2, g, l3, l4, l5, l6⟩ := hL
  refine OK.call (P := fun v => (∃ g, R a 5 = some g ∧ ((hld V a x y ∧ v = I g (y * V a 3 + x)) ∨ (¬ hld V a x y ∧ v = -1)))) ?_ hp
  unfold f_Leaf_greyOrNone
  refine c_xo h ht (by decide) ?_
  refine n_holds h ht (fun c => ?_) (fun c => ?_)
  · rw [if_neg (by decide)]
    have z := ar_g c.1 c.2.1 c.2.2.1 c.2.2.2 l1.2 l2.2
    refine c_gRs h ht l3 (by decide) (c_gI h ht (by decide) (c_aI h l4 z.1 (by rw [l5]; exact z.2) ?_))
    exact OK.ret ⟨g, l3, Or.inl ⟨c, rfl⟩⟩
  · rw [if_pos rfl]
    exact OK.ret ⟨g, l3, Or.inr ⟨c, rfl⟩⟩
theorem n_end {F : Int32 → Option β} {q l : Nat} (h : CW B w0 T V R I O N w) (ht : T q = 2) (hl : R q 0 = some l) (tl : T l = 1) (hp : OK (F (V q 3 + V l 3)) P) : OK ((f_Piece_end w q).bind F) P := by
  refine OK.call (P := fun v => v = V q 3 + V l 3) ?_ (fun v e => by rw [e]; exact hp)
  unfold f_Piece_end
  exact c_gI h ht (by decide) (c_gRs h ht hl (by decide) (c_gI h tl (by decide) (OK.ret rfl)))
theorem n_bottom {F : Int32 → Option β} {q l : Nat} (h : CW B w0 T V R I O N w) (ht : T q = 2) (hl : R q 0 = some l) (tl : T l = 1) (hp : OK (F (V q 4 + V l 4)) P) : OK ((f_Piece_bottom w q).bind F) P := by
  refine OK.call (P := fun v => v = V q 4 + V l 4) ?_ (fun v e => by rw [e]; exact hp)
  unfold f_Piece_bottom
  exact c_gI h ht (by decide) (c_gRs h ht hl (by decide) (c_gI h tl (by decide) (OK.ret rfl)))
/-- the grey that a piece shows -/
def shw (V : Nat → Nat → Int32) (R : Nat → Nat → Option Nat) (I : Nat → Int32 → Int32) (q l : Nat) (x y v : Int32) : Prop := ∃ g, R l 5 = some g ∧ ((hld V l (if V q 1 = 0 then x else V l 3 - 1 - x) (if V q 2 = 0 then y else V l 4 - 1 - y) ∧ v = I g ((if V q 2 = 0 then y else V l 4 - 1 - y) * V l 3 + (if V q 1 = 0 then x else V l 3 - 1 - x))) ∨ (¬ hld V l (if V q 1 = 0 then x else V l 3 - 1 - x) (if V q 2 = 0 then y else V l 4 - 1 - y) ∧ v = -1))
theorem n_greyShown {F : Int32 → Option β} {q l : Nat} {x y : Int32} (h : CW B w0 T V R I O N w) (ht : T q = 2) (hl : R q 0 = some l) (tl : T l = 1) (hL : LOK T K V R N l) (hp : ∀ v, shw V R I q l x y v → OK (F v) P) : OK ((f_Piece_greyShown w q x y).bind F) P := by
  refine OK.call (P := fun v => shw V R I q l x y v) ?_ hp
  unfold f_Piece_greyShown shw
  refine c_gI h ht (by decide) (OK.J1 ?_)
  refine OK.ite (fun c1 => ?_) (fun c1 => ?_)
  · rw [if_pos c1]
    refine c_gI h ht (by decide) (OK.J1 ?_)
    refine OK.ite (fun c2 => ?_) (fun c2 => ?_)
    · rw [if_pos c2]
      exact c_gRs h ht hl (by decide) (c_xo h tl (by decide) (n_greyOrNone h tl hL (fun v hv => OK.ret hv)))
    · rw [if_neg c2]
      exact c_gRs h ht hl (by decide) (c_gI h tl (by decide) (c_gRs h ht hl (by decide) (c_xo h tl (by decide) (n_greyOrNone h tl hL (fun v hv => OK.ret hv)))))
  · rw [if_neg c1]
    refine c_gRs h ht hl (by decide) (c_gI h tl (by decide) ?_)
    refine c_gI h ht (by decide) (OK.J1 ?_)
    refine OK.ite (fun c2 => ?_) (fun c2 => ?_)
    · rw [if_pos c2]
      exact c_gRs h ht hl (by decide) (c_xo h tl (by decide) (n_greyOrNone h tl hL (fun v hv => OK.ret hv)))
    · rw [if_neg c2]
      exact c_gRs h ht hl (by decide) (c_gI h tl (by decide) (c_gRs h ht hl (by decide) (c_xo h tl (by decide) (n_greyOrNone h tl hL (fun v hv => OK.ret hv)))))
theorem bool_01 {v : Int32} (h : v = 0 ∨ v = 1) : vp_nar .boolean v = v := by rcases h with rfl | rfl <;> rfl
theorem n_hasPiece {F : Int32 → Option β} {a p : Nat} {k : Int32} (h : CW B w0 T V R I O N w) (ht : T a = 3) (hr : R a 1 = some p) (tp : T p = tr 3) (n1 : 2 ≤ N p) (n2 : N p ≤ 8) (h1 : 0 ≤ k → k < N p → OK (F 1) P) (h2 : ¬ (0 ≤ k ∧ k < N p) → OK (F 0) P) : OK ((f_Face_hasPiece w a k).bind F) P := by
  refine OK.call (P := fun v => (0 ≤ k ∧ k < N p ∧ v = 1) ∨ (¬ (0 ≤ k ∧ k < N p) ∧ v = 0)) ?_ (fun v hv => ?_)
  · unfold f_Face_hasPiece
    refine c_gRs h ht hr (by decide) (c_aL h tp (by decide) (by lia) (n_isWithin (fun c1 c2 => ?_) (fun c => ?_)))
    · exact OK.ifP rfl (OK.ret (Or.inl ⟨c1, by lia, rfl⟩))
    · exact OK.ifP rfl (OK.ret (Or.inr ⟨fun z => c ⟨z.1, by lia⟩, rfl⟩))
  · rcases hv with ⟨a1, a2, rfl⟩ | ⟨a1, rfl⟩
    · exact h1 a1 a2
    · exact h2 a1
/-- how many seams -/
def sms (V : Nat → Nat → Int32) (N : Nat → Int32) (a p : Nat) : Int32 := if V a 0 = 3 then 2 else N p - 1
theorem n_hasSeam {F : Int32 → Option β} {a p : Nat} {k : Int32} (h : CW B w0 T V R I O N w) (ht : T a = 3) (hr : R a 1 = some p) (tp : T p = tr 3) (n1 : 2 ≤ N p) (n2 : N p ≤ 8) (h1 : 0 ≤ k → k < sms V N a p → OK (F 1) P) (h2 : ¬ (0 ≤ k ∧ k < sms V N a p) → OK (F 0) P) : OK ((f_Face_hasSeam w a k).bind F) P := by
  refine OK.call (P := fun v => (0 ≤ k ∧ k < sms V N a p ∧ v = 1) ∨ (¬ (0 ≤ k ∧ k < sms V N a p) ∧ v = 0)) ?_ (fun v hv => ?_)
  · unfold f_Face_hasSeam sms
    refine c_gI h ht (by decide) (OK.J1 ?_)
    refine OK.ite (fun c => ?_) (fun c => ?_)
    · rw [if_pos c]
      refine n_isWithin (fun c1 c2 => ?_) (fun c3 => ?_)
      · exact OK.ifP rfl (OK.ret (Or.inl ⟨c1, by lia, rfl⟩))
      · exact OK.ifP rfl (OK.ret (Or.inr ⟨fun z => c3 ⟨z.1, by lia⟩, rfl⟩))
    · rw [if_neg c]
      refine c_gRs h ht hr (by decide) (c_aL h tp (by decide) (by lia) (n_isWithin (fun c1 c2 => ?_) (fun c3 => ?_)))
      · exact OK.ifP rfl (OK.ret (Or.inl ⟨c1, by lia, rfl⟩))
      · exact OK.ifP rfl (OK.ret (Or.inr ⟨fun z => c3 ⟨z.1, by lia⟩, rfl⟩))
  · rcases hv with ⟨a1, a2, rfl⟩ | ⟨a1, rfl⟩
    · exact h1 a1 a2
    · exact h2 a1
/-- pieces of a face are there, each with its leaf -/
def PIE (T K : Nat → Nat) (V : Nat → Nat → Int32) (R : Nat → Nat → Option Nat) (O : Nat → Int32 → Option Nat) (N : Nat → Int32) (p : Nat) : Prop := T p = tr 3 ∧ (2 ≤ N p ∧ N p ≤ 8) ∧ ∀ k, 0 ≤ k → k < N p → ∃ q l, O p k = some q ∧ T q = 2 ∧ R q 0 = some l ∧ T l = 1 ∧ LOK T K V R N l
theorem CI.pie (hC : CI B T K V R O N) {a : Nat} (ht : T a = 3) : ∃ p, R a 1 = some p ∧ PIE T K V R O N p ∧ (0 ≤ V a 0 ∧ V a 0 ≤ 3) ∧ (V a 0 = 3 → N p = 4) := by
  obtain ⟨p, p1, p2, p3, p4, p5, p6⟩ := hC.2.2.2.1 a ht
  refine ⟨p, p1, ⟨p2, p3, fun k k0 k1 => ?_⟩, p4, p5⟩
  obtain ⟨q, q1, q2⟩ := p6 k k0 k1
  obtain ⟨l, l1, l2⟩ := hC.2.2.1 q q2
  exact ⟨q, l, q1, q2, l1, l2, hC.2.1 l l2⟩
theorem n_diff_L {q l q' l' : Nat} {d : Int32} (h : CW B w0 T V R I O N w) (t1 : T q = 2) (r1 : R q 0 = some l) (u1 : T l = 1) (L1 : LOK T K V R N l) (t2 : T q' = 2) (r2 : R q' 0 = some l') (u2 : T l' = 1) (L2 : LOK T K V R N l') : ∀ (n : Nat) (x6 x7 : Int32), 0 ≤ x7 → x7 ≤ 12 → (12 - x7).toInt < n → OK (f_Face_differenceAt_L40 w d (some q) (some q') n x6 x7) (fun _ => True) := by
  have b4 := L1.2.1
  intro n
  induction n with
  | zero => intro x6 x7 b0 b1 hn; exact (fu_zero b0 b1 hn).elim
  | succ n ih =>
    intro x6 x7 b0 b1 hn
    rw [f_Face_differenceAt_L40]
    refine c_gRs h t1 r1 (by decide) (c_gI h u1 (by decide) ?_)
    refine OK.ite (fun c => OK.ret trivial) (fun c => ?_)
    have x2 : x7 < 12 := by clear hn ih; lia
    have fs := fu_step b0 x2 hn
    have x3 : 0 ≤ x7 + 1 ∧ x7 + 1 ≤ 12 := by clear hn ih fs; constructor <;> lia
    refine c_gRs h t1 r1 (by decide) (c_gI h u1 (by decide) (c_xo h t1 (by decide) (n_greyShown h t1 r1 u1 L1 (fun v _ => c_xo h t2 (by decide) (n_greyShown h t2 r2 u2 L2 (fun v' _ => ?_))))))
    refine OK.ite (fun c1 => ih _ _ x3.1 x3.2 fs) (fun c1 => ih _ _ x3.1 x3.2 fs)
theorem n_diff {F : Int32 → Option β} {a p : Nat} {k d : Int32} (h : CW B w0 T V R I O N w) (ht : T a = 3) (hr : R a 1 = some p) (hP : PIE T K V R O N p) (v4 : V a 0 = 3 → N p = 4) (k0 : 0 ≤ k) (k1 : k < sms V N a p) (hp : ∀ v, OK (F v) P) : OK ((f_Face_differenceAt w a k d).bind F) P := by
  refine OK.call (P := fun _ => True) ?_ (fun v _ => hp v)
  obtain ⟨tp, n8, hq⟩ := hP
  unfold f_Face_differenceAt
  refine c_gI h ht (by decide) (OK.J1 ?_)
  have go : ∀ x, 0 ≤ x → x < N p - 1 → OK ((gR w (some a) 3 1).bind fun v_4 => (aR w v_4 3 x).bind fun v_5 => (gR w (some a) 3 1).bind fun v_6 => (aR w v_6 3 (x + (1 : Int32))).bind fun v_7 => (f_Face_differenceAt_L40 w d v_5 v_7 100000 (0 : Int32) (0 : Int32)).bind fun q_16 => some q_16.2.1) (fun _ => True) := fun x x0 x1 => by
    have y : x < N p ∧ 0 ≤ x + 1 ∧ x + 1 < N p := by clear hq; refine ⟨by lia, by lia, by lia⟩
    obtain ⟨q, l, q1, q2, q3, q4, q5⟩ := hq x x0 y.1
    obtain ⟨q', l', q1', q2', q3', q4', q5'⟩ := hq (x + 1) y.2.1 y.2.2
    refine c_gRs h ht hr (by decide) (c_aRs h tp (by decide) x0 y.1 q1 (c_gRs h ht hr (by decide) (c_aRs h tp (by decide) y.2.1 y.2.2 q1' ?_)))
    exact OK.call (n_diff_L h q2 q3 q4 q5 q2' q3' q4' q5' _ _ _ (by decide) (by decide) (by decide)) (fun q _ => OK.ret trivial)
  unfold sms at k1
  refine OK.ite (fun c => ?_) (fun c => ?_)
  · rw [if_pos c] at k1
    have := v4 c
    exact go _ (by clear hq go; lia) (by clear hq go; lia)
  · rw [if_neg c] at k1
    exact go _ k0 k1
end CP2
