/-! the class: what is told (no new cells) -/
section CP7
variable {B : Nat} {w0 : Mp} {T K : Nat → Nat} {V V' : Nat → Nat → Int32} {R : Nat → Nat → Option Nat} {I : Nat → Int32 → Int32} {O : Nat → Int32 → Option Nat} {N : Nat → Int32} {w : Mp} {β : Type} {P : β → Prop}
theorem LOK_V {a : Nat} (h3 : V' a 3 = V a 3) (h4 : V' a 4 = V a 4) (h : LOK T K V R N a) : LOK T K V' R N a := by
  unfold LOK at h ⊢
  rw [h3, h4]
  exact h
theorem CI_V (hC : CI B T K V R O N) (h1 : ∀ a j, T a = 1 → j < 6 → V' a j = V a j) (h3 : ∀ a, T a = 3 → V' a 0 = V a 0) (hB1 : V' B 1 = V B 1) (hB3 : V' B 3 = V B 3) (hW : 0 ≤ V' (B + 3) 1 ∧ V' (B + 3) 1 ≤ 8) : CI B T K V' R O N := by
  obtain ⟨c1, c2, c3, c4, c5, c6, c7⟩ := hC
  refine ⟨c1, fun a ha => LOK_V (h1 a 3 ha (by decide)) (h1 a 4 ha (by decide)) (c2 a ha), c3, fun a ha => ?_, ?_, ?_, hW⟩
  · have := c4 a ha
    unfold FOK at this ⊢
    rw [h3 a ha]
    exact this
  · rw [hB1]
    refine ⟨c5.1, fun i i0 i1 => ?_⟩
    obtain ⟨a, e, ta, va⟩ := c5.2 i i0 i1
    exact ⟨a, e, ta, by rw [h1 a 0 ta (by decide)]; exact va⟩
  · rw [hB3]
    exact c6
theorem vupV {a k b j : Nat} {x : Int32} (h : b ≠ a ∨ j ≠ k) : va_up V a (up (V a) k x) b j = V b j := by
  by_cases e : b = a
  · subst e
    rw [vup_s]
    rcases h with h | h
    · exact absurd rfl h
    · exact if_neg h
  · rw [vup_n e]
theorem vupVs {a k : Nat} {x : Int32} : va_up V a (up (V a) k x) a k = x := by
  rw [vup_s]
  exact if_pos rfl
/-- a leaf's order or use, or a planner's plan flag: the state stays good -/
theorem CI_up {a k : Nat} {x : Int32} (hC : CI B T K V R O N) (h : (T a = 1 ∧ 6 ≤ k) ∨ (T a = 2) ∨ (a = B + 3 ∧ k ≠ 1)) : CI B T K (va_up V a (up (V a) k x)) R O N := by
  have t0 := hC.1.1.1
  have t3 := hC.1.1.2.2.2.1
  refine CI_V hC (fun b j tb jb => vupV ?_) (fun b tb => vupV ?_) (vupV ?_) (vupV ?_) ?_
  · rcases h with h | h | h
    · right; omega
    · left; intro e; rw [e, h] at tb; omega
    · left; intro e; rw [e, h.1, t3] at tb; omega
  · left; intro e
    rcases h with h | h | h
    · rw [e, h.1] at tb; omega
    · rw [e, h] at tb; omega
    · rw [e, h.1, t3] at tb; omega
  · left; intro e
    rcases h with h | h | h
    · rw [← e, t0] at h; omega
    · rw [← e, t0] at h; omega
    · omega
  · left; intro e
    rcases h with h | h | h
    · rw [← e, t0] at h; omega
    · rw [← e, t0] at h; omega
    · omega
  · rw [vupV]
    · exact hC.2.2.2.2.2.2
    · rcases h with h | h | h
      · left; intro e; rw [← e, t3] at h; omega
      · left; intro e; rw [← e, t3] at h; omega
      · right; exact h.2.symm
theorem n_forget {F : Unit × Mp → Option β} (h : CW B w0 T V R I O N w) (t3 : T (B + 3) = 4) (hp : ∀ w', CW B w0 T (va_up V (B + 3) (up (V (B + 3)) 2 0)) R I O N w' → OK (F ((), w')) P) : OK ((f_Plan_forgetPlan w (B + 3)).bind F) P := by
  unfold f_Plan_forgetPlan
  exact OK.bind (c_pI h t3 (by decide) (fun w' h' => OK.ret (hp w' h')))
theorem n_paint {F : Int32 × Mp → Option β} {a g : Nat} {x y v : Int32} (h : CW B w0 T V R I O N w) (ht : T a = 1) (hl : hld V a x y) (l1 : V a 3 ≤ 12) (l2 : V a 4 ≤ 12) (l3 : R a 5 = some g) (l4 : T g = 5) (l5 : N g = V a 3 * V a 4) (hp : ∀ w', CW B w0 T V R (va_up I g (fun z => if z = y * V a 3 + x then v else I g z)) O N w' → OK (F (if I g (y * V a 3 + x) = v then 0 else 1, w')) P) : OK ((f_Leaf_paint w a x y v).bind F) P := by
  have z := ar_g hl.1 hl.2.1 hl.2.2.1 hl.2.2.2 l1 l2
  unfold f_Leaf_paint
  refine OK.bind (c_gI h ht (by decide) (c_gRs h ht l3 (by decide) (c_aI h l4 z.1 (by rw [l5]; exact z.2) (OK.J1 ?_))))
  refine OK.ite (fun c => ?_) (fun c => ?_)
  · refine c_gRs h ht l3 (by decide) (c_sI h l4 z.1 (by rw [l5]; exact z.2) (fun w' h' => OK.ifP rfl (OK.ret ?_)))
    have := hp w' h'
    rw [if_pos c] at this
    exact this
  · refine c_gRs h ht l3 (by decide) (c_sI h l4 z.1 (by rw [l5]; exact z.2) (fun w' h' => OK.ifP rfl (OK.ret ?_)))
    have := hp w' h'
    rw [if_neg c] at this
    exact this
theorem n_addWanted {F : Unit × Mp → Option β} {x : Int32} (h : CW B w0 T V R I O N w) (hS : STc B T K R N) (b0 : 0 ≤ V (B + 3) 1) (b1 : V (B + 3) 1 < 8) (hp : ∀ w' V', CW B w0 T V' R (va_up I (B + 4) (fun z => if z = V (B + 3) 1 then x else I (B + 4) z)) O N w' → V' (B + 3) 1 = V (B + 3) 1 + 1 → (∀ a j, a ≠ B + 3 → V' a j = V a j) → OK (F ((), w')) P) : OK ((f_Plan_addWanted w (B + 3) x).bind F) P := by
  obtain ⟨⟨t0, t1, t2, t3, t4, t5, t6, t10⟩, ⟨m1, m2, m4, m5, m6, m10⟩, ⟨r0, r2, r4, r5, p0, p3, p4⟩, -, -⟩ := hS
  unfold f_Plan_addWanted
  refine OK.bind (c_gRs h t3 p0 (by decide) (c_gI h t3 (by decide) (c_sI h t4 b0 (by rw [m4]; exact b1) (fun w1 h1 => c_gI h1 t3 (by decide) (c_pI h1 t3 (by decide) (fun w2 h2 => c_pI h2 t3 (by decide) (fun w3 h3 => OK.ret (hp w3 _ h3 ?_ (fun a j ha => ?_)))))))))
  · rw [vupV (Or.inr (by decide)), vupVs]
  · rw [vupV (Or.inl ha), vupV (Or.inl ha)]
theorem n_dropWanted {F : Unit × Mp → Option β} (h : CW B w0 T V R I O N w) (t3 : T (B + 3) = 4) (hp : ∀ w' V', CW B w0 T V' R I O N w' → V' (B + 3) 1 = 0 → (∀ a j, a ≠ B + 3 → V' a j = V a j) → OK (F ((), w')) P) : OK ((f_Plan_dropWanted w (B + 3)).bind F) P := by
  unfold f_Plan_dropWanted
  refine OK.bind (c_pI h t3 (by decide) (fun w1 h1 => c_pI h1 t3 (by decide) (fun w2 h2 => OK.ret (hp w2 _ h2 ?_ (fun a j ha => ?_)))))
  · rw [vupV (Or.inr (by decide)), vupVs]
  · rw [vupV (Or.inl ha), vupV (Or.inl ha)]
/-- the leaf of the k-th piece of an array of pieces -/
def lfp (R : Nat → Nat → Option Nat) (O : Nat → Int32 → Option Nat) (p : Nat) (k : Int32) : Nat := (R (la (O p) k) 0).getD 0
/-- the leaves of the first m pieces are marked x, nothing else is changed -/
def MK (T : Nat → Nat) (R : Nat → Nat → Option Nat) (O : Nat → Int32 → Option Nat) (p : Nat) (x m : Int32) (V V' : Nat → Nat → Int32) : Prop := (∀ a j, T a ≠ 1 ∨ j ≠ 7 → V' a j = V a j) ∧ (∀ k, 0 ≤ k → k < m → V' (lfp R O p k) 7 = x) ∧ (∀ a, (∀ k, 0 ≤ k → k < m → lfp R O p k ≠ a) → V' a 7 = V a 7)
theorem n_mark_L {p : Nat} {x : Int32} (hx : x = 0 ∨ x = 1) (hP : PIE T K V R O N p) : ∀ (n : Nat) (k : Int32) (V' : Nat → Nat → Int32) (w : Mp), CW B w0 T V' R I O N w → 0 ≤ k → k ≤ N p → (N p - k).toInt < n → MK T R O p x k V V' → OK (f_Face_markUsed_L11 x (some p) (N p) n k w) (fun q => ∃ V', CW B w0 T V' R I O N q.2.2 ∧ MK T R O p x (N p) V V') := by
  obtain ⟨tp, n8, hq⟩ := hP
  intro n
  induction n with
  | zero => intro k V' w _ b0 b1 hn; exact (fu_zero b0 b1 hn).elim
  | succ n ih =>
    intro k V' w h b0 b1 hn hm
    rw [f_Face_markUsed_L11]
    refine OK.ite (fun c => ?_) (fun c => ?_)
    · have e : k = N p := by clear ih hn hq hm; lia
      rw [e] at hm
      exact OK.ret ⟨V', h, hm⟩
    · have y : k < N p := by clear ih hn hq hm; lia
      have fs := fu_step b0 y hn
      have nx : 0 ≤ k + 1 ∧ k + 1 ≤ N p := by clear ih hn hq hm fs; constructor <;> lia
      have k1 : ∀ j, j < k + 1 → j < k ∨ j = k := fun j hj => by clear ih hn hq hm fs; lia
      have k2 : ∀ j, j < k → j < k + 1 := fun j hj => by clear ih hn hq hm fs; lia
      have k3 : k < k + 1 := by clear ih hn hq hm fs; lia
      obtain ⟨q, l, q1, q2, q3, q4, q5⟩ := hq k b0 y
      have el : lfp R O p k = l := by unfold lfp la; rw [q1]; show (R q 0).getD 0 = l; rw [q3]; rfl
      refine c_aRs h tp (by decide) b0 y q1 (c_gRs h q2 q3 (by decide) (OK.ifP hx (c_pI h q4 (by decide) (fun w1 h1 => ih _ _ w1 h1 nx.1 nx.2 fs ⟨fun a j ha => ?_, fun j j0 j1 => ?_, fun a ha => ?_⟩))))
      · rw [vupV]
        · exact hm.1 a j ha
        · rcases ha with z | z
          · left; intro e; rw [e, q4] at z; exact z rfl
          · right; exact z
      · by_cases e : lfp R O p j = l
        · rw [e]; exact vupVs
        · rw [vupV (Or.inl e)]
          rcases k1 j j1 with z | z
          · exact hm.2.1 j j0 z
          · rw [z] at e; exact absurd el e
      · have e : a ≠ l := fun z => ha k b0 k3 (by rw [z]; exact el)
        rw [vupV (Or.inl e)]
        exact hm.2.2 a (fun j j0 j1 => ha j j0 (k2 j j1))
theorem n_mark {F : Unit × Mp → Option β} {a p : Nat} {x : Int32} (h : CW B w0 T V R I O N w) (ht : T a = 3) (hr : R a 1 = some p) (hP : PIE T K V R O N p) (hx : x = 0 ∨ x = 1) (hp : ∀ w' V', CW B w0 T V' R I O N w' → MK T R O p x (N p) V V' → OK (F ((), w')) P) : OK ((f_Face_markUsed w a x).bind F) P := by
  have n8 := hP.2.1
  unfold f_Face_markUsed
  refine OK.bind (c_gRs h ht hr (by decide) (c_aL h hP.1 (by decide) (by lia) ?_))
  exact OK.call (n_mark_L hx hP _ _ V w h (by decide) (by lia) (fu_any (by lia) (by lia)) ⟨fun _ _ _ => rfl, fun k k0 k1 => by lia, fun _ _ => rfl⟩) (fun q ⟨V', h', hm⟩ => OK.ret (hp _ V' h' hm))
theorem CI_MK {p : Nat} {x m : Int32} (hC : CI B T K V R O N) (hm : MK T R O p x m V V') : CI B T K V' R O N := by
  have t0 := hC.1.1.1
  have t3 := hC.1.1.2.2.2.1
  refine CI_V hC (fun a j ta hj => hm.1 a j (Or.inr (by omega))) (fun a ta => hm.1 a 0 (Or.inr (by decide))) (hm.1 B 1 (Or.inr (by decide))) (hm.1 B 3 (Or.inr (by decide))) ?_
  rw [hm.1 (B + 3) 1 (Or.inr (by decide))]
  exact hC.2.2.2.2.2.2
/-- only pieces' places are changed -/
def PL (T : Nat → Nat) (V V' : Nat → Nat → Int32) : Prop := ∀ a j, T a ≠ 2 ∨ j < 3 → V' a j = V a j
theorem PL_up {a k : Nat} {x : Int32} (h : PL T V V') (ta : T a = 2) (hk : 3 ≤ k) : PL T V (va_up V' a (up (V' a) k x)) := fun b j hb => by
  rw [vupV]
  · exact h b j hb
  · rcases hb with z | z
    · left; intro e; rw [e, ta] at z; exact z rfl
    · right; omega
theorem PIE_PL {p : Nat} (h : PL T V V') (hP : PIE T K V R O N p) : PIE T K V' R O N p := by
  refine ⟨hP.1, hP.2.1, fun k k0 k1 => ?_⟩
  obtain ⟨q, l, q1, q2, q3, q4, q5⟩ := hP.2.2 k k0 k1
  exact ⟨q, l, q1, q2, q3, q4, LOK_V (h l 3 (Or.inl (by rw [q4]; decide))) (h l 4 (Or.inl (by rw [q4]; decide))) q5⟩
theorem CI_PL (hC : CI B T K V R O N) (h : PL T V V') : CI B T K V' R O N := by
  have t0 := hC.1.1.1
  have t3 := hC.1.1.2.2.2.1
  refine CI_V hC (fun a j ta _ => h a j (Or.inl (by rw [ta]; decide))) (fun a ta => h a 0 (Or.inl (by rw [ta]; decide))) (h B 1 (Or.inl (by rw [t0]; decide))) (h B 3 (Or.inl (by rw [t0]; decide))) ?_
  rw [h (B + 3) 1 (Or.inl (by rw [t3]; decide))]
  exact hC.2.2.2.2.2.2
theorem n_lay_L {a p : Nat} (ht : T a = 3) (hr : R a 1 = some p) (hP : PIE T K V R O N p) (v4 : V a 0 = 3 → N p = 4) : ∀ (n : Nat) (k : Int32) (V' : Nat → Nat → Int32) (w : Mp), CW B w0 T V' R I O N w → 1 ≤ k → k ≤ N p → (N p - k).toInt < n → PL T V V' → OK (f_Face_layOut_L2 a n k w) (fun q => ∃ V', CW B w0 T V' R I O N q.2.2 ∧ PL T V V') := by
  have n8 := hP.2.1
  have tp := hP.1
  intro n
  induction n with
  | zero => intro k V' w _ b0 b1 hn; exact (fu_zero (by clear hn; lia) b1 hn).elim
  | succ n ih =>
    intro k V' w h b0 b1 hn hm
    rw [f_Face_layOut_L2]
    refine c_gRs h ht hr (by decide) (c_aL h tp (by decide) (by clear hn ih; lia) ?_)
    refine OK.ite (fun c => OK.ret ⟨V', h, hm⟩) (fun c => ?_)
    have y : 0 ≤ k ∧ k < N p ∧ 0 ≤ k - 1 ∧ k - 1 < N p ∧ k - 1 < N p - 1 ∧ 0 < N p := by clear hn ih; refine ⟨by lia, by lia, by lia, by lia, by lia, by lia⟩
    have fs := fu_step y.1 y.2.1 hn
    have nx : 1 ≤ k + 1 ∧ k + 1 ≤ N p := by clear hn ih fs; constructor <;> lia
    obtain ⟨q, l, q1, q2, q3, q4, q5⟩ := hP.2.2 k y.1 y.2.1
    obtain ⟨q', l', q1', q2', q3', q4', q5'⟩ := hP.2.2 (k - 1) y.2.2.1 y.2.2.2.1
    obtain ⟨p0, l0, p1, p2, p3, p4, p5⟩ := hP.2.2 0 (by decide) y.2.2.2.2.2
    have va : V' a 0 = V a 0 := hm a 0 (Or.inl (by rw [ht]; decide))
    refine c_gI h ht (by decide) ?_
    refine OK.ite (fun d => ?_) (fun d => ?_)
    · refine c_gRs h ht hr (by decide) (c_aRs h tp (by decide) y.1 y.2.1 q1 (OK.J1 ?_))
      have go : ∀ x, OK ((pF w (some q) 2 3 (.int x)).bind fun w_23 => (gR w_23 (some a) 3 1).bind fun v_24 => (aR w_23 v_24 3 k).bind fun v_25 => if k < (2 : Int32) then ((pF w_23 v_25 2 4 (.int (0 : Int32))).bind fun w_26 => f_Face_layOut_L2 a n (k + 1) w_26) else ((gR w_23 (some a) 3 1).bind fun v_27 => (aR w_23 v_27 3 (0 : Int32)).bind fun v_28 => (xo w_23 v_28 2).bind fun b_30 => (f_Piece_bottom w_23 b_30).bind fun q_29 => (pF w_23 v_25 2 4 (.int q_29)).bind fun w_31 => f_Face_layOut_L2 a n (k + 1) w_31)) (fun q => ∃ V', CW B w0 T V' R I O N q.2.2 ∧ PL T V V') := fun x => by
        refine c_pI h q2 (by decide) (fun w1 h1 => c_gRs h1 ht hr (by decide) (c_aRs h1 tp (by decide) y.1 y.2.1 q1 ?_))
        have m1 := PL_up (x := x) hm q2 (show 3 ≤ 3 by decide)
        refine OK.ite (fun _ => c_pI h1 q2 (by decide) (fun w2 h2 => ih _ _ w2 h2 nx.1 nx.2 fs (PL_up m1 q2 (by decide)))) (fun _ => ?_)
        exact c_gRs h1 ht hr (by decide) (c_aRs h1 tp (by decide) (by decide) y.2.2.2.2.2 p1 (c_xo h1 p2 (by decide) (n_bottom h1 p2 p3 p4 (c_pI h1 q2 (by decide) (fun w2 h2 => ih _ _ w2 h2 nx.1 nx.2 fs (PL_up m1 q2 (by decide)))))))
      refine OK.ite (fun _ => ?_) (fun _ => go _)
      exact c_gRs h ht hr (by decide) (c_aRs h tp (by decide) (by decide) y.2.2.2.2.2 p1 (c_xo h p2 (by decide) (n_end h p2 p3 p4 (go _))))
    · refine c_gRs h ht hr (by decide) (c_aRs h tp (by decide) y.1 y.2.1 q1 (c_gRs h ht hr (by decide) (c_aRs h tp (by decide) y.2.2.1 y.2.2.2.1 q1' (c_xo h q2' (by decide) (n_end h q2' q3' q4' (c_pI h q2 (by decide) (fun w1 h1 => ?_)))))))
      have m1 := PL_up (x := V' q' 3 + V' l' 3) hm q2 (show 3 ≤ 3 by decide)
      have va1 := m1 a 0 (Or.inl (by rw [ht]; decide))
      refine c_gRs h1 ht hr (by decide) (c_aRs h1 tp (by decide) y.1 y.2.1 q1 (c_gRs h1 ht hr (by decide) (c_aRs h1 tp (by decide) y.2.2.1 y.2.2.2.1 q1' (c_gI h1 q2' (by decide) (c_xo h1 ht (by decide) ?_)))))
      refine n_best h1 ht hr (PIE_PL m1 hP) (fun z => v4 (by rw [← va1]; exact z)) y.2.2.1 ?_ (fun v => c_pI h1 q2 (by decide) (fun w2 h2 => ih _ _ w2 h2 nx.1 nx.2 fs (PL_up m1 q2 (by decide))))
      unfold sms
      rw [va1, if_neg (by rw [← va]; exact d)]
      exact y.2.2.2.2.1
theorem n_lay {F : Unit × Mp → Option β} {a p : Nat} (h : CW B w0 T V R I O N w) (ht : T a = 3) (hr : R a 1 = some p) (hP : PIE T K V R O N p) (v4 : V a 0 = 3 → N p = 4) (hp : ∀ w' V', CW B w0 T V' R I O N w' → PL T V V' → OK (F ((), w')) P) : OK ((f_Face_layOut w a).bind F) P := by
  have n8 := hP.2.1
  unfold f_Face_layOut
  have z : (N p - 0).toInt < (100000 : Nat) := fu_any (by lia) (by lia)
  have fn : (N p - 1).toInt < (100000 : Nat) := by
    have := fu_step (i := 0) (N := N p) (n := 100000) (by decide) (by clear z; lia) (by omega)
    exact this
  refine OK.bind (OK.call (n_lay_L ht hr hP v4 _ _ V w h (by decide) (by clear z fn; lia) fn (fun _ _ _ => rfl)) (fun q ⟨V', h', hm⟩ => OK.ret (hp _ V' h' hm)))
end CP7
