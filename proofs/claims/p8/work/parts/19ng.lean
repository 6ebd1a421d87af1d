/-! the class: its planner's losses, and the plan kept -/
section CPg
variable {B : Nat} {w0 : Mp} {T K : Nat → Nat} {V : Nat → Nat → Int32} {R : Nat → Nat → Option Nat} {I : Nat → Int32 → Int32} {O : Nat → Int32 → Option Nat} {N : Nat → Int32} {w : Mp} {sz : Nat} {β : Type} {P : β → Prop} {e5 e6 e7 : Nat} {cnt : Int32}
theorem PC.sets (hP : PC B T K V R N e5 e6 e7 cnt) : 1 ≤ V (B + 3) 8 ∧ V (B + 3) 8 ≤ 256 := by
  have wb := hP.2.2.2.2.2.2.2.1
  rw [hP.2.2.2.2.2.2.2.2.1]
  exact al_b wb.1 wb.2
theorem PC.ix {a x : Int32} (hP : PC B T K V R N e5 e6 e7 cnt) (a0 : 0 ≤ a) (a1 : a ≤ cnt) (x0 : 0 ≤ x) (x1 : x < V (B + 3) 8) : 0 ≤ a * V (B + 3) 8 + x ∧ a * V (B + 3) 8 + x < N e7 := by
  have S := hP.sets
  have cb := hP.2.2.2.2.2.2.2.2.2
  have n7 := hP.2.2.2.2.2.2.1.2.2.1
  have z := ar_sx a0 a1 cb.2 x0 x1 S.2
  exact ⟨z.1, Int32.lt_of_lt_of_le z.2 n7⟩
theorem n_ll_L2 (hP : PC B T K V R N e5 e6 e7 cnt) : ∀ (n : Nat) (x : Int32) (I' : Nat → Int32 → Int32) (w : Mp), CW B w0 T V R I' O N w → 0 ≤ x → x ≤ V (B + 3) 8 → (V (B + 3) 8 - x).toInt < n → (∀ a, a ≠ e7 → I' a = I a) → OK (f_Plan_findLeastLoss_L2 (B + 3) cnt n x w) (fun q => ∃ I', CW B w0 T V R I' O N q.2.2 ∧ (∀ a, a ≠ e7 → I' a = I a)) := by
  obtain ⟨t3, -, -, -, -, -, ⟨r7, u7, n7, q7⟩, wb, sb, cb⟩ := id hP
  have S := hP.sets
  intro n
  induction n with
  | zero => intro x I' w _ b0 b1 hn; exact (fu_zero b0 b1 hn).elim
  | succ n ih =>
    intro x I' w h b0 b1 hn hi
    rw [f_Plan_findLeastLoss_L2]
    refine c_gI h t3 (by decide) (OK.ite (fun c => OK.ret ⟨I', h, hi⟩) (fun c => ?_))
    have y : x < V (B + 3) 8 := by clear hn ih sb n7; lia
    have fs := fu_step b0 y hn
    have nx : 0 ≤ x + 1 ∧ x + 1 ≤ V (B + 3) 8 := by clear hn ih sb n7 fs; constructor <;> lia
    have ix := hP.ix cb.1 (Int32.le_refl _) b0 y
    refine c_gRs h t3 r7 (by decide) (c_gI h t3 (by decide) (c_gI h t3 (by decide) (OK.ite (fun _ => ?_) (fun _ => ?_))))
    · exact c_sI h u7 ix.1 ix.2 (fun w1 h1 => ih _ _ w1 h1 nx.1 nx.2 fs (fun a ha => by rw [vup_n ha]; exact hi a ha))
    · exact c_sI h u7 ix.1 ix.2 (fun w1 h1 => ih _ _ w1 h1 nx.1 nx.2 fs (fun a ha => by rw [vup_n ha]; exact hi a ha))
theorem n_ll_L55 {st : Int32} (hP : PC B T K V R N e5 e6 e7 cnt) (s0 : 0 ≤ st) (s1 : st < cnt) : ∀ (n : Nat) (x : Int32) (I' : Nat → Int32 → Int32) (w : Mp), CW B w0 T V R I' O N w → 0 ≤ x → x ≤ V (B + 3) 8 → (V (B + 3) 8 - x).toInt < n → (∀ a, a ≠ e7 → I' a = I a) → OK (f_Plan_findLeastLoss_L55 (B + 3) st n x w) (fun q => ∃ I', CW B w0 T V R I' O N q.2.2 ∧ (∀ a, a ≠ e7 → I' a = I a)) := by
  obtain ⟨t3, -, -, -, -, -, ⟨r7, u7, n7, q7⟩, wb, sb, cb⟩ := id hP
  have S := hP.sets
  have sn : 0 ≤ st + 1 ∧ st + 1 ≤ cnt ∧ st ≤ cnt := by clear sb n7; refine ⟨by lia, by lia, by lia⟩
  intro n
  induction n with
  | zero => intro x I' w _ b0 b1 hn; exact (fu_zero b0 b1 hn).elim
  | succ n ih =>
    intro x I' w h b0 b1 hn hi
    rw [f_Plan_findLeastLoss_L55]
    refine c_gI h t3 (by decide) (OK.ite (fun c => OK.ret ⟨I', h, hi⟩) (fun c => ?_))
    have y : x < V (B + 3) 8 := by clear hn ih sb n7; lia
    have fs := fu_step b0 y hn
    have nx : 0 ≤ x + 1 ∧ x + 1 ≤ V (B + 3) 8 := by clear hn ih sb n7 fs; constructor <;> lia
    have ix := hP.ix sn.1 sn.2.1 b0 y
    have iy := hP.ix s0 sn.2.2 b0 y
    exact c_gRs h t3 r7 (by decide) (c_gI h t3 (by decide) (c_gRs h t3 r7 (by decide) (c_gI h t3 (by decide) (c_aI h u7 ix.1 ix.2 (c_sI h u7 iy.1 iy.2 (fun w1 h1 => ih _ _ w1 h1 nx.1 nx.2 fs (fun a ha => by rw [vup_n ha]; exact hi a ha)))))))
theorem n_low_L {st f en lo : Int32} (hP : PC B T K V R N e5 e6 e7 cnt) (s0 : 0 ≤ st) (s1 : st < cnt) (f0 : 0 ≤ f) (f1 : f < V (B + 3) 1) (n0 : 0 ≤ en) (n1 : en ≤ cnt) : ∀ (n : Nat) (x : Int32) (I' : Nat → Int32 → Int32) (w : Mp), CW B w0 T V R I' O N w → 0 ≤ x → x ≤ V (B + 3) 8 → (V (B + 3) 8 - x).toInt < n → (∀ a, a ≠ e7 → I' a = I a) → OK (f_Plan_lowerByFace_L39 (B + 3) st ((1 : Int32) <<< (f &&& 31)) en lo n x w) (fun q => ∃ I', CW B w0 T V R I' O N q.2.2 ∧ (∀ a, a ≠ e7 → I' a = I a)) := by
  obtain ⟨t3, -, -, -, -, -, ⟨r7, u7, n7, q7⟩, wb, sb, cb⟩ := id hP
  have S := hP.sets
  have sn : st ≤ cnt := by clear sb n7; lia
  intro n
  induction n with
  | zero => intro x I' w _ b0 b1 hn; exact (fu_zero b0 b1 hn).elim
  | succ n ih =>
    intro x I' w h b0 b1 hn hi
    rw [f_Plan_lowerByFace_L39]
    refine c_gI h t3 (by decide) (OK.ite (fun c => OK.ret ⟨I', h, hi⟩) (fun c => ?_))
    have y : x < V (B + 3) 8 := by clear hn ih sb n7; lia
    have fs := fu_step b0 y hn
    have nx : 0 ≤ x + 1 ∧ x + 1 ≤ V (B + 3) 8 := by clear hn ih sb n7 fs; constructor <;> lia
    refine OK.ite (fun _ => ?_) (fun _ => ih _ _ w h nx.1 nx.2 fs hi)
    have o := or_l wb.1 wb.2 b0 (by rw [← sb]; exact y) f0 f1
    rw [← sb] at o
    have ix := hP.ix n0 n1 o.1 o.2
    have iy := hP.ix s0 sn b0 y
    exact c_gRs h t3 r7 (by decide) (c_gI h t3 (by decide) (c_aI h u7 ix.1 ix.2 (c_gRs h t3 r7 (by decide) (c_gI h t3 (by decide) (c_gRs h t3 r7 (by decide) (c_gI h t3 (by decide) (c_aI h u7 iy.1 iy.2 (c_sI h u7 iy.1 iy.2 (fun w1 h1 => ih _ _ w1 h1 nx.1 nx.2 fs (fun a ha => by rw [vup_n ha]; exact hi a ha))))))))))
theorem n_low {F : Unit × Mp → Option β} {st f : Int32} (h : CW B w0 T V R I O N w) (hP : PC B T K V R N e5 e6 e7 cnt) (hr : RB I e5 cnt (V (B + 3) 1) cnt) (s0 : 0 ≤ st) (s1 : st < cnt) (f0 : 0 ≤ f) (f1 : f < V (B + 3) 1) (hp : ∀ w' I', CW B w0 T V R I' O N w' → (∀ a, a ≠ e7 → I' a = I a) → OK (F ((), w')) P) : OK ((f_Plan_lowerByFace w (B + 3) st f).bind F) P := by
  obtain ⟨t3, -, -, -, ⟨r5, u5, n5, q5⟩, ⟨r6, u6, n6, q6⟩, ⟨r7, u7, n7, q7⟩, wb, sb, cb⟩ := id hP
  have f8 : f < 8 := by clear hr hp sb; lia
  have sp := ar_sp s0 s1 cb.2 f0 f8
  have S := hP.sets
  have rb := hr st f s0 s1 f0 f1
  unfold f_Plan_lowerByFace
  refine OK.bind (c_gRs h t3 r5 (by decide) (c_aI h u5 sp.1 (by clear hr hp sb; lia) (c_gRs h t3 r6 (by decide) (c_aI h u6 sp.1 (by clear hr hp sb; lia) (OK.ite (fun _ => OK.ret (hp w I h (fun _ _ => rfl))) (fun _ => ?_))))))
  exact OK.call (n_low_L (I := I) hP s0 s1 f0 f1 rb.1 rb.2 100000 0 I w h (by decide) (by clear hr hp sb; lia) (fu_any (by clear hr hp sb; lia) (by clear hr hp sb; lia)) (fun _ _ => rfl)) (fun q ⟨I', h1, h2⟩ => OK.ret (hp _ I' h1 h2))
theorem RB_7 {I' : Nat → Int32 → Int32} (hP : PC B T K V R N e5 e6 e7 cnt) (hr : RB I e5 cnt (V (B + 3) 1) cnt) (hi : ∀ a, a ≠ e7 → I' a = I a) : RB I' e5 cnt (V (B + 3) 1) cnt := by
  have q5 := hP.2.2.2.2.1.2.2.2
  have q7 := hP.2.2.2.2.2.2.1.2.2.2
  have ne : e5 ≠ e7 := fun e => by rw [e, q7] at q5; omega
  intro s f z0 z1 f0 f1
  rw [hi e5 ne]
  exact hr s f z0 z1 f0 f1
theorem n_ll_L99 {st : Int32} (hP : PC B T K V R N e5 e6 e7 cnt) (hr : RB I e5 cnt (V (B + 3) 1) cnt) (s0 : 0 ≤ st) (s1 : st < cnt) : ∀ (n : Nat) (f : Int32) (I' : Nat → Int32 → Int32) (w : Mp), CW B w0 T V R I' O N w → 0 ≤ f → f ≤ V (B + 3) 1 → (V (B + 3) 1 - f).toInt < n → (∀ a, a ≠ e7 → I' a = I a) → OK (f_Plan_findLeastLoss_L99 (B + 3) st n f w) (fun q => ∃ I', CW B w0 T V R I' O N q.2.2 ∧ (∀ a, a ≠ e7 → I' a = I a)) := by
  obtain ⟨t3, -, -, -, -, -, ⟨r7, u7, n7, q7⟩, wb, sb, cb⟩ := id hP
  intro n
  induction n with
  | zero => intro x I' w _ b0 b1 hn; exact (fu_zero b0 b1 hn).elim
  | succ n ih =>
    intro f I' w h b0 b1 hn hi
    rw [f_Plan_findLeastLoss_L99]
    refine c_gI h t3 (by decide) (OK.ite (fun c => OK.ret ⟨I', h, hi⟩) (fun c => ?_))
    have y : f < V (B + 3) 1 := by clear hn ih sb n7 hr; lia
    have fs := fu_step b0 y hn
    refine c_xo h t3 (by decide) (n_low h hP (RB_7 hP hr hi) s0 s1 b0 y (fun w1 I1 h1 i1 => ?_))
    exact ih _ I1 w1 h1 (by clear hn ih sb n7 fs hr; lia) (by clear hn ih sb n7 fs hr; lia) fs (fun a ha => by rw [i1 a ha]; exact hi a ha)
theorem n_ll_L49 (hP : PC B T K V R N e5 e6 e7 cnt) (hr : RB I e5 cnt (V (B + 3) 1) cnt) : ∀ (n : Nat) (st : Int32) (I' : Nat → Int32 → Int32) (w : Mp), CW B w0 T V R I' O N w → -1 ≤ st → st < cnt → st.toInt + 1 < n → (∀ a, a ≠ e7 → I' a = I a) → OK (f_Plan_findLeastLoss_L49 (B + 3) n st w) (fun q => ∃ I', CW B w0 T V R I' O N q.2.2 ∧ (∀ a, a ≠ e7 → I' a = I a)) := by
  obtain ⟨t3, -, -, -, -, -, ⟨r7, u7, n7, q7⟩, wb, sb, cb⟩ := id hP
  have S := hP.sets
  intro n
  induction n with
  | zero => intro st I' w _ b0 b1 hn; exact (fd_zero b0 hn).elim
  | succ n ih =>
    intro st I' w h b0 b1 hn hi
    rw [f_Plan_findLeastLoss_L49]
    refine OK.ite (fun c => OK.ret ⟨I', h, hi⟩) (fun c => ?_)
    have s0 : 0 ≤ st := by clear hn ih sb n7 hr; lia
    have fs := fd_step s0 hn
    refine OK.call (n_ll_L55 (I := I) hP s0 b1 100000 0 I' w h (by decide) (by clear hn ih sb n7 hr fs; lia) (fu_any (by clear hn ih sb n7 hr fs; lia) (by clear hn ih sb n7 hr fs; lia)) hi) (fun q ⟨I1, h1, i1⟩ => ?_)
    refine OK.call (n_ll_L99 (I := I) hP hr s0 b1 100000 0 I1 _ h1 (by decide) wb.1 (fu_any (by clear hn ih sb n7 hr fs; lia) wb.1) i1) (fun q ⟨I2, h2, i2⟩ => ?_)
    exact ih _ I2 _ h2 (by clear hn ih sb n7 hr fs; lia) (by clear hn ih sb n7 hr fs; lia) fs i2
theorem n_ll {F : Unit × Mp → Option β} (h : CW B w0 T V R I O N w) (hP : PC B T K V R N e5 e6 e7 cnt) (hr : RB I e5 cnt (V (B + 3) 1) cnt) (hp : ∀ w' I', CW B w0 T V R I' O N w' → (∀ a, a ≠ e7 → I' a = I a) → OK (F ((), w')) P) : OK ((f_Plan_findLeastLoss w (B + 3) cnt).bind F) P := by
  have S := hP.sets
  have cb := hP.2.2.2.2.2.2.2.2.2
  unfold f_Plan_findLeastLoss
  refine OK.bind (OK.call (n_ll_L2 (I := I) hP 100000 0 I w h (by decide) (by clear hr hp; lia) (fu_any (by clear hr hp; lia) (by clear hr hp; lia)) (fun _ _ => rfl)) (fun q ⟨I1, h1, i1⟩ => ?_))
  exact OK.call (n_ll_L49 (I := I) hP hr 100000 (cnt - 1) I1 _ h1 (by clear hr hp; lia) (by clear hr hp; lia) (fd_any (by clear hr hp; lia)) i1) (fun q ⟨I2, h2, i2⟩ => OK.ret (hp _ I2 h2 i2))
theorem n_beg_L {st set : Int32} (h : CW B w0 T V R I O N w) (hP : PC B T K V R N e5 e6 e7 cnt) (hr : RB I e5 cnt (V (B + 3) 1) cnt) (s0 : 0 ≤ st) (s1 : st < cnt) (x0 : 0 ≤ set) (x1 : set < V (B + 3) 8) : ∀ (n : Nat) (f : Int32), 0 ≤ f → f ≤ V (B + 3) 1 → (V (B + 3) 1 - f).toInt < n → OK (f_Plan_faceBegunAt_L2 w (B + 3) st set n f) (fun q => q.1 = 0 ∨ (q.1 = 1 ∧ 0 ≤ q.2 ∧ q.2 < V (B + 3) 1)) := by
  obtain ⟨t3, -, -, -, ⟨r5, u5, n5, q5⟩, ⟨r6, u6, n6, q6⟩, ⟨r7, u7, n7, q7⟩, wb, sb, cb⟩ := id hP
  intro n
  induction n with
  | zero => intro f b0 b1 hn; exact (fu_zero b0 b1 hn).elim
  | succ n ih =>
    intro f b0 b1 hn
    rw [f_Plan_faceBegunAt_L2]
    refine c_gI h t3 (by decide) (OK.ite (fun c => OK.ret (Or.inl rfl)) (fun c => ?_))
    have y : f < V (B + 3) 1 := by clear hn ih sb n7 hr; lia
    have fs := fu_step b0 y hn
    have f8 : f < 8 := by clear hn ih sb n7 hr fs; lia
    have nx : 0 ≤ f + 1 ∧ f + 1 ≤ V (B + 3) 1 := by clear hn ih sb n7 hr fs; constructor <;> lia
    have sp := ar_sp s0 s1 cb.2 b0 f8
    have rb := hr st f s0 s1 b0 y
    have o := or_l wb.1 wb.2 x0 (by rw [← sb]; exact x1) b0 y
    rw [← sb] at o
    have ix := hP.ix rb.1 rb.2 o.1 o.2
    have iy := hP.ix s0 (by clear hn ih sb n7 hr fs; lia) x0 x1
    refine c_gRs h t3 r5 (by decide) (c_aI h u5 sp.1 (by clear hn ih sb hr fs; lia) (c_gRs h t3 r6 (by decide) (c_aI h u6 sp.1 (by clear hn ih sb hr fs; lia) (OK.ite (fun _ => OK.ite (fun _ => ih _ nx.1 nx.2 fs) (fun _ => ?_)) (fun _ => ih _ nx.1 nx.2 fs)))))
    exact c_gRs h t3 r7 (by decide) (c_gI h t3 (by decide) (c_aI h u7 ix.1 ix.2 (c_gRs h t3 r7 (by decide) (c_gI h t3 (by decide) (c_aI h u7 iy.1 iy.2 (OK.ite (fun _ => OK.ret (Or.inr ⟨rfl, b0, y⟩)) (fun _ => ih _ nx.1 nx.2 fs)))))))
theorem n_beg {F : Int32 → Option β} {st set : Int32} (h : CW B w0 T V R I O N w) (hP : PC B T K V R N e5 e6 e7 cnt) (hr : RB I e5 cnt (V (B + 3) 1) cnt) (s0 : 0 ≤ st) (s1 : st < cnt) (x0 : 0 ≤ set) (x1 : set < V (B + 3) 8) (hp : ∀ v, v = -1 ∨ (0 ≤ v ∧ v < V (B + 3) 1) → OK (F v) P) : OK ((f_Plan_faceBegunAt w (B + 3) st set).bind F) P := by
  have wb := hP.2.2.2.2.2.2.2.1
  refine OK.call (P := fun v => v = -1 ∨ (0 ≤ v ∧ v < V (B + 3) 1)) ?_ hp
  unfold f_Plan_faceBegunAt
  refine OK.call (n_beg_L h hP hr s0 s1 x0 x1 100000 0 (by decide) wb.1 (fu_any (by clear hr hp; lia) wb.1)) (fun q hq => ?_)
  rcases hq with e | ⟨e, z⟩
  · exact OK.ifP e (OK.ret (Or.inl rfl))
  · exact OK.ifN (by rw [e]; decide) (OK.ifP e (OK.ret (Or.inr z)))
theorem n_keep_L {r : Nat} (hP : PC B T K V R N e5 e6 e7 cnt) (hr : RB I e5 cnt (V (B + 3) 1) cnt) (tr' : T r = tr 1) (nr : N r = 32) (hl : ∀ j, 0 ≤ j → j < cnt → ∃ b, O r j = some b ∧ T b = 1) : ∀ (n : Nat) (set bh st : Int32) (I' : Nat → Int32 → Int32) (w : Mp), CW B w0 T V R I' O N w → 0 ≤ st → st ≤ cnt → (cnt - st).toInt < n → 0 ≤ set → set < V (B + 3) 8 → (∀ a, a ≠ B + 5 → a ≠ B + 6 → I' a = I a) → OK (f_Plan_keepPlan_L8 (B + 3) (some r) cnt n set bh st w) (fun q => ∃ I', CW B w0 T V R I' O N q.2.2.2.2 ∧ (∀ a, a ≠ B + 5 → a ≠ B + 6 → I' a = I a)) := by
  obtain ⟨t3, ⟨t4, m4, p0⟩, ⟨t5, m5, p3, k5⟩, ⟨t6, m6, p4, k6⟩, ⟨r5, u5, n5, q5⟩, ⟨r6, u6, n6, q6⟩, ⟨r7, u7, n7, q7⟩, wb, sb, cb⟩ := id hP
  have ne5 : e5 ≠ B + 5 := fun e => by rw [e, k5] at q5; omega
  have ne6 : e5 ≠ B + 6 := fun e => by rw [e, k6] at q5; omega
  intro n
  induction n with
  | zero => intro set bh st I' w _ b0 b1 hn; exact (fu_zero b0 b1 hn).elim
  | succ n ih =>
    intro set bh st I' w h b0 b1 hn x0 x1 hi
    rw [f_Plan_keepPlan_L8]
    refine OK.ite (fun c => OK.ret ⟨I', h, hi⟩) (fun c => OK.J1 ?_)
    have y : st < cnt := by clear hn ih sb n7 hr hl; lia
    have fs := fu_step b0 y hn
    have nx : 0 ≤ st + 1 ∧ st + 1 ≤ cnt := by clear hn ih sb n7 hr hl fs; constructor <;> lia
    have hr' : RB I' e5 cnt (V (B + 3) 1) cnt := fun s f z0 z1 f0 f1 => by rw [hi e5 ne5 ne6]; exact hr s f z0 z1 f0 f1
    obtain ⟨b, eb, tb⟩ := hl st b0 y
    refine OK.ite (fun _ => ?_) (fun _ => OK.ifP rfl (ih _ _ _ I' w h nx.1 nx.2 fs x0 x1 hi))
    refine c_xo h t3 (by decide) (n_beg h hP hr' b0 y x0 x1 (fun v hv => ?_))
    refine OK.ite (fun _ => ih _ _ _ I' w h nx.1 nx.2 fs x0 x1 hi) (fun nv => ?_)
    rcases hv with e | ⟨v0, v1⟩
    · exact absurd e nv
    have v8 : v < 8 := by clear hn ih sb n7 hr hl fs hr'; lia
    have sp := ar_sp b0 y cb.2 v0 v8
    have o := or_l wb.1 wb.2 x0 (by rw [← sb]; exact x1) v0 v1
    rw [← sb] at o
    refine c_gRs h t3 r5 (by decide) (c_aI h u5 sp.1 (by clear hn ih sb hr hl fs hr'; lia) (c_gRs h t3 p3 (by decide) (c_aRs h tr' (by decide) b0 (by rw [nr]; clear hn ih sb hr hl fs hr'; lia) eb (c_gI h tb (by decide) (c_sI h t5 v0 (by rw [m5]; exact v8) (fun w1 h1 => c_gRs h1 t3 p4 (by decide) (c_sI h1 t6 v0 (by rw [m6]; exact v8) (fun w2 h2 => ?_))))))))
    exact ih _ _ _ _ w2 h2 nx.1 nx.2 fs o.1 o.2 (fun a ha hb => by rw [vup_n hb, vup_n ha]; exact hi a ha hb)
theorem n_keep {F : Unit × Mp → Option β} {r : Nat} (h : CW B w0 T V R I O N w) (hP : PC B T K V R N e5 e6 e7 cnt) (hr : RB I e5 cnt (V (B + 3) 1) cnt) (tr' : T r = tr 1) (nr : N r = 32) (hl : ∀ j, 0 ≤ j → j < cnt → ∃ b, O r j = some b ∧ T b = 1) (hp : ∀ w' I', CW B w0 T V R I' O N w' → (∀ a, a ≠ B + 5 → a ≠ B + 6 → I' a = I a) → OK (F ((), w')) P) : OK ((f_Plan_keepPlan w (B + 3) (some r) cnt).bind F) P := by
  have cb := hP.2.2.2.2.2.2.2.2.2
  have S := hP.sets
  unfold f_Plan_keepPlan
  exact OK.bind (OK.call (n_keep_L (I := I) hP hr tr' nr hl 100000 0 0 0 I w h (by decide) cb.1 (fu_any (by clear hr hl hp; lia) cb.1) (by decide) (by clear hr hl hp; lia) (fun _ _ _ => rfl)) (fun q ⟨I', h1, h2⟩ => OK.ret (hp _ I' h1 h2)))
end CPg
