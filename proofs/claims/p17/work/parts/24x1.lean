/-! the class's rows, exactly: by the words of the reference's rows -/
/-- the row gathered, with its numbers and widths, as A says -/
def RA (A : Nat → Int32 → Int32) (T : Nat → Nat) (V : Nat → Nat → Int32) (O : Nat → Int32 → Option Nat) (r : Nat) (cnt : Int32) : Prop := ∀ j, 0 ≤ j → j < cnt → ∃ b, O r j = some b ∧ T b = 1 ∧ V b 2 = A 3 (A 19 j) ∧ V b 3 = A 4 (A 19 j)
/-- one row found: where it ends, and its loss -/
def RC (A : Nat → Int32 → Int32) (I : Nat → Int32 → Int32) (e5 e6 : Nat) (cnt wd s z : Int32) : Prop := ∃ m, mm A cnt s wd m ∧ I e5 z = (if m = 0 then 0 else s + m) ∧ (m ≠ 0 → I e6 z = ws A s m - wd)
def RX (A : Nat → Int32 → Int32) (I : Nat → Int32 → Int32) (e5 e6 : Nat) (cnt wn st : Int32) : Prop := ∀ s f, 0 ≤ s → s < st → 0 ≤ f → f < wn → RC A I e5 e6 cnt (A 14 f) s (s * 8 + f)
theorem RX.rb {A : Nat → Int32 → Int32} {I : Nat → Int32 → Int32} {e5 e6 : Nat} {cnt wn st : Int32} (c0 : 0 ≤ cnt) (c1 : cnt ≤ 32) (c2 : st ≤ cnt) (h : RX A I e5 e6 cnt wn st) : RB I e5 cnt wn st := by
  intro s f s0 s1 f0 f1
  obtain ⟨m, h1, h2, -⟩ := h s f s0 s1 f0 f1
  rw [h2]
  rcases h1 with ⟨a1, a2, a3, -⟩ | ⟨a1, -⟩
  · have z := ar_m s0 (by clear h h2; lia) a1 a3 a2 c1
    rw [if_neg (by clear h h2 z a2; lia)]
    exact ⟨z.2.1, a2⟩
  · rw [if_pos a1]
    exact ⟨by decide, c0⟩
section CPx
variable {B : Nat} {w0 : Mp} {T K : Nat → Nat} {V : Nat → Nat → Int32} {R : Nat → Nat → Option Nat} {I : Nat → Int32 → Int32} {O : Nat → Int32 → Option Nat} {N : Nat → Int32} {w : Mp} {sz : Nat} {β : Type} {P : β → Prop} {e5 e6 e7 : Nat} {cnt : Int32} {A : Nat → Int32 → Int32}
theorem n_rx_L {st f x5 wd : Int32} {r : Nat} (h : CW B w0 T V R I O N w) (hP : PC B T K V R N e5 e6 e7 cnt) (tr' : T r = tr 1) (nr : N r = 32) (hl : RA A T V O r cnt) (hw : I (B + 4) f = wd) (f0 : 0 ≤ f) (f1 : f < V (B + 3) 1) (s0 : 0 ≤ st) (s1 : st ≤ cnt) : ∀ (n : Nat) (k : Int32), 0 ≤ k → k ≤ 32 → st + k ≤ cnt → (cnt - (st + k)).toInt < n → (∀ j, 0 ≤ j → j < k → nxt A cnt st j) → (∀ j, 0 ≤ j → j ≤ k → ws A st j < wd) → OK (f_Plan_findRow_L23 w (B + 3) (some r) cnt st f x5 n (ws A st k) (st + k)) (fun q => ((q.1 = 0 ∨ q.1 = 1) ∧ mm A cnt st wd 0) ∨ (q.1 = 2 ∧ ∃ m, 0 < m ∧ mm A cnt st wd m ∧ q.2.1 = ws A st m ∧ q.2.2 + 1 = st + m)) := by
  obtain ⟨t3, ⟨t4, m4, p0⟩, -, -, -, -, -, wb, -, cb⟩ := hP
  have sb : st ≤ 32 := by clear hl; lia
  have f8 : f < 8 := by clear hl; lia
  intro n
  induction n with
  | zero => intro k k0 k1 k2 hn; exact (fu_zero (by clear hn hl; lia) k2 hn).elim
  | succ n ih =>
    intro k k0 k1 k2 hn hx hs
    have no : ¬ nxt A cnt st k → mm A cnt st wd 0 := fun z => Or.inr ⟨rfl, k, k0, k1, z, hx, hs⟩
    rw [f_Plan_findRow_L23]
    refine OK.ite (fun c => OK.ret (Or.inl ⟨Or.inl rfl, no (fun z => ?_)⟩)) (fun c => ?_)
    · have z1 := z.1
      clear ih hn hx hs hl no z hw; lia
    have c' : st + k < cnt := by clear ih hn hx hs hl no hw; lia
    obtain ⟨x1, x2, x3⟩ := ar_i1 s0 k0 c' k1 sb cb.2
    have fs := fu_step x1 c' hn
    rw [Int32.add_assoc st k 1] at fs
    have k32 : k < 32 ∧ 0 ≤ k + 1 ∧ k + 1 ≤ 32 ∧ 0 < k + 1 ∧ k < 1000 := by clear ih hn hx hs hl no hw fs x3; refine ⟨by lia, by lia, by lia, by lia, by lia⟩
    obtain ⟨b, eb, tb, b2, b3⟩ := hl (st + k) x1 c'
    have i32 : st + k < N r := by rw [nr]; exact x2
    refine OK.J1 ?_
    have go : nxt A cnt st k → OK ((aR w (some r) 1 (st + k)).bind fun v_4 => (gI w v_4 1 3).bind fun v_5 => (gR w (some (B + 3)) 4 0).bind fun v_6 => (aI w v_6 0 f).bind fun v_7 => if (ws A st k + v_5) < v_7 then (f_Plan_findRow_L23 w (B + 3) (some r) cnt st f x5 n (ws A st k + v_5) (st + k + 1)) else (some (2, ws A st k + v_5, st + k))) (fun q => ((q.1 = 0 ∨ q.1 = 1) ∧ mm A cnt st wd 0) ∨ (q.1 = 2 ∧ ∃ m, 0 < m ∧ mm A cnt st wd m ∧ q.2.1 = ws A st m ∧ q.2.2 + 1 = st + m)) := fun z => by
      refine c_aRs h tr' (by decide) x1 i32 eb (c_gI h tb (by decide) (c_gRs h t3 p0 (by decide) (c_aI h t4 f0 (by rw [m4]; exact f8) ?_)))
      rw [b3, ← ws_step k0 k32.2.2.2.2, hw]
      have hx' : ∀ j, 0 ≤ j → j < k + 1 → nxt A cnt st j := fun j j0 j1 => by
        by_cases e : j = k
        · rw [e]; exact z
        · exact hx j j0 (by clear ih hn hx hs hl no hw fs x3; lia)
      refine OK.ite (fun c1 => ?_) (fun c1 => OK.ret (Or.inr ⟨rfl, k + 1, k32.2.2.2.1, Or.inl ⟨k32.2.2.2.1, x3, k32.2.2.1, Int32.not_lt.mp c1, fun j j0 j1 => ⟨hx' j j0 j1, hs j j0 (by clear ih hn hx hs hl no hw fs x3 hx'; lia)⟩⟩, rfl, Int32.add_assoc st k 1⟩))
      rw [Int32.add_assoc st k 1]
      refine ih (k + 1) k32.2.1 k32.2.2.1 x3 fs hx' (fun j j0 j1 => ?_)
      by_cases e : j = k + 1
      · rw [e]; exact c1
      · exact hs j j0 (by clear ih hn hx hs hl no hw fs x3 hx'; lia)
    refine OK.ite (fun d => go ⟨c', Or.inl (by clear ih hn hx hs hl no hw fs x3 go; lia)⟩) (fun d => ?_)
    have y2 : 0 ≤ st + k - 1 ∧ st + k - 1 < cnt ∧ st + k - 1 < 32 := by clear ih hn hx hs hl no hw fs x3 go; refine ⟨by lia, by lia, by lia⟩
    obtain ⟨b', eb', tb', b2', -⟩ := hl (st + k - 1) y2.1 y2.2.1
    refine c_aRs h tr' (by decide) x1 i32 eb (c_aRs h tr' (by decide) y2.1 (by rw [nr]; exact y2.2.2) eb' (c_xo h tb (by decide) (n_follows h tb tb' (fun e => OK.ifN (by decide) (go ⟨c', Or.inr ?_⟩)) (fun e => OK.ifP rfl (OK.ret (Or.inl ⟨Or.inr rfl, no (fun z => ?_)⟩))))))
    · rw [← b2, ← b2']; exact e
    · rcases z.2 with z | z
      · rw [z, Int32.add_zero] at d
        exact d (Int32.le_refl _)
      · exact e (by rw [b2, b2']; exact z)
theorem n_rx {F : Unit × Mp → Option β} {st f wd : Int32} {r : Nat} (h : CW B w0 T V R I O N w) (hP : PC B T K V R N e5 e6 e7 cnt) (tr' : T r = tr 1) (nr : N r = 32) (hl : RA A T V O r cnt) (hw : I (B + 4) f = wd) (w1 : 1 ≤ wd) (n4 : B + 4 ≠ e5 ∧ B + 4 ≠ e6) (f0 : 0 ≤ f) (f1 : f < V (B + 3) 1) (s0 : 0 ≤ st) (s1 : st < cnt) (hp : ∀ w' I', CW B w0 T V R I' O N w' → (∀ a, a ≠ e5 → a ≠ e6 → I' a = I a) → (∀ z, z ≠ st * 8 + f → I' e5 z = I e5 z ∧ I' e6 z = I e6 z) → RC A I' e5 e6 cnt wd st (st * 8 + f) → OK (F ((), w')) P) : OK ((f_Plan_findRow w (B + 3) (some r) cnt st f).bind F) P := by
  obtain ⟨t3, ⟨t4, m4, p0⟩, ⟨t5, m5, p3, k5⟩, ⟨t6, m6, p4, k6⟩, ⟨r5, u5, n5, q5⟩, ⟨r6, u6, n6, q6⟩, ⟨r7, u7, n7, q7⟩, wb, sb, cb⟩ := id hP
  have f8 : f < 8 := by clear hl hp; lia
  have sp := ar_sp s0 s1 cb.2 f0 f8
  have d1 : st * 8 + f < N e5 := by clear hl hp; lia
  have d2 : st * 8 + f < N e6 := by clear hl hp; lia
  have ne : e5 ≠ e6 := fun e => by rw [e, q6] at q5; omega
  have s2 : st ≤ cnt := by clear hl hp; lia
  refine OK.call (P := fun q => ∃ I', CW B w0 T V R I' O N q.2 ∧ (∀ a, a ≠ e5 → a ≠ e6 → I' a = I a) ∧ (∀ z, z ≠ st * 8 + f → I' e5 z = I e5 z ∧ I' e6 z = I e6 z) ∧ RC A I' e5 e6 cnt wd st (st * 8 + f)) ?_ (fun q ⟨I', h1, h2, h3, h4⟩ => hp q.2 I' h1 h2 h3 h4)
  unfold f_Plan_findRow
  refine c_gRs h t3 r5 (by decide) (c_sI h u5 sp.1 d1 (fun w1 h1 => ?_))
  have fz : (cnt - st).toInt < (100000 : Nat) := by
    have z := fu_any (k := cnt - st) (by clear hl hp; lia) (by clear hl hp; lia)
    rw [Int32.sub_zero] at z
    exact z
  have hw1 : va_up I e5 (fun y => if y = st * 8 + f then 0 else I e5 y) (B + 4) f = wd := by rw [vup_n n4.1]; exact hw
  have L := n_rx_L (A := A) (x5 := st * 8 + f) h1 hP tr' nr hl hw1 f0 f1 s0 s2 100000 0 (by decide) (by decide) (by rw [Int32.add_zero]; exact s2) (by rw [Int32.add_zero]; exact fz) (fun j j0 j1 => absurd j1 (by clear hl hp fz; lia)) (fun j j0 j1 => by
    rw [show j = 0 by clear hl hp fz; lia]
    show (0 : Int32) < wd
    clear hl hp fz; lia)
  rw [show ws A st 0 = 0 from rfl, Int32.add_zero] at L
  have fin : mm A cnt st wd 0 → ∃ I', CW B w0 T V R I' O N w1 ∧ (∀ a, a ≠ e5 → a ≠ e6 → I' a = I a) ∧ (∀ z, z ≠ st * 8 + f → I' e5 z = I e5 z ∧ I' e6 z = I e6 z) ∧ RC A I' e5 e6 cnt wd st (st * 8 + f) := fun z => ⟨_, h1, fun a ha _ => vup_n ha, fun z hz => ⟨by rw [vup_s, if_neg hz], by rw [vup_n ne.symm]⟩, 0, z, by rw [vup_s, if_pos rfl, if_pos rfl], fun z => absurd rfl z⟩
  refine OK.call L (fun q hq => ?_)
  rcases hq with ⟨e | e, z⟩ | ⟨e, m, m0, z1, z2, z3⟩
  · exact OK.ifP e (OK.ret (fin z))
  · exact OK.ifN (by rw [e]; decide) (OK.ifP e (OK.ret (fin z)))
  · refine OK.ifN (by rw [e]; decide) (OK.ifN (by rw [e]; decide) (OK.ifP e ?_))
    rw [z2, z3]
    have mz : m ≠ 0 := fun z => by rw [z] at m0; exact absurd m0 (by decide)
    refine c_gRs h1 t3 r5 (by decide) (c_sI h1 u5 sp.1 d1 (fun w2 h2 => c_gRs h2 t3 r6 (by decide) (c_gRs h2 t3 p0 (by decide) (c_aI h2 t4 f0 (by rw [m4]; exact f8) (c_sI h2 u6 sp.1 d2 (fun w3 h3 => OK.ret ⟨_, h3, fun a ha hb => ?_, fun z hz => ⟨?_, ?_⟩, m, z1, ?_, fun _ => ?_⟩))))))
    · rw [vup_n hb, vup_n ha, vup_n ha]
    · rw [vup_n ne, vup_s, if_neg hz, vup_s, if_neg hz]
    · rw [vup_s, if_neg hz, vup_n ne.symm, vup_n ne.symm]
    · rw [vup_n ne, vup_s, if_pos rfl, if_neg mz]
    · rw [vup_s, if_pos rfl, vup_n n4.1, vup_n n4.1, hw]
theorem RC_z {I I' : Nat → Int32 → Int32} {wd s z : Int32} (h : RC A I e5 e6 cnt wd s z) (h5 : I' e5 z = I e5 z) (h6 : I' e6 z = I e6 z) : RC A I' e5 e6 cnt wd s z := by
  obtain ⟨m, a, b, c⟩ := h
  exact ⟨m, a, by rw [h5]; exact b, fun z => by rw [h6]; exact c z⟩
theorem n_rxs_in {st : Int32} {r : Nat} (hP : PC B T K V R N e5 e6 e7 cnt) (tr' : T r = tr 1) (nr : N r = 32) (hl : RA A T V O r cnt) (hw : ∀ f, 0 ≤ f → f < V (B + 3) 1 → I (B + 4) f = A 14 f ∧ 1 ≤ A 14 f) (n4 : B + 4 ≠ e5 ∧ B + 4 ≠ e6) (s0 : 0 ≤ st) (s1 : st < cnt) : ∀ (n : Nat) (f : Int32) (I' : Nat → Int32 → Int32) (w : Mp), CW B w0 T V R I' O N w → 0 ≤ f → f ≤ V (B + 3) 1 → (V (B + 3) 1 - f).toInt < n → (∀ a, a ≠ e5 → a ≠ e6 → I' a = I a) → RX A I' e5 e6 cnt (V (B + 3) 1) st → (∀ g, 0 ≤ g → g < f → RC A I' e5 e6 cnt (A 14 g) st (st * 8 + g)) → OK (f_Plan_findRows_L10 (B + 3) (some r) cnt st n f w) (fun q => ∃ I', CW B w0 T V R I' O N q.2.2 ∧ (∀ a, a ≠ e5 → a ≠ e6 → I' a = I a) ∧ RX A I' e5 e6 cnt (V (B + 3) 1) (st + 1)) := by
  obtain ⟨t3, -, -, -, -, -, -, wb, sb, cb⟩ := id hP
  intro n
  induction n with
  | zero => intro f I' w _ b0 b1 hn; exact (fu_zero b0 b1 hn).elim
  | succ n ih =>
    intro f I' w h b0 b1 hn hi hr hg
    rw [f_Plan_findRows_L10]
    refine c_gI h t3 (by decide) (OK.ite (fun c => ?_) (fun c => ?_))
    · have e : f = V (B + 3) 1 := by clear hn hl ih hr hg hw; lia
      rw [e] at hg
      refine OK.ret ⟨I', h, hi, fun s g z0 z1 g0 g1 => ?_⟩
      by_cases es : s = st
      · rw [es]; exact hg g g0 g1
      · exact hr s g z0 (by clear hn hl ih hr hg hw; lia) g0 g1
    · have y : f < V (B + 3) 1 := by clear hn hl ih hr hg hw; lia
      have fs := fu_step b0 y hn
      have s32 : st < 32 := by clear hn hl ih hr hg fs hw; lia
      have f8 : f < 8 := by clear hn hl ih hr hg fs hw; lia
      have hwf := hw f b0 y
      refine c_xo h t3 (by decide) (n_rx h hP tr' nr hl (wd := A 14 f) (by rw [hi _ n4.1 n4.2]; exact hwf.1) hwf.2 n4 b0 y s0 s1 (fun w1 I1 h1 i1 i2 i3 => ?_))
      refine ih _ I1 w1 h1 (by clear hn hl ih hr hg fs hw hwf; lia) (by clear hn hl ih hr hg fs hw hwf; lia) fs (fun a ha hb => by rw [i1 a ha hb]; exact hi a ha hb) (fun s g z0 z1 g0 g1 => ?_) (fun g g0 g1 => ?_)
      · have nz : s * 8 + g ≠ st * 8 + f := fun z => by
          have := (ar_sq z0 (by clear hn hl ih hr hg fs hw hwf; lia) g0 (by clear hn hl ih hr hg fs hw hwf; lia) s0 s32 b0 f8 z).1
          clear hn hl ih hr hg fs hw hwf; lia
        exact RC_z (hr s g z0 z1 g0 g1) (i2 _ nz).1 (i2 _ nz).2
      · by_cases eg : g = f
        · rw [eg]; exact i3
        · have nz : st * 8 + g ≠ st * 8 + f := fun z => eg (ar_sq s0 s32 g0 (by clear hn hl ih hr hg fs hw hwf; lia) s0 s32 b0 f8 z).2
          exact RC_z (hg g g0 (by clear hn hl ih hr hg fs hw hwf; lia)) (i2 _ nz).1 (i2 _ nz).2
theorem n_rxs_L {r : Nat} (hP : PC B T K V R N e5 e6 e7 cnt) (tr' : T r = tr 1) (nr : N r = 32) (hl : RA A T V O r cnt) (hw : ∀ f, 0 ≤ f → f < V (B + 3) 1 → I (B + 4) f = A 14 f ∧ 1 ≤ A 14 f) (n4 : B + 4 ≠ e5 ∧ B + 4 ≠ e6) : ∀ (n : Nat) (st : Int32) (I' : Nat → Int32 → Int32) (w : Mp), CW B w0 T V R I' O N w → 0 ≤ st → st ≤ cnt → (cnt - st).toInt < n → (∀ a, a ≠ e5 → a ≠ e6 → I' a = I a) → RX A I' e5 e6 cnt (V (B + 3) 1) st → OK (f_Plan_findRows_L2 (B + 3) (some r) cnt n st w) (fun q => ∃ I', CW B w0 T V R I' O N q.2.2 ∧ (∀ a, a ≠ e5 → a ≠ e6 → I' a = I a) ∧ RX A I' e5 e6 cnt (V (B + 3) 1) cnt) := by
  obtain ⟨t3, -, -, -, -, -, -, wb, sb, cb⟩ := id hP
  intro n
  induction n with
  | zero => intro f I' w _ b0 b1 hn; exact (fu_zero b0 b1 hn).elim
  | succ n ih =>
    intro st I' w h b0 b1 hn hi hr
    rw [f_Plan_findRows_L2]
    refine OK.ite (fun c => ?_) (fun c => ?_)
    · have e : st = cnt := by clear hn hl ih hr hw; lia
      rw [e] at hr
      exact OK.ret ⟨I', h, hi, hr⟩
    · have y : st < cnt := by clear hn hl ih hr hw; lia
      have fs := fu_step b0 y hn
      refine OK.call (n_rxs_in (I := I) hP tr' nr hl hw n4 b0 y 100000 0 I' w h (by decide) wb.1 (fu_any (by clear hn hl ih hr fs hw; lia) wb.1) hi hr (fun g g0 g1 => absurd g1 (by clear hn hl ih hr fs hw; lia))) (fun q ⟨I1, h1, i1, i2⟩ => ?_)
      exact ih _ I1 _ h1 (by clear hn hl ih hr fs hw i2; lia) (by clear hn hl ih hr fs hw i2; lia) fs i1 i2
theorem n_rxs {F : Unit × Mp → Option β} {r : Nat} (h : CW B w0 T V R I O N w) (hP : PC B T K V R N e5 e6 e7 cnt) (tr' : T r = tr 1) (nr : N r = 32) (hl : RA A T V O r cnt) (hw : ∀ f, 0 ≤ f → f < V (B + 3) 1 → I (B + 4) f = A 14 f ∧ 1 ≤ A 14 f) (n4 : B + 4 ≠ e5 ∧ B + 4 ≠ e6) (hp : ∀ w' I', CW B w0 T V R I' O N w' → (∀ a, a ≠ e5 → a ≠ e6 → I' a = I a) → RX A I' e5 e6 cnt (V (B + 3) 1) cnt → OK (F ((), w')) P) : OK ((f_Plan_findRows w (B + 3) (some r) cnt).bind F) P := by
  have cb := hP.2.2.2.2.2.2.2.2.2
  unfold f_Plan_findRows
  exact OK.bind (OK.call (n_rxs_L (I := I) hP tr' nr hl hw n4 100000 0 I w h (by decide) cb.1 (fu_any (by clear hl hp hw; lia) cb.1) (fun _ _ _ => rfl) (fun s f z0 z1 => absurd z1 (by clear hl hp hw; lia))) (fun q ⟨I', h1, h2, h3⟩ => OK.ret (hp _ I' h1 h2 h3)))
end CPx
