/-! the class: its planner's rows -/
theorem ar_sp {s f c : Int32} (s0 : 0 ≤ s) (s1 : s < c) (c1 : c ≤ 32) (f0 : 0 ≤ f) (f1 : f < 8) : 0 ≤ s * 8 + f ∧ s * 8 + f < 8 * c := by
  constructor <;> lia
theorem ar_sq {s f s' f' : Int32} (s0 : 0 ≤ s) (s1 : s < 32) (f0 : 0 ≤ f) (f1 : f < 8) (t0 : 0 ≤ s') (t1 : s' < 32) (g0 : 0 ≤ f') (g1 : f' < 8) (h : s * 8 + f = s' * 8 + f') : s = s' ∧ f = f' := by
  constructor <;> lia
theorem ar_sx {a c x S : Int32} (a0 : 0 ≤ a) (a1 : a ≤ c) (c1 : c ≤ 32) (x0 : 0 ≤ x) (x1 : x < S) (S1 : S ≤ 256) : 0 ≤ a * S + x ∧ a * S + x < (c + 1) * S := by
  have hS : 0 ≤ S := by lia
  have hc : 0 ≤ c + 1 := by lia
  have ea := cl_int a0
  have ex := cl_int x0
  have eS := cl_int hS
  have ec := cl_int hc
  have a2 : a < c + 1 := by lia
  have c2 : c + 1 ≤ 33 := by lia
  rw [Int32.lt_iff_toInt_lt] at x1 a2
  rw [Int32.le_iff_toInt_le, show (33 : Int32).toInt = 33 by decide] at c2
  rw [Int32.le_iff_toInt_le, show (256 : Int32).toInt = 256 by decide] at S1
  generalize a.toNatClampNeg = a' at ea
  generalize x.toNatClampNeg = x' at ex
  generalize S.toNatClampNeg = S' at eS
  generalize (c + 1).toNatClampNeg = c' at ec
  have b1 : a' * S' + x' < c' * S' := by
    have q : a' + 1 ≤ c' := by omega
    have q2 := Nat.mul_le_mul_right S' q
    rw [Nat.add_mul, Nat.one_mul] at q2
    omega
  have b2 : c' * S' ≤ 33 * 256 := Nat.mul_le_mul (by omega) (by omega)
  have m1 : (a * S).toInt = (a' * S' : Nat) := by
    rw [Int32.toInt_mul, ← ea, ← eS, Int.bmod_eq_of_le (by omega) (by omega)]
    rfl
  have m2 : ((c + 1) * S).toInt = (c' * S' : Nat) := by
    rw [Int32.toInt_mul, ← ec, ← eS, Int.bmod_eq_of_le (by omega) (by omega)]
    rfl
  have m3 : (a * S + x).toInt = (a' * S' + x' : Nat) := by
    rw [Int32.toInt_add, m1, ← ex, Int.bmod_eq_of_le (by omega) (by omega)]
    rfl
  rw [Int32.le_iff_toInt_le, Int32.lt_iff_toInt_lt, m3, m2, show (0 : Int32).toInt = 0 by decide]
  omega
theorem or_lim : ∀ n, n < 9 → ∀ f, f < n → ∀ m, m < 2 ^ n → (0 ≤ Int32.ofNat m ||| ((1 : Int32) <<< (Int32.ofNat f &&& 31)) ∧ Int32.ofNat m ||| ((1 : Int32) <<< (Int32.ofNat f &&& 31)) < Int32.ofNat (2 ^ n)) := by decide +kernel
theorem or_l {x f n : Int32} (n0 : 0 ≤ n) (n1 : n ≤ 8) (h0 : 0 ≤ x) (h1 : x < (1 : Int32) <<< (n &&& 31)) (f0 : 0 ≤ f) (f1 : f < n) : 0 ≤ x ||| ((1 : Int32) <<< (f &&& 31)) ∧ x ||| ((1 : Int32) <<< (f &&& 31)) < (1 : Int32) <<< (n &&& 31) := by
  have nb : n.toNatClampNeg < 9 := cl_lt n0 (n := 9) (by show n < 9; lia) (by decide)
  have e := sh_all n.toNatClampNeg nb
  rw [of_cl n0] at e
  rw [e] at h1 ⊢
  have p : 2 ^ n.toNatClampNeg < 2147483648 := by
    generalize n.toNatClampNeg = m at nb
    rcases (by omega : m = 0 ∨ m = 1 ∨ m = 2 ∨ m = 3 ∨ m = 4 ∨ m = 5 ∨ m = 6 ∨ m = 7 ∨ m = 8) with rfl | rfl | rfl | rfl | rfl | rfl | rfl | rfl | rfl <;> decide
  have h := or_lim n.toNatClampNeg nb f.toNatClampNeg (cl_mono f0 f1) x.toNatClampNeg (cl_lt h0 h1 p)
  rw [of_cl h0, of_cl f0] at h
  exact h
def PC (B : Nat) (T K : Nat → Nat) (V : Nat → Nat → Int32) (R : Nat → Nat → Option Nat) (N : Nat → Int32) (e5 e6 e7 : Nat) (cnt : Int32) : Prop :=
  T (B + 3) = 4 ∧ (T (B + 4) = 5 ∧ N (B + 4) = 8 ∧ R (B + 3) 0 = some (B + 4)) ∧ (T (B + 5) = 5 ∧ N (B + 5) = 8 ∧ R (B + 3) 3 = some (B + 5) ∧ K (B + 5) = 2) ∧ (T (B + 6) = 5 ∧ N (B + 6) = 8 ∧ R (B + 3) 4 = some (B + 6) ∧ K (B + 6) = 3) ∧
  (R (B + 3) 5 = some e5 ∧ T e5 = 5 ∧ 8 * cnt ≤ N e5 ∧ K e5 = 5) ∧ (R (B + 3) 6 = some e6 ∧ T e6 = 5 ∧ 8 * cnt ≤ N e6 ∧ K e6 = 6) ∧ (R (B + 3) 7 = some e7 ∧ T e7 = 5 ∧ (cnt + 1) * V (B + 3) 8 ≤ N e7 ∧ K e7 = 7) ∧
  (0 ≤ V (B + 3) 1 ∧ V (B + 3) 1 ≤ 8) ∧ V (B + 3) 8 = (1 : Int32) <<< (V (B + 3) 1 &&& 31) ∧ (0 ≤ cnt ∧ cnt ≤ 32)
/-- the ends of the rows found so far are within the leaves -/
def RB (I : Nat → Int32 → Int32) (e5 : Nat) (cnt wn st : Int32) : Prop := ∀ s f, 0 ≤ s → s < st → 0 ≤ f → f < wn → 0 ≤ I e5 (s * 8 + f) ∧ I e5 (s * 8 + f) ≤ cnt
section CPf
variable {B : Nat} {w0 : Mp} {T K : Nat → Nat} {V : Nat → Nat → Int32} {R : Nat → Nat → Option Nat} {I : Nat → Int32 → Int32} {O : Nat → Int32 → Option Nat} {N : Nat → Int32} {w : Mp} {sz : Nat} {β : Type} {P : β → Prop} {e5 e6 e7 : Nat} {cnt : Int32}
theorem n_row_L {st f x5 : Int32} {r : Nat} (h : CW B w0 T V R I O N w) (hP : PC B T K V R N e5 e6 e7 cnt) (tr' : T r = tr 1) (nr : N r = 32) (hl : ∀ j, 0 ≤ j → j < cnt → ∃ b, O r j = some b ∧ T b = 1) (f0 : 0 ≤ f) (f1 : f < V (B + 3) 1) (s0 : 0 ≤ st) : ∀ (n : Nat) (x6 i : Int32), st ≤ i → i ≤ cnt → (cnt - i).toInt < n → OK (f_Plan_findRow_L23 w (B + 3) (some r) cnt st f x5 n x6 i) (fun q => q.1 = 0 ∨ q.1 = 1 ∨ (q.1 = 2 ∧ 0 ≤ q.2.2 ∧ q.2.2 < cnt)) := by
  obtain ⟨t3, ⟨t4, m4, p0⟩, -, -, -, -, -, wb, -, cb⟩ := hP
  intro n
  induction n with
  | zero => intro x6 i b0 b1 hn; exact (fu_zero (by clear hn hl; lia) b1 hn).elim
  | succ n ih =>
    intro x6 i b0 b1 hn
    rw [f_Plan_findRow_L23]
    refine OK.ite (fun c => OK.ret (Or.inl rfl)) (fun c => ?_)
    have y : 0 ≤ i ∧ i < cnt ∧ i < 32 ∧ f < 8 := by clear hn hl ih; refine ⟨by lia, by lia, by lia, by lia⟩
    have fs := fu_step y.1 y.2.1 hn
    have nx : st ≤ i + 1 ∧ i + 1 ≤ cnt := by clear hn hl ih fs; constructor <;> lia
    obtain ⟨b, eb, tb⟩ := hl i y.1 y.2.1
    have i32 : i < N r := by rw [nr]; exact y.2.2.1
    refine OK.J1 ?_
    have go : OK ((aR w (some r) 1 i).bind fun v_4 => (gI w v_4 1 3).bind fun v_5 => (gR w (some (B + 3)) 4 0).bind fun v_6 => (aI w v_6 0 f).bind fun v_7 => if (x6 + v_5) < v_7 then (f_Plan_findRow_L23 w (B + 3) (some r) cnt st f x5 n (x6 + v_5) (i + 1)) else (some (2, x6 + v_5, i))) (fun q => q.1 = 0 ∨ q.1 = 1 ∨ (q.1 = 2 ∧ 0 ≤ q.2.2 ∧ q.2.2 < cnt)) := by
      refine c_aRs h tr' (by decide) y.1 i32 eb (c_gI h tb (by decide) (c_gRs h t3 p0 (by decide) (c_aI h t4 f0 (by rw [m4]; exact y.2.2.2) ?_)))
      exact OK.ite (fun _ => ih _ _ nx.1 nx.2 fs) (fun _ => OK.ret (Or.inr (Or.inr ⟨rfl, y.1, y.2.1⟩)))
    refine OK.ite (fun _ => go) (fun d => ?_)
    have y2 : 0 ≤ i - 1 ∧ i - 1 < cnt ∧ i - 1 < 32 := by clear hn hl ih fs go; refine ⟨by lia, by lia, by lia⟩
    obtain ⟨b', eb', tb'⟩ := hl (i - 1) y2.1 y2.2.1
    refine c_aRs h tr' (by decide) y.1 i32 eb (c_aRs h tr' (by decide) y2.1 (by rw [nr]; exact y2.2.2) eb' (c_xo h tb (by decide) (n_follows h tb tb' (fun _ => OK.ifN (by decide) go) (fun _ => OK.ifP rfl (OK.ret (Or.inr (Or.inl rfl)))))))
theorem n_row {F : Unit × Mp → Option β} {st f : Int32} {r : Nat} (h : CW B w0 T V R I O N w) (hP : PC B T K V R N e5 e6 e7 cnt) (tr' : T r = tr 1) (nr : N r = 32) (hl : ∀ j, 0 ≤ j → j < cnt → ∃ b, O r j = some b ∧ T b = 1) (f0 : 0 ≤ f) (f1 : f < V (B + 3) 1) (s0 : 0 ≤ st) (s1 : st < cnt) (hp : ∀ w' I', CW B w0 T V R I' O N w' → (∀ a, a ≠ e5 → a ≠ e6 → I' a = I a) → (∀ z, z ≠ st * 8 + f → I' e5 z = I e5 z) → 0 ≤ I' e5 (st * 8 + f) → I' e5 (st * 8 + f) ≤ cnt → OK (F ((), w')) P) : OK ((f_Plan_findRow w (B + 3) (some r) cnt st f).bind F) P := by
  obtain ⟨t3, ⟨t4, m4, p0⟩, ⟨t5, m5, p3, k5⟩, ⟨t6, m6, p4, k6⟩, ⟨r5, u5, n5, q5⟩, ⟨r6, u6, n6, q6⟩, ⟨r7, u7, n7, q7⟩, wb, sb, cb⟩ := id hP
  have f8 : f < 8 := by clear hl hp; lia
  have sp := ar_sp s0 s1 cb.2 f0 f8
  have d1 : st * 8 + f < N e5 := by clear hl hp; lia
  have d2 : st * 8 + f < N e6 := by clear hl hp; lia
  have ne : e5 ≠ e6 := fun e => by rw [e, q6] at q5; omega
  refine OK.call (P := fun q => ∃ I', CW B w0 T V R I' O N q.2 ∧ (∀ a, a ≠ e5 → a ≠ e6 → I' a = I a) ∧ (∀ z, z ≠ st * 8 + f → I' e5 z = I e5 z) ∧ 0 ≤ I' e5 (st * 8 + f) ∧ I' e5 (st * 8 + f) ≤ cnt) ?_ (fun q ⟨I', h1, h2, h3, h4, h5⟩ => hp q.2 I' h1 h2 h3 h4 h5)
  unfold f_Plan_findRow
  refine c_gRs h t3 r5 (by decide) (c_sI h u5 sp.1 d1 (fun w1 h1 => ?_))
  have fz : (cnt - st).toInt < (100000 : Nat) := by
    have z := fu_any (k := cnt - st) (by clear hl hp; lia) (by clear hl hp; lia)
    rw [Int32.sub_zero] at z
    exact z
  have fin : ∃ I', CW B w0 T V R I' O N w1 ∧ (∀ a, a ≠ e5 → a ≠ e6 → I' a = I a) ∧ (∀ z, z ≠ st * 8 + f → I' e5 z = I e5 z) ∧ 0 ≤ I' e5 (st * 8 + f) ∧ I' e5 (st * 8 + f) ≤ cnt := ⟨_, h1, fun a ha _ => vup_n ha, fun z hz => by rw [vup_s, if_neg hz], by rw [vup_s, if_pos rfl]; decide, by rw [vup_s, if_pos rfl]; exact cb.1⟩
  refine OK.call (n_row_L h1 hP tr' nr hl f0 f1 s0 100000 0 st (Int32.le_refl _) (by clear hl hp fz; lia) fz) (fun q hq => ?_)
  rcases hq with e | e | ⟨e, i0, i1⟩
  · exact OK.ifP e (OK.ret fin)
  · exact OK.ifN (by rw [e]; decide) (OK.ifP e (OK.ret fin))
  · refine OK.ifN (by rw [e]; decide) (OK.ifN (by rw [e]; decide) (OK.ifP e ?_))
    generalize q.2.2 = i at i0 i1 ⊢
    refine c_gRs h1 t3 r5 (by decide) (c_sI h1 u5 sp.1 d1 (fun w2 h2 => c_gRs h2 t3 r6 (by decide) (c_gRs h2 t3 p0 (by decide) (c_aI h2 t4 f0 (by rw [m4]; exact f8) (c_sI h2 u6 sp.1 d2 (fun w3 h3 => OK.ret ⟨_, h3, fun a ha hb => ?_, fun z hz => ?_, ?_, ?_⟩))))))
    · rw [vup_n hb, vup_n ha, vup_n ha]
    · rw [vup_n ne, vup_s, if_neg hz, vup_s, if_neg hz]
    · rw [vup_n ne, vup_s, if_pos rfl]; clear hl hp fz; lia
    · rw [vup_n ne, vup_s, if_pos rfl]; clear hl hp fz; lia
theorem n_rows_in {st : Int32} {r : Nat} (hP : PC B T K V R N e5 e6 e7 cnt) (tr' : T r = tr 1) (nr : N r = 32) (hl : ∀ j, 0 ≤ j → j < cnt → ∃ b, O r j = some b ∧ T b = 1) (s0 : 0 ≤ st) (s1 : st < cnt) : ∀ (n : Nat) (f : Int32) (I' : Nat → Int32 → Int32) (w : Mp), CW B w0 T V R I' O N w → 0 ≤ f → f ≤ V (B + 3) 1 → (V (B + 3) 1 - f).toInt < n → (∀ a, a ≠ e5 → a ≠ e6 → I' a = I a) → RB I' e5 cnt (V (B + 3) 1) st → (∀ g, 0 ≤ g → g < f → 0 ≤ I' e5 (st * 8 + g) ∧ I' e5 (st * 8 + g) ≤ cnt) → OK (f_Plan_findRows_L10 (B + 3) (some r) cnt st n f w) (fun q => ∃ I', CW B w0 T V R I' O N q.2.2 ∧ (∀ a, a ≠ e5 → a ≠ e6 → I' a = I a) ∧ RB I' e5 cnt (V (B + 3) 1) (st + 1)) := by
  obtain ⟨t3, -, -, -, -, -, -, wb, sb, cb⟩ := id hP
  intro n
  induction n with
  | zero => intro f I' w _ b0 b1 hn; exact (fu_zero b0 b1 hn).elim
  | succ n ih =>
    intro f I' w h b0 b1 hn hi hr hg
    rw [f_Plan_findRows_L10]
    refine c_gI h t3 (by decide) (OK.ite (fun c => ?_) (fun c => ?_))
    · have e : f = V (B + 3) 1 := by clear hn hl ih hr hg; lia
      rw [e] at hg
      refine OK.ret ⟨I', h, hi, fun s g z0 z1 g0 g1 => ?_⟩
      by_cases es : s = st
      · rw [es]; exact hg g g0 g1
      · exact hr s g z0 (by clear hn hl ih hr hg; lia) g0 g1
    · have y : f < V (B + 3) 1 := by clear hn hl ih hr hg; lia
      have fs := fu_step b0 y hn
      have s32 : st < 32 := by clear hn hl ih hr hg fs; lia
      have f8 : f < 8 := by clear hn hl ih hr hg fs; lia
      refine c_xo h t3 (by decide) (n_row h hP tr' nr hl b0 y s0 s1 (fun w1 I1 h1 i1 i2 i3 i4 => ?_))
      refine ih _ I1 w1 h1 (by clear hn hl ih hr hg fs; lia) (by clear hn hl ih hr hg fs; lia) fs (fun a ha hb => by rw [i1 a ha hb]; exact hi a ha hb) (fun s g z0 z1 g0 g1 => ?_) (fun g g0 g1 => ?_)
      · rw [i2 _ (fun z => by
          have := (ar_sq z0 (by clear hn hl ih hr hg fs; lia) g0 (by clear hn hl ih hr hg fs; lia) s0 s32 b0 f8 z).1
          clear hn hl ih hr hg fs; lia)]
        exact hr s g z0 z1 g0 g1
      · by_cases eg : g = f
        · rw [eg]; exact ⟨i3, i4⟩
        · rw [i2 _ (fun z => eg (ar_sq s0 s32 g0 (by clear hn hl ih hr hg fs; lia) s0 s32 b0 f8 z).2)]
          exact hg g g0 (by clear hn hl ih hr hg fs; lia)
theorem n_rows_L {r : Nat} (hP : PC B T K V R N e5 e6 e7 cnt) (tr' : T r = tr 1) (nr : N r = 32) (hl : ∀ j, 0 ≤ j → j < cnt → ∃ b, O r j = some b ∧ T b = 1) : ∀ (n : Nat) (st : Int32) (I' : Nat → Int32 → Int32) (w : Mp), CW B w0 T V R I' O N w → 0 ≤ st → st ≤ cnt → (cnt - st).toInt < n → (∀ a, a ≠ e5 → a ≠ e6 → I' a = I a) → RB I' e5 cnt (V (B + 3) 1) st → OK (f_Plan_findRows_L2 (B + 3) (some r) cnt n st w) (fun q => ∃ I', CW B w0 T V R I' O N q.2.2 ∧ (∀ a, a ≠ e5 → a ≠ e6 → I' a = I a) ∧ RB I' e5 cnt (V (B + 3) 1) cnt) := by
  obtain ⟨t3, -, -, -, -, -, -, wb, sb, cb⟩ := id hP
  intro n
  induction n with
  | zero => intro f I' w _ b0 b1 hn; exact (fu_zero b0 b1 hn).elim
  | succ n ih =>
    intro st I' w h b0 b1 hn hi hr
    rw [f_Plan_findRows_L2]
    refine OK.ite (fun c => ?_) (fun c => ?_)
    · have e : st = cnt := by clear hn hl ih hr; lia
      rw [e] at hr
      exact OK.ret ⟨I', h, hi, hr⟩
    · have y : st < cnt := by clear hn hl ih hr; lia
      have fs := fu_step b0 y hn
      refine OK.call (n_rows_in (I := I) hP tr' nr hl b0 y 100000 0 I' w h (by decide) wb.1 (fu_any (by clear hn hl ih hr fs; lia) wb.1) hi hr (fun g g0 g1 => by clear hn hl ih hr fs; lia)) (fun q ⟨I1, h1, i1, i2⟩ => ?_)
      exact ih _ I1 _ h1 (by clear hn hl ih hr fs; lia) (by clear hn hl ih hr fs; lia) fs i1 i2
theorem n_rows {F : Unit × Mp → Option β} {r : Nat} (h : CW B w0 T V R I O N w) (hP : PC B T K V R N e5 e6 e7 cnt) (tr' : T r = tr 1) (nr : N r = 32) (hl : ∀ j, 0 ≤ j → j < cnt → ∃ b, O r j = some b ∧ T b = 1) (hp : ∀ w' I', CW B w0 T V R I' O N w' → (∀ a, a ≠ e5 → a ≠ e6 → I' a = I a) → RB I' e5 cnt (V (B + 3) 1) cnt → OK (F ((), w')) P) : OK ((f_Plan_findRows w (B + 3) (some r) cnt).bind F) P := by
  have cb := hP.2.2.2.2.2.2.2.2.2
  unfold f_Plan_findRows
  exact OK.bind (OK.call (n_rows_L (I := I) hP tr' nr hl 100000 0 I w h (by decide) cb.1 (fu_any (by clear hl hp; lia) cb.1) (fun _ _ _ => rfl) (fun s f z0 z1 => by clear hl hp; lia)) (fun q ⟨I', h1, h2, h3⟩ => OK.ret (hp _ I' h1 h2 h3)))
end CPf
