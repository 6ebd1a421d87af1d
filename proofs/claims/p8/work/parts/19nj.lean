/-! the builder: its two cells at z, z + 1; c letters, f its bytes; all else as in u -/
section CPJ
variable {B : Nat} {w0 w u : Mp} {T K : Nat → Nat} {V : Nat → Nat → Int32} {R : Nat → Nat → Option Nat} {I : Nat → Int32 → Int32} {O : Nat → Int32 → Option Nat} {N : Nat → Int32} {z sz : Nat} {c : Int32} {f : Nat → Int32} {β : Type} {P : β → Prop}
def TX (z : Nat) (c : Int32) (f : Nat → Int32) (u w : Mp) : Prop := w z = some (.inl (6, [va_rf (some (z + 1)), .int 0, .int 0, .int c])) ∧ w (z + 1) = some (.inr (6, 16, .inl f)) ∧ ∀ a, a ≠ z → a ≠ z + 1 → w a = u a
theorem t_xo {F : Nat → Option β} (h : TX z c f u w) (hp : OK (F z) P) : OK ((xo w (some z) 6).bind F) P := by
  refine OK.eq ?_ hp
  simp [xo, h.1]
theorem t_gc {F : Int32 → Option β} (h : TX z c f u w) (hp : OK (F c) P) : OK ((gI w (some z) 6 3).bind F) P := by
  refine OK.eq ?_ hp
  simp [gI, gF, h.1, oI]
theorem t_gk {F : Int32 → Option β} (h : TX z c f u w) (hp : OK (F 0) P) : OK ((gI w (some z) 6 1).bind F) P := by
  refine OK.eq ?_ hp
  simp [gI, gF, h.1, oI]
theorem t_gv {F : Option Nat → Option β} (h : TX z c f u w) (hp : OK (F (some (z + 1))) P) : OK ((gR w (some z) 6 0).bind F) P := by
  refine OK.eq ?_ hp
  simp [gR, gF, h.1, oR_rf]
theorem t_aL {F : Int32 → Option β} (h : TX z c f u w) (hp : OK (F 16) P) : OK ((aL w (some (z + 1)) 6).bind F) P := by
  refine OK.eq (a := 16) ?_ hp
  simp only [aL, h.2.1]
  rfl
theorem t_pc {F : Mp → Option β} {x : Int32} (h : TX z c f u w) (hp : ∀ w', TX z x f u w' → OK (F w') P) : OK ((pF w (some z) 6 3 (.int x)).bind F) P := by
  refine OK.eq (a := va_up w z (some (.inl (6, [va_rf (some (z + 1)), .int 0, .int 0, .int x])))) ?_ (hp _ ⟨vup_s, ?_, fun a a1 a2 => ?_⟩)
  · simp [pF, h.1]
  · rw [vup_n (by omega)]; exact h.2.1
  · rw [vup_n a1]; exact h.2.2 a a1 a2
theorem in16 {i : Int32} (h0 : 0 ≤ i) (h1 : i < 16) : ¬ (i < 0 ∨ 16 ≤ i.toNatClampNeg) := by
  have := cl_in h0 h1
  rwa [show (16 : Int32).toNatClampNeg = 16 by decide] at this
theorem t_sI {F : Mp → Option β} {i x : Int32} (h : TX z c f u w) (h0 : 0 ≤ i) (h1 : i < 16) (hp : ∀ w', TX z c (upd f i.toNatClampNeg x) u w' → OK (F w') P) : OK ((sI w (some (z + 1)) 6 i x).bind F) P := by
  refine OK.eq (a := va_up w (z + 1) (some (.inr (6, 16, .inl (upd f i.toNatClampNeg x))))) ?_ (hp _ ⟨?_, vup_s, fun a a1 a2 => ?_⟩)
  · simp only [sI, h.2.1]
    rw [if_pos ⟨trivial, in16 h0 h1⟩]
  · rw [vup_n (by omega)]; exact h.1
  · rw [vup_n a2]; exact h.2.2 a a1 a2
theorem t_aI {F : Int32 → Option β} {i : Int32} (h : TX z c f u w) (h0 : 0 ≤ i) (h1 : i < 16) (hp : OK (F (f i.toNatClampNeg)) P) : OK ((aI w (some (z + 1)) 6 i).bind F) P := by
  refine OK.eq ?_ hp
  simp only [aI, h.2.1]
  rw [if_pos ⟨trivial, in16 h0 h1⟩]
theorem t_dig {F : Int32 → Option β} {k : Nat} {i : Int32} (h0 : 0 ≤ i) (h1 : i < 100) (hp : OK (F (if k = 1 then xd1 i.toNatClampNeg else xd2 i.toNatClampNeg)) P) : OK ((xdig k i).bind F) P := by
  refine OK.eq ?_ hp
  have := cl_in h0 h1
  rw [show (100 : Int32).toNatClampNeg = 100 by decide] at this
  unfold xdig
  rw [if_neg this]
theorem t_lat {F : Int32 → Option β} (h : TX z c f u w) (hp : OK (F 1) P) : OK ((f_ASB_isLatin1 w z).bind F) P := by
  refine OK.call (P := fun v => v = 1) ?_ (fun v hv => by rw [hv]; exact hp)
  unfold f_ASB_isLatin1
  exact OK.ifN (by decide) (t_gk h (OK.ifP rfl (OK.ret rfl)))
theorem t_ens {F : Unit → Option β} {x : Int32} (h : TX z c f u w) (x0 : 0 ≤ x) (x1 : x ≤ 16) (hp : OK (F ()) P) : OK ((f_ASB_ensureCapacityInternal w z x).bind F) P := by
  refine OK.call (P := fun _ => True) ?_ (fun v _ => hp)
  unfold f_ASB_ensureCapacityInternal
  have e : (16 : Int32) >>> ((0 : Int32) &&& 31) = 16 := by decide
  exact t_gv h (t_aL h (t_gk h (OK.ifP (by rw [e]; lia) (OK.ret trivial))))
theorem t_can {F : Int32 → Option β} {x : Int32} (hx : x ≤ 255) (hp : OK (F 1) P) : OK ((f_SL1_canEncode w x).bind F) P := by
  refine OK.call (P := fun v => v = 1) ?_ (fun v hv => by rw [hv]; exact hp)
  unfold f_SL1_canEncode
  exact OK.ifN (by lia) (OK.ret rfl)
theorem t_app0 {F : Option Nat × Mp → Option β} {x : Int32} (h : TX z c f u w) (c0 : 0 ≤ c) (c1 : c < 16) (hx : x ≤ 255) (hp : ∀ w', TX z (c + 1) (upd f c.toNatClampNeg (vp_nar .byte x.toInt8.toInt32)) u w' → OK (F (some z, w')) P) : OK ((f_SB_append0 w z x).bind F) P := by
  refine OK.call (P := fun q => q.1 = some z ∧ TX z (c + 1) (upd f c.toNatClampNeg (vp_nar .byte x.toInt8.toInt32)) u q.2) ?_ (fun q hq => by obtain ⟨q1, q2⟩ := q; obtain ⟨rfl, e2⟩ := hq; exact hp _ e2)
  unfold f_SB_append0
  refine t_xo h (OK.call (P := fun q => TX z (c + 1) (upd f c.toNatClampNeg (vp_nar .byte x.toInt8.toInt32)) u q.2) ?_ (fun q hq => OK.ret ⟨rfl, hq⟩))
  unfold f_ASB_append0
  refine t_gc h (t_xo h (t_ens h (by lia) (by lia) (t_xo h (t_lat h (OK.ifN (by decide) (t_can hx (OK.ifN (by decide) (t_gv h (t_gc h (t_pc h (fun w1 h1 => t_sI h1 c0 c1 (fun w2 h2 => OK.ret h2)))))))))))) 
/-! numbers: how many digits -/
def DGs (k y : Int32) : Prop := (k = 1 ∧ -10 < y) ∨ (k = 2 ∧ -100 < y ∧ y ≤ -10) ∨ (k = 3 ∧ -1000 < y ∧ y ≤ -100) ∨ (k = 4 ∧ -10000 < y ∧ y ≤ -1000) ∨ (k = 5 ∧ -100000 < y ∧ y ≤ -10000) ∨ (k = 6 ∧ -1000000 < y ∧ y ≤ -100000) ∨ (k = 7 ∧ -10000000 < y ∧ y ≤ -1000000) ∨ (k = 8 ∧ -100000000 < y ∧ y ≤ -10000000) ∨ (k = 9 ∧ -1000000000 < y ∧ y ≤ -100000000) ∨ (k = 10 ∧ y ≤ -1000000000)
def SQ (y : Int32) (q : Nat × Int32 × Int32) : Prop := (q.1 = 0 ∧ DGs 10 y) ∨ (q.1 = 1 ∧ DGs q.2.2 y)
theorem ss_10 {y d x2 : Int32} {m : Nat} (h : y ≤ -1000000000) : OK (f_Int_stringSize_L16 w y d (m + 1) x2 10) (SQ y) := by
  rw [f_Int_stringSize_L16]
  exact OK.ifP (by decide) (OK.ret (Or.inl ⟨rfl, Or.inr (Or.inr (Or.inr (Or.inr (Or.inr (Or.inr (Or.inr (Or.inr (Or.inr (⟨rfl, h⟩)))))))))⟩))
theorem ss_9 {y d : Int32} {m : Nat} (h : y ≤ -100000000) : OK (f_Int_stringSize_L16 w y d (m + 2) (-1000000000) 9) (SQ y) := by
  show OK (f_Int_stringSize_L16 w y d ((m + 1) + 1) (-1000000000) 9) (SQ y)
  rw [f_Int_stringSize_L16]
  refine OK.ifN (by decide) (OK.ite (fun c9 => ?_) (fun c9 => OK.ret (Or.inr ⟨rfl, Or.inr (Or.inr (Or.inr (Or.inr (Or.inr (Or.inr (Or.inr (Or.inr (Or.inl (⟨rfl, by clear h; lia, h⟩)))))))))⟩)))
  rw [show (9 : Int32) + 1 = 10 by decide]
  exact ss_10 c9
theorem ss_8 {y d : Int32} {m : Nat} (h : y ≤ -10000000) : OK (f_Int_stringSize_L16 w y d (m + 3) (-100000000) 8) (SQ y) := by
  show OK (f_Int_stringSize_L16 w y d ((m + 2) + 1) (-100000000) 8) (SQ y)
  rw [f_Int_stringSize_L16]
  refine OK.ifN (by decide) (OK.ite (fun c9 => ?_) (fun c9 => OK.ret (Or.inr ⟨rfl, Or.inr (Or.inr (Or.inr (Or.inr (Or.inr (Or.inr (Or.inr (Or.inl (⟨rfl, by clear h; lia, h⟩))))))))⟩)))
  rw [show (8 : Int32) + 1 = 9 by decide, show (10 : Int32) * -100000000 = -1000000000 by decide]
  exact ss_9 c9
theorem ss_7 {y d : Int32} {m : Nat} (h : y ≤ -1000000) : OK (f_Int_stringSize_L16 w y d (m + 4) (-10000000) 7) (SQ y) := by
  show OK (f_Int_stringSize_L16 w y d ((m + 3) + 1) (-10000000) 7) (SQ y)
  rw [f_Int_stringSize_L16]
  refine OK.ifN (by decide) (OK.ite (fun c9 => ?_) (fun c9 => OK.ret (Or.inr ⟨rfl, Or.inr (Or.inr (Or.inr (Or.inr (Or.inr (Or.inr (Or.inl (⟨rfl, by clear h; lia, h⟩)))))))⟩)))
  rw [show (7 : Int32) + 1 = 8 by decide, show (10 : Int32) * -10000000 = -100000000 by decide]
  exact ss_8 c9
theorem ss_6 {y d : Int32} {m : Nat} (h : y ≤ -100000) : OK (f_Int_stringSize_L16 w y d (m + 5) (-1000000) 6) (SQ y) := by
  show OK (f_Int_stringSize_L16 w y d ((m + 4) + 1) (-1000000) 6) (SQ y)
  rw [f_Int_stringSize_L16]
  refine OK.ifN (by decide) (OK.ite (fun c9 => ?_) (fun c9 => OK.ret (Or.inr ⟨rfl, Or.inr (Or.inr (Or.inr (Or.inr (Or.inr (Or.inl (⟨rfl, by clear h; lia, h⟩))))))⟩)))
  rw [show (6 : Int32) + 1 = 7 by decide, show (10 : Int32) * -1000000 = -10000000 by decide]
  exact ss_7 c9
theorem ss_5 {y d : Int32} {m : Nat} (h : y ≤ -10000) : OK (f_Int_stringSize_L16 w y d (m + 6) (-100000) 5) (SQ y) := by
  show OK (f_Int_stringSize_L16 w y d ((m + 5) + 1) (-100000) 5) (SQ y)
  rw [f_Int_stringSize_L16]
  refine OK.ifN (by decide) (OK.ite (fun c9 => ?_) (fun c9 => OK.ret (Or.inr ⟨rfl, Or.inr (Or.inr (Or.inr (Or.inr (Or.inl (⟨rfl, by clear h; lia, h⟩)))))⟩)))
  rw [show (5 : Int32) + 1 = 6 by decide, show (10 : Int32) * -100000 = -1000000 by decide]
  exact ss_6 c9
theorem ss_4 {y d : Int32} {m : Nat} (h : y ≤ -1000) : OK (f_Int_stringSize_L16 w y d (m + 7) (-10000) 4) (SQ y) := by
  show OK (f_Int_stringSize_L16 w y d ((m + 6) + 1) (-10000) 4) (SQ y)
  rw [f_Int_stringSize_L16]
  refine OK.ifN (by decide) (OK.ite (fun c9 => ?_) (fun c9 => OK.ret (Or.inr ⟨rfl, Or.inr (Or.inr (Or.inr (Or.inl (⟨rfl, by clear h; lia, h⟩))))⟩)))
  rw [show (4 : Int32) + 1 = 5 by decide, show (10 : Int32) * -10000 = -100000 by decide]
  exact ss_5 c9
theorem ss_3 {y d : Int32} {m : Nat} (h : y ≤ -100) : OK (f_Int_stringSize_L16 w y d (m + 8) (-1000) 3) (SQ y) := by
  show OK (f_Int_stringSize_L16 w y d ((m + 7) + 1) (-1000) 3) (SQ y)
  rw [f_Int_stringSize_L16]
  refine OK.ifN (by decide) (OK.ite (fun c9 => ?_) (fun c9 => OK.ret (Or.inr ⟨rfl, Or.inr (Or.inr (Or.inl (⟨rfl, by clear h; lia, h⟩)))⟩)))
  rw [show (3 : Int32) + 1 = 4 by decide, show (10 : Int32) * -1000 = -10000 by decide]
  exact ss_4 c9
theorem ss_2 {y d : Int32} {m : Nat} (h : y ≤ -10) : OK (f_Int_stringSize_L16 w y d (m + 9) (-100) 2) (SQ y) := by
  show OK (f_Int_stringSize_L16 w y d ((m + 8) + 1) (-100) 2) (SQ y)
  rw [f_Int_stringSize_L16]
  refine OK.ifN (by decide) (OK.ite (fun c9 => ?_) (fun c9 => OK.ret (Or.inr ⟨rfl, Or.inr (Or.inl (⟨rfl, by clear h; lia, h⟩))⟩)))
  rw [show (2 : Int32) + 1 = 3 by decide, show (10 : Int32) * -100 = -1000 by decide]
  exact ss_3 c9
theorem ss_1 {y d : Int32} {m : Nat} : OK (f_Int_stringSize_L16 w y d (m + 10) (-10) 1) (SQ y) := by
  show OK (f_Int_stringSize_L16 w y d ((m + 9) + 1) (-10) 1) (SQ y)
  rw [f_Int_stringSize_L16]
  refine OK.ifN (by decide) (OK.ite (fun c9 => ?_) (fun c9 => OK.ret (Or.inr ⟨rfl, Or.inl (⟨rfl, by lia⟩)⟩)))
  rw [show (1 : Int32) + 1 = 2 by decide, show (10 : Int32) * -10 = -100 by decide]
  exact ss_2 c9
theorem t_size {F : Int32 → Option β} {x : Int32} (hp : ∀ k d y, ((x < 0 ∧ d = 1 ∧ y = x) ∨ (0 ≤ x ∧ d = 0 ∧ y = -x)) → DGs k y → OK (F (k + d)) P) : OK ((f_Int_stringSize w x).bind F) P := by
  have go : ∀ y d : Int32, OK ((f_Int_stringSize_L16 w y d 100000 (-10 : Int32) (1 : Int32)).bind fun q_4 => if q_4.1 = 0 then (some ((10 : Int32) + d)) else (if q_4.1 = 1 then (some (q_4.2.2 + d)) else (none))) (fun v => ∃ k, DGs k y ∧ v = k + d) := fun y d => by
    refine OK.call (ss_1 (w := w) (y := y) (d := d) (m := 99990)) (fun q hq => ?_)
    rcases hq with ⟨e, g⟩ | ⟨e, g⟩
    · exact OK.ifP e (OK.ret ⟨10, g, rfl⟩)
    · exact OK.ifN (by rw [e]; decide) (OK.ifP e (OK.ret ⟨_, g, rfl⟩))
  refine OK.call (P := fun v => ∃ k d y, ((x < 0 ∧ d = 1 ∧ y = x) ∨ (0 ≤ x ∧ d = 0 ∧ y = -x)) ∧ DGs k y ∧ v = k + d) ?_ (fun v hv => ?_)
  · unfold f_Int_stringSize
    refine OK.J2 (OK.ite (fun c9 => (go x 1).mono (fun v hv => ?_)) (fun c9 => (go (-x) 0).mono (fun v hv => ?_)))
    · obtain ⟨k, g, e⟩ := hv
      exact ⟨k, 1, x, Or.inl ⟨c9, rfl, rfl⟩, g, e⟩
    · obtain ⟨k, g, e⟩ := hv
      exact ⟨k, 0, -x, Or.inr ⟨by lia, rfl, rfl⟩, g, e⟩
  · obtain ⟨k, d, y, g1, g2, rfl⟩ := hv
    exact hp k d y g1 g2
theorem dv100 {i : Int32} (h : i ≤ -100) : ∃ q, i / 100 = q ∧ q ≤ -1 ∧ 0 ≤ q * 100 - i ∧ q * 100 - i < 100 ∧ (-1000 < i → -10 < q) ∧ (-10000 < i → -100 < q) ∧ (-100000 < i → -1000 < q) ∧ (-1000000 < i → -10000 < q) ∧ (-10000000 < i → -100000 < q) ∧ (-100000000 < i → -1000000 < q) ∧ (-1000000000 < i → -10000000 < q) ∧ -100000000 < q := by
  refine ⟨_, rfl, ?_⟩
  rw [Int32.le_iff_toInt_le, show (-100 : Int32).toInt = -100 by decide] at h
  have hb := Int32.le_toInt i
  have e : (i / 100).toInt = -((-i.toInt) / 100) := by
    rw [Int32.toInt_div, show (100 : Int32).toInt = 100 by decide, show i.toInt.tdiv 100 = -((-i.toInt) / 100) by
      rw [show i.toInt = -(-i.toInt) by omega, Int.neg_tdiv, Int.tdiv_eq_ediv_of_nonneg (by omega)]; omega]
    rw [Int.bmod_eq_of_le (by omega) (by omega)]
  have e2 : (i / 100 * 100).toInt = -((-i.toInt) / 100) * 100 := by
    rw [Int32.toInt_mul, e, show (100 : Int32).toInt = 100 by decide, Int.bmod_eq_of_le (by omega) (by omega)]
  have e3 : (i / 100 * 100 - i).toInt = -((-i.toInt) / 100) * 100 - i.toInt := by
    rw [Int32.toInt_sub, e2, Int.bmod_eq_of_le (by omega) (by omega)]
  generalize i / 100 * 100 - i = r at e3 ⊢
  generalize i / 100 = q at e ⊢
  simp only [Int32.le_iff_toInt_le, Int32.lt_iff_toInt_lt, e, e3, show (0 : Int32).toInt = 0 by decide, show (-1 : Int32).toInt = -1 by decide, show (100 : Int32).toInt = 100 by decide, show (-10 : Int32).toInt = -10 by decide, show (-100 : Int32).toInt = -100 by decide, show (-1000 : Int32).toInt = -1000 by decide, show (-10000 : Int32).toInt = -10000 by decide, show (-100000 : Int32).toInt = -100000 by decide, show (-1000000 : Int32).toInt = -1000000 by decide, show (-10000000 : Int32).toInt = -10000000 by decide, show (-100000000 : Int32).toInt = -100000000 by decide, show (-1000000000 : Int32).toInt = -1000000000 by decide]
  omega
def GP (z : Nat) (c : Int32) (u : Mp) (d : Int32) (q : Nat × Int32 × Int32 × Mp) : Prop := (-100 < q.2.1 ∧ q.2.1 ≤ 0) ∧ (1 + d ≤ q.2.2.1 ∧ q.2.2.1 ≤ 16) ∧ (q.2.1 < -9 → 2 + d ≤ q.2.2.1) ∧ ∃ f, TX z c f u q.2.2.2
theorem gc_1 {i p d x6 : Int32} {m : Nat} (h : TX z c f u w) (hi : i ≤ 0) (hb : -10 < i) (d0 : 0 ≤ d) (d1 : d ≤ 1) (p0 : 1 + d ≤ p) (p1 : p ≤ 16) : OK (f_Int_getChars_L22 (some (z + 1)) x6 (m + 1) i p w) (GP z c u d) := by
  show OK (f_Int_getChars_L22 (some (z + 1)) x6 ((m + 0) + 1) i p w) (GP z c u d)
  rw [f_Int_getChars_L22]
  exact OK.ifP (by lia) (OK.ret ⟨⟨by lia, hi⟩, ⟨by lia, p1⟩, fun z9 => by lia, f, h⟩)
theorem gc_2 {i p d x6 : Int32} {m : Nat} (h : TX z c f u w) (hi : i ≤ 0) (hb : -100 < i) (d0 : 0 ≤ d) (d1 : d ≤ 1) (p0 : 2 + d ≤ p) (p1 : p ≤ 16) : OK (f_Int_getChars_L22 (some (z + 1)) x6 (m + 1) i p w) (GP z c u d) := by
  show OK (f_Int_getChars_L22 (some (z + 1)) x6 ((m + 0) + 1) i p w) (GP z c u d)
  rw [f_Int_getChars_L22]
  exact OK.ifP (by lia) (OK.ret ⟨⟨by lia, hi⟩, ⟨by lia, p1⟩, fun z9 => by lia, f, h⟩)
theorem gc_3 {i p d x6 : Int32} {m : Nat} (h : TX z c f u w) (hi : i ≤ 0) (hb : -1000 < i) (d0 : 0 ≤ d) (d1 : d ≤ 1) (p0 : 3 + d ≤ p) (p1 : p ≤ 16) : OK (f_Int_getChars_L22 (some (z + 1)) x6 (m + 2) i p w) (GP z c u d) := by
  show OK (f_Int_getChars_L22 (some (z + 1)) x6 ((m + 1) + 1) i p w) (GP z c u d)
  rw [f_Int_getChars_L22]
  refine OK.ite (fun c9 => OK.ret ⟨⟨c9, hi⟩, ⟨by lia, p1⟩, fun z9 => by lia, f, h⟩) (fun c9 => ?_)
  obtain ⟨q, e, a1, a2, a3, b3, b4, b5, b6, b7, b8, b9, bl⟩ := dv100 (i := i) (by lia)
  rw [e]
  exact t_dig a2 a3 (t_sI h (by lia) (by lia) (fun w1 h1 => t_dig a2 a3 (t_sI h1 (by lia) (by lia) (fun w2 h2 => gc_1 h2 (by lia) (b3 hb) d0 d1 (by lia) (by lia)))))
theorem gc_4 {i p d x6 : Int32} {m : Nat} (h : TX z c f u w) (hi : i ≤ 0) (hb : -10000 < i) (d0 : 0 ≤ d) (d1 : d ≤ 1) (p0 : 4 + d ≤ p) (p1 : p ≤ 16) : OK (f_Int_getChars_L22 (some (z + 1)) x6 (m + 2) i p w) (GP z c u d) := by
  show OK (f_Int_getChars_L22 (some (z + 1)) x6 ((m + 1) + 1) i p w) (GP z c u d)
  rw [f_Int_getChars_L22]
  refine OK.ite (fun c9 => OK.ret ⟨⟨c9, hi⟩, ⟨by lia, p1⟩, fun z9 => by lia, f, h⟩) (fun c9 => ?_)
  obtain ⟨q, e, a1, a2, a3, b3, b4, b5, b6, b7, b8, b9, bl⟩ := dv100 (i := i) (by lia)
  rw [e]
  exact t_dig a2 a3 (t_sI h (by lia) (by lia) (fun w1 h1 => t_dig a2 a3 (t_sI h1 (by lia) (by lia) (fun w2 h2 => gc_2 h2 (by lia) (b4 hb) d0 d1 (by lia) (by lia)))))
theorem gc_5 {i p d x6 : Int32} {m : Nat} (h : TX z c f u w) (hi : i ≤ 0) (hb : -100000 < i) (d0 : 0 ≤ d) (d1 : d ≤ 1) (p0 : 5 + d ≤ p) (p1 : p ≤ 16) : OK (f_Int_getChars_L22 (some (z + 1)) x6 (m + 3) i p w) (GP z c u d) := by
  show OK (f_Int_getChars_L22 (some (z + 1)) x6 ((m + 2) + 1) i p w) (GP z c u d)
  rw [f_Int_getChars_L22]
  refine OK.ite (fun c9 => OK.ret ⟨⟨c9, hi⟩, ⟨by lia, p1⟩, fun z9 => by lia, f, h⟩) (fun c9 => ?_)
  obtain ⟨q, e, a1, a2, a3, b3, b4, b5, b6, b7, b8, b9, bl⟩ := dv100 (i := i) (by lia)
  rw [e]
  exact t_dig a2 a3 (t_sI h (by lia) (by lia) (fun w1 h1 => t_dig a2 a3 (t_sI h1 (by lia) (by lia) (fun w2 h2 => gc_3 h2 (by lia) (b5 hb) d0 d1 (by lia) (by lia)))))
theorem gc_6 {i p d x6 : Int32} {m : Nat} (h : TX z c f u w) (hi : i ≤ 0) (hb : -1000000 < i) (d0 : 0 ≤ d) (d1 : d ≤ 1) (p0 : 6 + d ≤ p) (p1 : p ≤ 16) : OK (f_Int_getChars_L22 (some (z + 1)) x6 (m + 3) i p w) (GP z c u d) := by
  show OK (f_Int_getChars_L22 (some (z + 1)) x6 ((m + 2) + 1) i p w) (GP z c u d)
  rw [f_Int_getChars_L22]
  refine OK.ite (fun c9 => OK.ret ⟨⟨c9, hi⟩, ⟨by lia, p1⟩, fun z9 => by lia, f, h⟩) (fun c9 => ?_)
  obtain ⟨q, e, a1, a2, a3, b3, b4, b5, b6, b7, b8, b9, bl⟩ := dv100 (i := i) (by lia)
  rw [e]
  exact t_dig a2 a3 (t_sI h (by lia) (by lia) (fun w1 h1 => t_dig a2 a3 (t_sI h1 (by lia) (by lia) (fun w2 h2 => gc_4 h2 (by lia) (b6 hb) d0 d1 (by lia) (by lia)))))
theorem gc_7 {i p d x6 : Int32} {m : Nat} (h : TX z c f u w) (hi : i ≤ 0) (hb : -10000000 < i) (d0 : 0 ≤ d) (d1 : d ≤ 1) (p0 : 7 + d ≤ p) (p1 : p ≤ 16) : OK (f_Int_getChars_L22 (some (z + 1)) x6 (m + 4) i p w) (GP z c u d) := by
  show OK (f_Int_getChars_L22 (some (z + 1)) x6 ((m + 3) + 1) i p w) (GP z c u d)
  rw [f_Int_getChars_L22]
  refine OK.ite (fun c9 => OK.ret ⟨⟨c9, hi⟩, ⟨by lia, p1⟩, fun z9 => by lia, f, h⟩) (fun c9 => ?_)
  obtain ⟨q, e, a1, a2, a3, b3, b4, b5, b6, b7, b8, b9, bl⟩ := dv100 (i := i) (by lia)
  rw [e]
  exact t_dig a2 a3 (t_sI h (by lia) (by lia) (fun w1 h1 => t_dig a2 a3 (t_sI h1 (by lia) (by lia) (fun w2 h2 => gc_5 h2 (by lia) (b7 hb) d0 d1 (by lia) (by lia)))))
theorem gc_8 {i p d x6 : Int32} {m : Nat} (h : TX z c f u w) (hi : i ≤ 0) (hb : -100000000 < i) (d0 : 0 ≤ d) (d1 : d ≤ 1) (p0 : 8 + d ≤ p) (p1 : p ≤ 16) : OK (f_Int_getChars_L22 (some (z + 1)) x6 (m + 4) i p w) (GP z c u d) := by
  show OK (f_Int_getChars_L22 (some (z + 1)) x6 ((m + 3) + 1) i p w) (GP z c u d)
  rw [f_Int_getChars_L22]
  refine OK.ite (fun c9 => OK.ret ⟨⟨c9, hi⟩, ⟨by lia, p1⟩, fun z9 => by lia, f, h⟩) (fun c9 => ?_)
  obtain ⟨q, e, a1, a2, a3, b3, b4, b5, b6, b7, b8, b9, bl⟩ := dv100 (i := i) (by lia)
  rw [e]
  exact t_dig a2 a3 (t_sI h (by lia) (by lia) (fun w1 h1 => t_dig a2 a3 (t_sI h1 (by lia) (by lia) (fun w2 h2 => gc_6 h2 (by lia) (b8 hb) d0 d1 (by lia) (by lia)))))
theorem gc_9 {i p d x6 : Int32} {m : Nat} (h : TX z c f u w) (hi : i ≤ 0) (hb : -1000000000 < i) (d0 : 0 ≤ d) (d1 : d ≤ 1) (p0 : 9 + d ≤ p) (p1 : p ≤ 16) : OK (f_Int_getChars_L22 (some (z + 1)) x6 (m + 5) i p w) (GP z c u d) := by
  show OK (f_Int_getChars_L22 (some (z + 1)) x6 ((m + 4) + 1) i p w) (GP z c u d)
  rw [f_Int_getChars_L22]
  refine OK.ite (fun c9 => OK.ret ⟨⟨c9, hi⟩, ⟨by lia, p1⟩, fun z9 => by lia, f, h⟩) (fun c9 => ?_)
  obtain ⟨q, e, a1, a2, a3, b3, b4, b5, b6, b7, b8, b9, bl⟩ := dv100 (i := i) (by lia)
  rw [e]
  exact t_dig a2 a3 (t_sI h (by lia) (by lia) (fun w1 h1 => t_dig a2 a3 (t_sI h1 (by lia) (by lia) (fun w2 h2 => gc_7 h2 (by lia) (b9 hb) d0 d1 (by lia) (by lia)))))
theorem gc_10 {i p d x6 : Int32} {m : Nat} (h : TX z c f u w) (hi : i ≤ 0) (d0 : 0 ≤ d) (d1 : d ≤ 1) (p0 : 10 + d ≤ p) (p1 : p ≤ 16) : OK (f_Int_getChars_L22 (some (z + 1)) x6 (m + 5) i p w) (GP z c u d) := by
  show OK (f_Int_getChars_L22 (some (z + 1)) x6 ((m + 4) + 1) i p w) (GP z c u d)
  rw [f_Int_getChars_L22]
  refine OK.ite (fun c9 => OK.ret ⟨⟨c9, hi⟩, ⟨by lia, p1⟩, fun z9 => by lia, f, h⟩) (fun c9 => ?_)
  obtain ⟨q, e, a1, a2, a3, b3, b4, b5, b6, b7, b8, b9, bl⟩ := dv100 (i := i) (by lia)
  rw [e]
  exact t_dig a2 a3 (t_sI h (by lia) (by lia) (fun w1 h1 => t_dig a2 a3 (t_sI h1 (by lia) (by lia) (fun w2 h2 => gc_8 h2 (by lia) (bl) d0 d1 (by lia) (by lia)))))
theorem gc_all {i p d k x6 : Int32} (h : TX z c f u w) (hk : DGs k i) (hi : i ≤ 0) (d0 : 0 ≤ d) (d1 : d ≤ 1) (p0 : k + d ≤ p) (p1 : p ≤ 16) : OK (f_Int_getChars_L22 (some (z + 1)) x6 100000 i p w) (GP z c u d) := by
  rcases hk with ⟨rfl, a⟩ | ⟨rfl, a, b⟩ | ⟨rfl, a, b⟩ | ⟨rfl, a, b⟩ | ⟨rfl, a, b⟩ | ⟨rfl, a, b⟩ | ⟨rfl, a, b⟩ | ⟨rfl, a, b⟩ | ⟨rfl, a, b⟩ | ⟨rfl, a⟩
  · exact gc_1 (m := 99999) h hi a d0 d1 p0 p1
  · exact gc_2 (m := 99999) h hi a d0 d1 p0 p1
  · exact gc_3 (m := 99998) h hi a d0 d1 p0 p1
  · exact gc_4 (m := 99998) h hi a d0 d1 p0 p1
  · exact gc_5 (m := 99997) h hi a d0 d1 p0 p1
  · exact gc_6 (m := 99997) h hi a d0 d1 p0 p1
  · exact gc_7 (m := 99996) h hi a d0 d1 p0 p1
  · exact gc_8 (m := 99996) h hi a d0 d1 p0 p1
  · exact gc_9 (m := 99995) h hi a d0 d1 p0 p1
  · exact gc_10 (m := 99995) h hi d0 d1 p0 p1
theorem t_get {F : Int32 × Mp → Option β} {x n k d y : Int32} (h : TX z c f u w) (hx : (x < 0 ∧ d = 1 ∧ y = x) ∨ (0 ≤ x ∧ d = 0 ∧ y = -x)) (hk : DGs k y) (n0 : k + d ≤ n) (n1 : n ≤ 16) (hp : ∀ v w' f', TX z c f' u w' → OK (F (v, w')) P) : OK ((f_Int_getChars w x n (some (z + 1))).bind F) P := by
  refine OK.call (P := fun q => ∃ f', TX z c f' u q.2) ?_ (fun q hq => by obtain ⟨q1, q2⟩ := q; obtain ⟨f', e2⟩ := hq; exact hp _ _ _ e2)
  unfold f_Int_getChars
  rcases hx with ⟨x0, rfl, rfl⟩ | ⟨x0, rfl, rfl⟩
  · refine OK.J1 (OK.ifN (by lia) (OK.J1 (OK.ifN (by decide) (OK.call (gc_all h hk (by lia) (by decide) (by decide) n0 n1) (fun q hq => ?_)))))
    obtain ⟨⟨q1, q2⟩, ⟨q3, q4⟩, q5, f1, h1⟩ := hq
    clear hk n0 n1 x0
    refine t_dig (by lia) (by lia) (t_sI h1 (by lia) (by lia) (fun w2 h2 => OK.J2 (OK.ite (fun c9 => ?_) (fun c9 => t_dig (by lia) (by lia) (t_sI h2 (by lia) (by lia) (fun w3 h3 => ?_))))))
    · exact OK.ifN (by decide) (t_sI h2 (by lia) (by lia) (fun w4 h4 => OK.ret ⟨_, h4⟩))
    · exact OK.ifN (by decide) (t_sI h3 (by lia) (by lia) (fun w4 h4 => OK.ret ⟨_, h4⟩))
  · refine OK.J1 (OK.ifP x0 (OK.J1 (OK.ifP rfl (OK.call (gc_all h hk (by lia) (by decide) (by decide) n0 n1) (fun q hq => ?_)))))
    obtain ⟨⟨q1, q2⟩, ⟨q3, q4⟩, q5, f1, h1⟩ := hq
    clear hk n0 n1 x0
    refine t_dig (by lia) (by lia) (t_sI h1 (by lia) (by lia) (fun w2 h2 => OK.J2 (OK.ite (fun c9 => ?_) (fun c9 => t_dig (by lia) (by lia) (t_sI h2 (by lia) (by lia) (fun w3 h3 => ?_))))))
    · exact OK.ifP rfl (OK.ret ⟨_, h2⟩)
    · exact OK.ifP rfl (OK.ret ⟨_, h3⟩)
theorem DGs_b {k y : Int32} (h : DGs k y) : 1 ≤ k ∧ k ≤ 10 := by
  rcases h with ⟨rfl, -⟩ | ⟨rfl, -⟩ | ⟨rfl, -⟩ | ⟨rfl, -⟩ | ⟨rfl, -⟩ | ⟨rfl, -⟩ | ⟨rfl, -⟩ | ⟨rfl, -⟩ | ⟨rfl, -⟩ | ⟨rfl, -⟩ <;> decide
theorem DGs_1 {k y : Int32} (h : DGs k y) (hy : -9 ≤ y) : k = 1 := by
  rcases h with ⟨e, a⟩ | ⟨e, a, b⟩ | ⟨e, a, b⟩ | ⟨e, a, b⟩ | ⟨e, a, b⟩ | ⟨e, a, b⟩ | ⟨e, a, b⟩ | ⟨e, a, b⟩ | ⟨e, a, b⟩ | ⟨e, a⟩
  · exact e
  · exact absurd b (by lia)
  · exact absurd b (by lia)
  · exact absurd b (by lia)
  · exact absurd b (by lia)
  · exact absurd b (by lia)
  · exact absurd b (by lia)
  · exact absurd b (by lia)
  · exact absurd b (by lia)
  · exact absurd a (by lia)
theorem t_app1 {F : Option Nat × Mp → Option β} {x : Int32} (h : TX z c f u w) (c0 : 0 ≤ c) (c1 : c ≤ 5) (hp : ∀ w' f' c', c < c' → (0 ≤ x → x ≤ 9 → c' = c + 1) → c' ≤ c + 11 → TX z c' f' u w' → OK (F (some z, w')) P) : OK ((f_SB_append1 w z x).bind F) P := by
  refine OK.call (P := fun q => q.1 = some z ∧ ∃ f' c', c < c' ∧ (0 ≤ x → x ≤ 9 → c' = c + 1) ∧ c' ≤ c + 11 ∧ TX z c' f' u q.2) ?_ (fun q hq => by obtain ⟨q1, q2⟩ := q; obtain ⟨rfl, f', c', e1, e2, e3, e4⟩ := hq; exact hp _ _ _ e1 e2 e3 e4)
  unfold f_SB_append1
  refine t_xo h (OK.call (P := fun q => ∃ f' c', c < c' ∧ (0 ≤ x → x ≤ 9 → c' = c + 1) ∧ c' ≤ c + 11 ∧ TX z c' f' u q.2) ?_ (fun q hq => OK.ret ⟨rfl, hq⟩))
  unfold f_ASB_append1
  refine t_gc h (t_size (fun k d y hx hk => ?_))
  have kb := DGs_b hk
  have k1 : 0 ≤ x → x ≤ 9 → k = 1 ∧ d = 0 := fun a b => by
    rcases hx with ⟨e, -, -⟩ | ⟨-, e2, e3⟩
    · exact absurd e (by lia)
    · exact ⟨DGs_1 hk (by rw [e3]; clear hk kb; lia), e2⟩
  have db : 0 ≤ d ∧ d ≤ 1 := by
    rcases hx with ⟨-, e, -⟩ | ⟨-, e, -⟩ <;> rw [e] <;> decide
  have nb : 0 ≤ c + (k + d) ∧ c + (k + d) ≤ 16 ∧ k + d ≤ c + (k + d) ∧ c < c + (k + d) ∧ c + (k + d) ≤ c + 11 := by
    clear hk hx k1
    refine ⟨?_, ?_, ?_, ?_, ?_⟩ <;> lia
  refine t_xo h (t_ens h nb.1 nb.2.1 (t_xo h (t_lat h (OK.ifN (by decide) (t_gv h (t_get h hx hk nb.2.2.1 nb.2.1 (fun v w1 f1 h1 => t_pc h1 (fun w2 h2 => OK.ret ⟨f1, _, nb.2.2.2.1, fun a b => ?_, nb.2.2.2.2, h2⟩))))))))
  obtain ⟨rfl, rfl⟩ := k1 a b
  rfl
theorem t_str {F : Int32 → Option β} {k : Int32} (k0 : 0 ≤ k) (k1 : k ≤ 3) (hp : ∀ v, v ≤ 255 → v = ([66, 83, 82, 68] : List Int32).getD k.toNatClampNeg 0 → OK (F v) P) : OK ((f_Str_charAt w k).bind F) P := by
  have : k = 0 ∨ k = 1 ∨ k = 2 ∨ k = 3 := by lia
  rcases this with rfl | rfl | rfl | rfl
  · exact OK.eq (show f_Str_charAt w 0 = some 66 from rfl) (hp _ (by decide) rfl)
  · exact OK.eq (show f_Str_charAt w 1 = some 83 from rfl) (hp _ (by decide) rfl)
  · exact OK.eq (show f_Str_charAt w 2 = some 82 from rfl) (hp _ (by decide) rfl)
  · exact OK.eq (show f_Str_charAt w 3 = some 68 from rfl) (hp _ (by decide) rfl)
theorem t_new {F : Unit × Mp × Nat → Option β} (hp : ∀ w', TX z 0 (fun _ => 0) w w' → OK (F ((), w', z + 2)) P) : OK ((xnO w z 6 [.null, .int 0, .int 0, .int 0]).bind fun w1 => (xo w1 (some z) 6).bind fun b => (f_SB_init w1 (z + 1) b).bind F) P := by
  refine OK.eq (a := va_up w z (some (.inl (6, [.null, .int 0, .int 0, .int 0])))) rfl (OK.eq (a := z) (by simp [xo, va_up]) ?_)
  refine OK.eq (a := ((), va_up (va_up (va_up (va_up w z (some (.inl (6, [.null, .int 0, .int 0, .int 0])))) (z + 1) (some (.inr (6, 16, .inl (fun _ => 0))))) z (some (.inl (6, [va_rf (some (z + 1)), .int 0, .int 0, .int 0])))) z (some (.inl (6, [va_rf (some (z + 1)), .int 0, .int 0, .int 0]))), z + 2)) ?_ (hp _ ⟨vup_s, ?_, fun a a1 a2 => ?_⟩)
  · have e : ¬ ((16 : Int32) < 0 ∨ 16 < (16 : Int32).toNatClampNeg ∨ 100000000 < (16 : Int32).toNatClampNeg) := by decide
    have e2 : (16 : Int32).toNatClampNeg = 16 := by decide
    simp [f_SB_init, f_ASB_init, xo, va_up, xnI, e2, pF]
  · rw [vup_n (by omega), vup_n (by omega), vup_s]
  · rw [vup_n a1, vup_n a1, vup_n a2, vup_n a1]
theorem CW_tx (h : CW B w0 T V R I O N w) (hF : FR T sz) (hz : B + 29 ≤ sz) {w' : Mp} (hx : TX sz c f w w') : CW B w0 T V R I O N w' := by
  have e : ∀ a, a < sz → w' a = w a := fun a ha => hx.2.2 a (by omega) (by omega)
  have t : ∀ a, T a ≠ 10 → w' a = w a := fun a ha => e a (Nat.lt_of_not_le (fun q => ha (hF a q)))
  obtain ⟨h1, h2, h3, h4⟩ := h
  refine ⟨fun a ci ta hc => ?_, fun a ta => ?_, fun a q ta t1 t2 => ?_, fun a a1 a2 => ?_⟩
  · rw [t a (by rw [ta]; omega)]; exact h1 a ci ta hc
  · rw [t a (by rw [ta]; decide)]; exact h2 a ta
  · rw [t a (by rw [ta]; unfold tr; omega)]; exact h3 a q ta t1 t2
  · rw [e a (by omega)]; exact h4 a a1 a2
theorem n_written {F : Option Nat × Mp × Nat → Option β} {fc kd : Int32} {q l : Nat} (h : CW B w0 T V R I O N w) (hF : FR T sz) (hz : B + 29 ≤ sz) (f0 : 0 ≤ fc) (f1 : fc ≤ 7) (k0 : 0 ≤ kd) (k1 : kd ≤ 3) (tq : T q = 2) (rl : R q 0 = some l) (tl : T l = 1) (hp : ∀ w' f' c', 0 ≤ c' → c' ≤ 16 → TX sz c' f' w w' → OK (F (some sz, w', sz + 2)) P) : OK ((f_LM_writtenOn w sz fc kd (some q)).bind F) P := by
  refine OK.call (P := fun q => q.1 = some sz ∧ q.2.2 = sz + 2 ∧ ∃ f' c', 0 ≤ c' ∧ c' ≤ 16 ∧ TX sz c' f' w q.2.1) ?_ (fun q hq => by obtain ⟨q1, q2, q3⟩ := q; obtain ⟨rfl, rfl, f', c', e1, e2, e3⟩ := hq; exact hp _ _ _ e1 e2 e3)
  unfold f_LM_writtenOn
  refine t_new (fun w1 x1 => t_xo x1 (t_app0 x1 (by decide) (by decide) (by decide) (fun w2 x2 => t_xo x2 (t_app1 x2 (by decide) (by decide) (fun w3 f3 c3 a3 b3 d3 x3 => ?_)))))
  have e3 : c3 = 2 := (b3 (by lia) (by lia)).trans (by decide)
  subst e3
  refine t_str k0 k1 (fun v v1 _ => t_xo x3 (t_app0 x3 (by decide) (by decide) v1 (fun w4 x4 => ?_)))
  have h4 := CW_tx h hF hz x4
  refine c_gRs h4 tq rl (by decide) (c_gI h4 tl (by decide) (t_xo x4 (t_app1 x4 (by decide) (by decide) (fun w5 f5 c5 a5 b5 d5 x5 => ?_))))
  have h5 := CW_tx h hF hz x5
  have g5 : 3 < c5 ∧ c5 ≤ 14 := by
    rw [show (2 : Int32) + 1 = 3 by decide] at a5 d5
    rw [show (3 : Int32) + 11 = 14 by decide] at d5
    exact ⟨a5, d5⟩
  clear a5 b5 d5
  have go : ∀ (w6 : Mp) (f6 : Nat → Int32) (c6 : Int32), 3 < c6 → c6 ≤ 15 → TX sz c6 f6 w w6 → OK ((gI w6 (some q) 2 2).bind fun v_18 => if v_18 = 0 then (some ((some sz), w6, sz + 2)) else ((xo w6 (some sz) 6).bind fun b_20 => (f_SB_append0 w6 b_20 (116 : Int32)).bind fun q_19 => some ((some sz), q_19.2, sz + 2))) (fun q => q.1 = some sz ∧ q.2.2 = sz + 2 ∧ ∃ f' c', 0 ≤ c' ∧ c' ≤ 16 ∧ TX sz c' f' w q.2.1) := fun w6 f6 c6 a6 b6 x6 => by
    have h6 := CW_tx h hF hz x6
    exact c_gI h6 tq (by decide) (OK.ite (fun _ => OK.ret ⟨rfl, rfl, f6, c6, by lia, by lia, x6⟩) (fun _ => t_xo x6 (t_app0 x6 (by lia) (by lia) (by decide) (fun w7 x7 => OK.ret ⟨rfl, rfl, _, c6 + 1, by lia, by lia, x7⟩))))
  refine c_gI h5 tq (by decide) (OK.J1 (OK.ite (fun _ => go _ _ _ g5.1 (by lia) x5) (fun _ => t_xo x5 (t_app0 x5 (by lia) (by lia) (by decide) (fun w6 x6 => go _ _ _ (by lia) (by lia) x6)))))
theorem t_len {F : Int32 → Option β} (h : TX z c f u w) (hp : OK (F c) P) : OK ((f_SB_length w z).bind F) P := by
  refine OK.call (P := fun v => v = c) ?_ (fun v hv => by rw [hv]; exact hp)
  unfold f_SB_length
  refine t_xo h (OK.call (P := fun v => v = c) ?_ (fun v hv => OK.ret hv))
  unfold f_ASB_length
  exact t_gc h (OK.ret rfl)
theorem chr_ok (v : Int32) : vp_nar .char (((v &&& (255 : Int32)).toUInt32 % 65536).toInt32) = (((v &&& (255 : Int32)).toUInt32 % 65536).toInt32) := by
  have e : ∀ y : UInt32, y % 65536 % 65536 = y % 65536 := fun y => UInt32.toNat_inj.mp (by simp [UInt32.toNat_mod])
  show ((((v &&& (255 : Int32)).toUInt32 % 65536).toInt32).toUInt32 % 65536).toInt32 = _
  generalize (v &&& (255 : Int32)).toUInt32 = y
  rw [show ((y % 65536).toInt32).toUInt32 = y % 65536 from rfl, e]
theorem t_chr {F : Int32 → Option β} {i : Int32} (h : TX z c f u w) (i0 : 0 ≤ i) (i1 : i < c) (c1 : c ≤ 16) (hp : ∀ v, v = ((f i.toNatClampNeg &&& (255 : Int32)).toUInt32 % 65536).toInt32 → OK (F v) P) : OK ((f_SB_charAt w z i).bind F) P := by
  refine OK.call (P := fun v => v = ((f i.toNatClampNeg &&& (255 : Int32)).toUInt32 % 65536).toInt32) ?_ (fun v hv => hp v hv)
  unfold f_SB_charAt
  refine t_xo h (OK.call (P := fun v => v = ((f i.toNatClampNeg &&& (255 : Int32)).toUInt32 % 65536).toInt32) ?_ (fun v hv => OK.ifP (by rw [hv]; exact chr_ok _) (OK.ret hv)))
  unfold f_ASB_charAt
  have e : (16 : Int32) >>> ((0 : Int32) &&& 31) = 16 := by decide
  refine t_gk h (t_gv h (t_gc h (t_aL h (OK.call (P := fun _ => True) ?_ (fun _ _ => OK.ifP rfl (t_aI h i0 (by lia) (OK.ifP (chr_ok _) (OK.ret rfl))))))))
  rw [e, if_neg (by lia)]
  unfold f_Str_checkIndex
  refine OK.call (P := fun _ => True) ?_ (fun _ _ => OK.ret trivial)
  unfold f_Pre_checkIndex
  exact OK.ifN (by lia) (OK.ifP i1 (OK.ret trivial))
theorem n_number {fc k i : Int32} (h : CW B w0 T V R I O N w) (hC : CI B T K V R O N) (hF : FR T sz) (hz : B + 29 ≤ sz) : OK (f_LM_number w sz B fc k i) (fun q => CW B w0 T V R I O N q.2.1 ∧ sz ≤ q.2.2 ∧ ((∃ v, q.1 = .inl v) ∨ q.1 = .inr 2 ∨ q.1 = .inr 1)) := by
  have t0 := hC.1.1.1
  have f8 := hC.2.2.2.2.2.1.1.2
  unfold f_LM_number
  refine c_xo h t0 (by decide) (n_faceOrNull h hC (fun a f0 f1 ea ta => OK.ifN sne ?_) (fun c => OK.ifP rfl (OK.ret ⟨h, Nat.le_succ sz, Or.inr (Or.inl rfl)⟩)))
  obtain ⟨p, pr, hP, pv, p4⟩ := hC.pie ta
  refine c_xo h ta (by decide) (n_hasPiece h ta pr hP.1 hP.2.1.1 hP.2.1.2 (fun k0 k1 => OK.ifN (by decide) ?_) (fun c => OK.ifP rfl (OK.ret ⟨h, Nat.le_succ sz, Or.inr (Or.inl rfl)⟩)))
  refine OK.ite (fun i0 => ?_) (fun _ => OK.ret ⟨h, Nat.le_succ sz, Or.inr (Or.inr rfl)⟩)
  obtain ⟨q, l, qo, tq, rl, tl, -⟩ := hP.2.2 k k0 k1
  refine c_gI h ta (by decide) (c_gRs h ta pr (by decide) (c_aRs h hP.1 (by decide) k0 k1 qo (n_written h hF hz f0 (by lia) pv.1 pv.2 tq rl tl (fun w' f' c' c0 c1 hx => ?_))))
  have h' := CW_tx h hF hz hx
  exact t_xo hx (t_len hx (OK.ite (fun _ => OK.ret ⟨h', Nat.le_add_right sz 2, Or.inl ⟨_, rfl⟩⟩) (fun c9 => t_xo hx (t_chr hx i0 (by lia) c1 (fun v _ => OK.ret ⟨h', Nat.le_add_right sz 2, Or.inl ⟨_, rfl⟩⟩)))))
end CPJ
