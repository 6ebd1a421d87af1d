/-! the class: a leaf more -/
section CPb
variable {B : Nat} {w0 : Mp} {T K : Nat → Nat} {V : Nat → Nat → Int32} {R : Nat → Nat → Option Nat} {I : Nat → Int32 → Int32} {O : Nat → Int32 → Option Nat} {N : Nat → Int32} {w : Mp} {sz : Nat} {β : Type} {P : β → Prop}
def FR (T : Nat → Nat) (sz : Nat) : Prop := ∀ a, sz ≤ a → T a = 10
/-- what stood stays as it was -/
def EX (T T' K K' : Nat → Nat) (V V' : Nat → Nat → Int32) (R R' : Nat → Nat → Option Nat) (O O' : Nat → Int32 → Option Nat) (N N' : Nat → Int32) : Prop := ∀ a, T a ≠ 10 → T' a = T a ∧ K' a = K a ∧ V' a = V a ∧ R' a = R a ∧ O' a = O a ∧ N' a = N a
theorem CI_ext {T' K' : Nat → Nat} {V' : Nat → Nat → Int32} {R' : Nat → Nat → Option Nat} {O' : Nat → Int32 → Option Nat} {N' : Nat → Int32} (hC : CI B T K V R O N) (hx : EX T T' K K' V V' R R' O O' N N') (h1 : ∀ a, T a = 10 → T' a = 1 → LOK T' K' V' R' N' a) (h2 : ∀ a, T a = 10 → T' a = 2 → ∃ l, R' a 0 = some l ∧ T' l = 1) (h3 : ∀ a, T a = 10 → T' a = 3 → FOK T' V' R' O' N' a) : CI B T' K' V' R' O' N' := by
  obtain ⟨⟨⟨t0, t1, t2, t3, t4, t5, t6, t10⟩, ⟨m1, m2, m4, m5, m6, m10⟩, ⟨r0, r2, r4, r5, p0, p3, p4⟩, ⟨k4, k5, k6⟩, e5, e6, e7, ⟨a1, a2, a3, a4⟩, ⟨b1, b2, b3, b4⟩, ⟨d1, d2, d3, d4⟩⟩, c2, c3, c4, c5, c6, c7⟩ := hC
  have x0 := hx B (by rw [t0]; decide)
  have x1 := hx (B + 1) (by rw [t1]; decide)
  have x2 := hx (B + 2) (by rw [t2]; decide)
  have x3 := hx (B + 3) (by rw [t3]; decide)
  have x4 := hx (B + 4) (by rw [t4]; decide)
  have x5 := hx (B + 5) (by rw [t5]; decide)
  have x6 := hx (B + 6) (by rw [t6]; decide)
  have x10 := hx (B + 10) (by rw [t10]; decide)
  have y5 := hx e5 (by rw [a2]; decide)
  have y6 := hx e6 (by rw [b2]; decide)
  have y7 := hx e7 (by rw [d2]; decide)
  have old : ∀ a, T' a ≠ 10 → T a = 10 ∨ T' a = T a := fun a _ => by
    by_cases e : T a = 10
    · exact Or.inl e
    · exact Or.inr (hx a e).1
  refine ⟨⟨?_, ?_, ?_, ?_, ?_⟩, fun a ha => ?_, fun a ha => ?_, fun a ha => ?_, ?_, ?_, ?_⟩
  · rw [x0.1, x1.1, x2.1, x3.1, x4.1, x5.1, x6.1, x10.1]
    exact ⟨t0, t1, t2, t3, t4, t5, t6, t10⟩
  · rw [x1.2.2.2.2.2, x2.2.2.2.2.2, x4.2.2.2.2.2, x5.2.2.2.2.2, x6.2.2.2.2.2, x10.2.2.2.2.2]
    exact ⟨m1, m2, m4, m5, m6, m10⟩
  · rw [x0.2.2.2.1, x3.2.2.2.1]
    exact ⟨r0, r2, r4, r5, p0, p3, p4⟩
  · rw [x4.2.1, x5.2.1, x6.2.1]
    exact ⟨k4, k5, k6⟩
  · rw [x3.2.2.2.1]
    refine ⟨e5, e6, e7, ⟨a1, ?_, ?_, ?_⟩, ⟨b1, ?_, ?_, ?_⟩, ⟨d1, ?_, ?_, ?_⟩⟩
    · rw [y5.1]; exact a2
    · rw [y5.2.2.2.2.2]; exact a3
    · rw [y5.2.1]; exact a4
    · rw [y6.1]; exact b2
    · rw [y6.2.2.2.2.2]; exact b3
    · rw [y6.2.1]; exact b4
    · rw [y7.1]; exact d2
    · rw [y7.2.2.2.2.2]; exact d3
    · rw [y7.2.1]; exact d4
  · rcases old a (by rw [ha]; decide) with e | e
    · exact h1 a e ha
    · rw [ha] at e
      obtain ⟨l1, l2, g, l3, l4, l5, l6⟩ := c2 a e.symm
      have za := hx a (by rw [← e]; decide)
      have zg := hx g (by rw [l4]; decide)
      unfold LOK
      rw [za.2.2.1, za.2.2.2.1]
      exact ⟨l1, l2, g, l3, by rw [zg.1]; exact l4, by rw [zg.2.2.2.2.2]; exact l5, by rw [zg.2.1]; exact l6⟩
  · rcases old a (by rw [ha]; decide) with e | e
    · exact h2 a e ha
    · rw [ha] at e
      obtain ⟨l, l1, l2⟩ := c3 a e.symm
      have za := hx a (by rw [← e]; decide)
      have zl := hx l (by rw [l2]; decide)
      exact ⟨l, by rw [za.2.2.2.1]; exact l1, by rw [zl.1]; exact l2⟩
  · rcases old a (by rw [ha]; decide) with e | e
    · exact h3 a e ha
    · rw [ha] at e
      obtain ⟨p, q1, q2, q3, q4, q5, q6⟩ := c4 a e.symm
      have za := hx a (by rw [← e]; decide)
      have zp := hx p (by rw [q2]; decide)
      unfold FOK
      rw [za.2.2.1, za.2.2.2.1]
      refine ⟨p, q1, by rw [zp.1]; exact q2, by rw [zp.2.2.2.2.2]; exact q3, q4, by rw [zp.2.2.2.2.2]; exact q5, fun k k0 k1 => ?_⟩
      rw [zp.2.2.2.2.2] at k1
      obtain ⟨q, u1, u2⟩ := q6 k k0 k1
      have zq := hx q (by rw [u2]; decide)
      exact ⟨q, by rw [zp.2.2.2.2.1]; exact u1, by rw [zq.1]; exact u2⟩
  · rw [x0.2.2.1, x1.2.2.2.2.1]
    refine ⟨c5.1, fun i i0 i1 => ?_⟩
    obtain ⟨a, e, ta, va⟩ := c5.2 i i0 i1
    have za := hx a (by rw [ta]; decide)
    exact ⟨a, e, by rw [za.1]; exact ta, by rw [za.2.2.1]; exact va⟩
  · rw [x0.2.2.1, x2.2.2.2.2.1]
    refine ⟨c6.1, fun i i0 i1 => ?_⟩
    obtain ⟨a, e, ta⟩ := c6.2 i i0 i1
    have za := hx a (by rw [ta]; decide)
    exact ⟨a, e, by rw [za.1]; exact ta⟩
  · rw [x3.2.2.1]; exact c7
theorem vup2 {α : Type} {f : Nat → α} {k : Nat} {u v : α} : va_up (va_up f k u) k v = va_up f k v := by
  funext j
  by_cases e : j = k
  · rw [e, vup_s, vup_s]
  · rw [vup_n e, vup_n e, vup_n e]
theorem c_pIz {F : Mp → Option β} {x : Int32} {z ci k : Nat} {v : Nat → Int32} (h : CW B w0 T (va_up V z v) R I O N w) (ht : T z = ci) (hk : (decide (ci < 5) && cin ci k) = true) (hp : ∀ w', CW B w0 T (va_up V z (up v k x)) R I O N w' → OK (F w') P) : OK ((pF w (some z) ci k (.int x)).bind F) P :=
  c_pI h ht hk (fun w' h' => hp w' (by rw [vup2, vup_s] at h'; exact h'))
theorem c_pRz {F : Mp → Option β} {x : Option Nat} {z ci k : Nat} {r : Nat → Option Nat} (h : CW B w0 T V (va_up R z r) I O N w) (ht : T z = ci) (hk : (decide (ci < 5) && crf ci k) = true) (hp : ∀ w', CW B w0 T V (va_up R z (upr r k x)) I O N w' → OK (F w') P) : OK ((pF w (some z) ci k (va_rf x)).bind F) P :=
  c_pR h ht hk (fun w' h' => hp w' (by rw [vup2, vup_s] at h'; exact h'))
theorem c_xnO {F : Mp → Option β} {z ci : Nat} {fs : List Value} {v : Nat → Int32} {r : Nat → Option Nat} (h : CW B w0 T V R I O N w) (hz : T z = 10) (hb : B + 29 ≤ z) (hc : ci < 5) (hf : fs = cfs ci v r) (hp : ∀ w', CW B w0 (va_up T z ci) (va_up V z v) (va_up R z r) I O N w' → OK (F w') P) : OK ((xnO w z ci fs).bind F) P := by
  subst hf
  exact OK.eq rfl (hp _ (h.newO hz hb hc v r))
theorem c_xnI {F : Mp → Option β} {z lim : Nat} {n : Int32} (h : CW B w0 T V R I O N w) (hz : T z = 10) (hb : B + 29 ≤ z) (n0 : 0 ≤ n) (n1 : n.toNatClampNeg ≤ lim) (n2 : n ≤ 100000) (hp : ∀ w', CW B w0 (va_up T z 5) V R (va_up I z (fun _ => 0)) O (va_up N z n) w' → OK (F w') P) : OK ((xnI w z 0 lim n).bind F) P := by
  refine OK.eq ?_ (hp _ (h.newI hz hb n))
  unfold xnI
  rw [if_neg]
  have a := cl_int n0
  rw [Int32.le_iff_toInt_le, show (100000 : Int32).toInt = 100000 by decide] at n2
  rintro (u | u | u)
  · lia
  · omega
  · omega
theorem c_xnR {F : Mp → Option β} {z t lim : Nat} {n : Int32} (h : CW B w0 T V R I O N w) (hz : T z = 10) (hb : B + 29 ≤ z) (t1 : 1 ≤ t) (t2 : t ≤ 3) (n0 : 0 ≤ n) (n1 : n.toNatClampNeg ≤ lim) (n2 : n ≤ 100000) (hp : ∀ w', CW B w0 (va_up T z (tr t)) V R I (va_up O z (fun _ => none)) (va_up N z n) w' → OK (F w') P) : OK ((xnR w z t lim n).bind F) P := by
  refine OK.eq ?_ (hp _ (h.newR hz hb t1 t2 n))
  unfold xnR
  rw [if_neg]
  have a := cl_int n0
  rw [Int32.le_iff_toInt_le, show (100000 : Int32).toInt = 100000 by decide] at n2
  rintro (u | u | u)
  · lia
  · omega
  · omega
theorem ar_wh {p q : Int32} (p0 : 1 ≤ p) (p1 : p ≤ 12) (q0 : 1 ≤ q) (q1 : q ≤ 12) : 0 ≤ p * q ∧ (p * q).toNatClampNeg ≤ 144 ∧ p * q ≤ 100000 := by
  have a := ar_g (x := 0) (y := 0) (p := p) (q := q) (by decide) (by lia) (by decide) (by lia) p1 q1
  have ep := cl_int (i := p) (by lia)
  have eq := cl_int (i := q) (by lia)
  have ez := cl_int (i := p * q) (by lia)
  rw [Int32.le_iff_toInt_le, show (12 : Int32).toInt = 12 by decide] at p1 q1
  generalize p.toNatClampNeg = p' at ep
  generalize q.toNatClampNeg = q' at eq
  have b2 : p' * q' ≤ 144 := Nat.mul_le_mul (show p' ≤ 12 by omega) (show q' ≤ 12 by omega)
  have m2 : (p * q).toInt = (p' * q' : Nat) := by
    rw [Int32.toInt_mul, ← eq, ← ep, Int.bmod_eq_of_le (by omega) (by omega)]
    rfl
  refine ⟨by lia, by omega, ?_⟩
  rw [Int32.le_iff_toInt_le, m2, show (100000 : Int32).toInt = 100000 by decide]
  omega
end CPb
