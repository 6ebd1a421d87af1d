/-! the class: what holds between calls, for every state; its readers -/
def STc (B : Nat) (T K : Nat → Nat) (R : Nat → Nat → Option Nat) (N : Nat → Int32) : Prop :=
  (T B = 0 ∧ T (B + 1) = tr 1 ∧ T (B + 2) = tr 2 ∧ T (B + 3) = 4 ∧ T (B + 4) = 5 ∧ T (B + 5) = 5 ∧ T (B + 6) = 5 ∧ T (B + 10) = tr 1) ∧
  (N (B + 1) = 32 ∧ N (B + 2) = 8 ∧ N (B + 4) = 8 ∧ N (B + 5) = 8 ∧ N (B + 6) = 8 ∧ N (B + 10) = 32) ∧
  (R B 0 = some (B + 1) ∧ R B 2 = some (B + 2) ∧ R B 4 = some (B + 3) ∧ R B 5 = some (B + 10) ∧ R (B + 3) 0 = some (B + 4) ∧ R (B + 3) 3 = some (B + 5) ∧ R (B + 3) 4 = some (B + 6)) ∧
  (K (B + 4) = 1 ∧ K (B + 5) = 2 ∧ K (B + 6) = 3) ∧
  (∃ e5 e6 e7, (R (B + 3) 5 = some e5 ∧ T e5 = 5 ∧ 0 ≤ N e5 ∧ K e5 = 5) ∧ (R (B + 3) 6 = some e6 ∧ T e6 = 5 ∧ 0 ≤ N e6 ∧ K e6 = 6) ∧ (R (B + 3) 7 = some e7 ∧ T e7 = 5 ∧ 0 ≤ N e7 ∧ K e7 = 7))
def LOK (T K : Nat → Nat) (V : Nat → Nat → Int32) (R : Nat → Nat → Option Nat) (N : Nat → Int32) (a : Nat) : Prop := (1 ≤ V a 3 ∧ V a 3 ≤ 12) ∧ (1 ≤ V a 4 ∧ V a 4 ≤ 12) ∧ ∃ g, R a 5 = some g ∧ T g = 5 ∧ N g = V a 3 * V a 4 ∧ K g = a + 10
def FOK (T : Nat → Nat) (V : Nat → Nat → Int32) (R : Nat → Nat → Option Nat) (O : Nat → Int32 → Option Nat) (N : Nat → Int32) (a : Nat) : Prop := ∃ p, R a 1 = some p ∧ T p = tr 3 ∧ (2 ≤ N p ∧ N p ≤ 8) ∧ (0 ≤ V a 0 ∧ V a 0 ≤ 3) ∧ (V a 0 = 3 → N p = 4) ∧ ∀ k, 0 ≤ k → k < N p → ∃ q, O p k = some q ∧ T q = 2
def CI (B : Nat) (T K : Nat → Nat) (V : Nat → Nat → Int32) (R : Nat → Nat → Option Nat) (O : Nat → Int32 → Option Nat) (N : Nat → Int32) : Prop :=
  STc B T K R N ∧ (∀ a, T a = 1 → LOK T K V R N a) ∧ (∀ a, T a = 2 → ∃ l, R a 0 = some l ∧ T l = 1) ∧ (∀ a, T a = 3 → FOK T V R O N a) ∧
  ((0 ≤ V B 1 ∧ V B 1 ≤ 32) ∧ ∀ i, 0 ≤ i → i < V B 1 → ∃ a, O (B + 1) i = some a ∧ T a = 1 ∧ V a 0 = i) ∧
  ((0 ≤ V B 3 ∧ V B 3 ≤ 8) ∧ ∀ f, 0 ≤ f → f < V B 3 → ∃ a, O (B + 2) f = some a ∧ T a = 3) ∧
  (0 ≤ V (B + 3) 1 ∧ V (B + 3) 1 ≤ 8)
section CP1
variable {B : Nat} {w0 : Mp} {T K : Nat → Nat} {V : Nat → Nat → Int32} {R : Nat → Nat → Option Nat} {I : Nat → Int32 → Int32} {O : Nat → Int32 → Option Nat} {N : Nat → Int32} {w : Mp} {β : Type} {P : β → Prop}
theorem n_isWithin {F : Int32 → Option β} {x a b : Int32} (h1 : a ≤ x → x ≤ b → OK (F 1) P) (h2 : ¬ (a ≤ x ∧ x ≤ b) → OK (F 0) P) : OK ((f_LM_isWithin w x a b).bind F) P := by
  unfold f_LM_isWithin
  by_cases c1 : x < a
  · rw [if_pos c1]
    exact h2 (by lia)
  · rw [if_neg c1]
    by_cases c2 : b < x
    · rw [if_pos c2]
      exact h2 (by lia)
    · rw [if_neg c2]
      exact h1 (by lia) (by lia)
theorem n_isFree {F : Int32 → Option β} {a : Nat} (h : CW B w0 T V R I O N w) (ht : T a = 1) (h1 : V a 7 = 0 → V a 6 = 0 → OK (F 1) P) (h2 : ¬ (V a 7 = 0 ∧ V a 6 = 0) → OK (F 0) P) : OK ((f_Leaf_isFree w a).bind F) P := by
  refine OK.call (P := fun v => (V a 7 = 0 ∧ V a 6 = 0 ∧ v = 1) ∨ (¬ (V a 7 = 0 ∧ V a 6 = 0) ∧ v = 0)) ?_ (fun v hv => ?_)
  · unfold f_Leaf_isFree
    repeat' first
      | intro _
      | with_reducible refine OK.J1 ?_
      | with_reducible refine OK.J2 ?_
      | with_reducible refine OK.J3 ?_
      | with_reducible refine OK.ifN (by decide) ?_
      | with_reducible refine OK.ifP (by decide) ?_
      | with_reducible refine OK.ifP (by exact rfl) ?_
      | with_reducible refine OK.ifN (fun z => absurd (show (1 : Int32) = 0 from z) (by decide)) ?_
      | with_reducible refine OK.ite (fun _ => ?_) (fun _ => ?_)
      | with_reducible refine c_gI (by assumption) (by assumption) (by decide) ?_
      | with_reducible refine c_gRs (by assumption) (by assumption) (by assumption) (by decide) ?_
      | with_reducible refine c_xo (by assumption) (by assumption) (by decide) ?_
      | with_reducible refine c_aRs (by assumption) (by assumption) (by decide) (by lia) (by lia) (by assumption) ?_
      | with_reducible refine c_aI (by assumption) (by assumption) (by lia) (by lia) ?_
      | with_reducible refine c_aL (by assumption) (by assumption) (by decide) (by lia) ?_
    all_goals refine OK.ret ?_
    all_goals grind
  · rcases hv with ⟨a1, a2, rfl⟩ | ⟨a1, rfl⟩
    · exact h1 a1 a2
    · exact h2 a1
theorem n_follows {F : Int32 → Option β} {a b : Nat} (h : CW B w0 T V R I O N w) (ht : T a = 1) (hb : T b = 1) (h1 : V a 2 = V b 2 + 1 → OK (F 1) P) (h2 : ¬ V a 2 = V b 2 + 1 → OK (F 0) P) : OK ((f_Leaf_follows w a (some b)).bind F) P := by
  refine OK.call (P := fun v => (V a 2 = V b 2 + 1 ∧ v = 1) ∨ (¬ V a 2 = V b 2 + 1 ∧ v = 0)) ?_ (fun v hv => ?_)
  · unfold f_Leaf_follows
    refine c_gI h ht (by decide) (c_gI h hb (by decide) ?_)
    refine OK.ite (fun c => OK.ret (Or.inl ⟨c, rfl⟩)) (fun c => OK.ret (Or.inr ⟨c, rfl⟩))
  · rcases hv with ⟨a1, rfl⟩ | ⟨a1, rfl⟩
    · exact h1 a1
    · exact h2 a1
def hld (V : Nat → Nat → Int32) (a : Nat) (x y : Int32) : Prop := 0 ≤ x ∧ x < V a 3 ∧ 0 ≤ y ∧ y < V a 4
theorem n_holds {F : Int32 → Option β} {a : Nat} {x y : Int32} (h : CW B w0 T V R I O N w) (ht : T a = 1) (h1 : hld V a x y → OK (F 1) P) (h2 : ¬ hld V a x y → OK (F 0) P) : OK ((f_Leaf_holds w a x y).bind F) P := by
  refine OK.call (P := fun v => (hld V a x y ∧ v = 1) ∨ (¬ hld V a x y ∧ v = 0)) ?_ (fun v hv => ?_)
  · unfold f_Leaf_holds hld
    repeat' first
      | intro _
      | with_reducible refine OK.J1 ?_
      | with_reducible refine OK.J2 ?_
      | with_reducible refine OK.J3 ?_
      | with_reducible refine OK.ifN (by decide) ?_
      | with_reducible refine OK.ifP (by decide) ?_
      | with_reducible refine OK.ifP (by exact rfl) ?_
      | with_reducible refine OK.ifN (fun z => absurd (show (1 : Int32) = 0 from z) (by decide)) ?_
      | with_reducible refine OK.ite (fun _ => ?_) (fun _ => ?_)
      | with_reducible refine c_gI (by assumption) (by assumption) (by decide) ?_
      | with_reducible refine c_gRs (by assumption) (by assumption) (by assumption) (by decide) ?_
      | with_reducible refine c_xo (by assumption) (by assumption) (by decide) ?_
      | with_reducible refine c_aRs (by assumption) (by assumption) (by decide) (by lia) (by lia) (by assumption) ?_
      | with_reducible refine c_aI (by assumption) (by assumption) (by lia) (by lia) ?_
      | with_reducible refine c_aL (by assumption) (by assumption) (by decide) (by lia) ?_
    all_goals refine OK.ret ?_
    all_goals grind
  · rcases hv with ⟨a1, rfl⟩ | ⟨a1, rfl⟩
    · exact h1 a1
    · exact h2 a1
theorem ar_g {x y p q : Int32} (x0 : 0 ≤ x) (x1 : x < p) (y0 : 0 ≤ y) (y1 : y < q) (p1 : p ≤ 12) (q1 : q ≤ 12) : 0 ≤ y * p + x ∧ y * p + x < p * q := by
  have hp : 0 ≤ p := by lia
  have hq : 0 ≤ q := by lia
  have ex := cl_int x0
  have ey := cl_int y0
  have ep := cl_int hp
  have eq := cl_int hq
  rw [Int32.lt_iff_toInt_lt] at x1 y1
  rw [Int32.le_iff_toInt_le, show (12 : Int32).toInt = 12 by decide] at p1 q1
  generalize x.toNatClampNeg = x' at ex
  generalize y.toNatClampNeg = y' at ey
  generalize p.toNatClampNeg = p' at ep
  generalize q.toNatClampNeg = q' at eq
  have b1 : y' * p' + x' < p' * q' := by
    have a1 : y' + 1 ≤ q' := by omega
    have a2 := Nat.mul_le_mul_right p' a1
    rw [Nat.add_mul, Nat.one_mul, Nat.mul_comm q' p'] at a2
    omega
  have b2 : p' * q' ≤ 144 := by
    have := Nat.mul_le_mul (show p' ≤ 12 by omega) (show q' ≤ 12 by omega)
    exact this
  have m1 : (y * p).toInt = (y' * p' : Nat) := by
    rw [Int32.toInt_mul, ← ey, ← ep, Int.bmod_eq_of_le (by omega) (by omega)]
    rfl
  have m2 : (p * q).toInt = (p' * q' : Nat) := by
    rw [Int32.toInt_mul, ← eq, ← ep, Int.bmod_eq_of_le (by omega) (by omega)]
    rfl
  have m3 : (y * p + x).toInt = (y' * p' + x' : Nat) := by
    rw [Int32.toInt_add, m1, ← ex, Int.bmod_eq_of_le (by omega) (by omega)]
    rfl
  rw [Int32.le_iff_toInt_le, Int32.lt_iff_toInt_lt, m3, m2, show (0 : Int32).toInt = 0 by decide]
  omega
end CP1
