/-! how much a plan's room grows, read off the world -/
theorem x_ifn {α : Type} {c : Prop} [Decidable c] {A : Option α} {res : α} (h : (if c then none else A) = some res) : ¬ c ∧ A = some res := by
  by_cases hc : c
  · rw [if_pos hc] at h; cases h
  · rw [if_neg hc] at h; exact ⟨hc, h⟩
def xkp (w : Mp) (r : Option Nat) : Option Nat := (gR w r 0 4).getD none
def xkn (w : Mp) (r : Option Nat) (k : Nat) : Int32 := (aL w ((gR w r 4 k).getD none) 0).getD 0
def xkc (w : Mp) (r : Option Nat) (x : Int32) : Int32 := match r with
  | some b => match f_LM_gatherFree w b x with
    | some q => q.1
    | none => 0
  | none => 0
def xk5 (w : Mp) (r : Option Nat) (x : Int32) : Nat := if 0 ≤ x ∧ x ≤ 3 then (gw (xkn w (xkp w r) 5) (8 * xkc w r x)).toNatClampNeg else 0
def xk6 (w : Mp) (r : Option Nat) (x : Int32) : Nat := if 0 ≤ x ∧ x ≤ 3 then (gw (xkn w (xkp w r) 6) (8 * xkc w r x)).toNatClampNeg else 0
def xk7 (w : Mp) (r : Option Nat) (x : Int32) : Nat := if 0 ≤ x ∧ x ≤ 3 then (gw (xkn w (xkp w r) 7) ((xkc w r x + 1) * ((1 : Int32) <<< ((gI w (xkp w r) 4 1).getD 0 &&& 31)))).toNatClampNeg else 0
