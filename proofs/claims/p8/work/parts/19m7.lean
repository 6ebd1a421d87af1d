/-! counting, and the reference's rows of free leaves -/
def cn (p : Int32 → Bool) : Nat → Nat
  | 0 => 0
  | n + 1 => cn p n + (if p (Int32.ofNat n) then 1 else 0)
theorem cn_le (p : Int32 → Bool) : ∀ n, cn p n ≤ n := by
  intro n
  induction n with
  | zero => exact Nat.le_refl _
  | succ n ih =>
    rw [cn]
    split <;> omega
theorem cn_mono (p : Int32 → Bool) : ∀ n m, n ≤ m → cn p n ≤ cn p m := by
  intro n m h
  induction m with
  | zero => rw [show n = 0 by omega]; exact Nat.le_refl _
  | succ m ih =>
    by_cases e : n = m + 1
    · rw [e]; exact Nat.le_refl _
    · have := ih (by omega)
      rw [cn]
      omega
theorem cn_add {p q r : Int32 → Bool} : ∀ n, (∀ i, i < n → (if r (Int32.ofNat i) then 1 else 0) = (if p (Int32.ofNat i) then 1 else 0) + (if q (Int32.ofNat i) then (1 : Nat) else 0)) → cn r n = cn p n + cn q n := by
  intro n
  induction n with
  | zero => intro _; rfl
  | succ n ih =>
    intro h
    rw [cn, cn, cn, ih (fun i hi => h i (by omega)), h n (by omega)]
    omega
theorem cn_congr {p q : Int32 → Bool} : ∀ n, (∀ i, i < n → p (Int32.ofNat i) = q (Int32.ofNat i)) → cn p n = cn q n := by
  intro n
  induction n with
  | zero => intro _; rfl
  | succ n ih =>
    intro h
    rw [cn, cn, ih (fun i hi => h i (by omega)), h n (by omega)]
theorem cn_zero {p : Int32 → Bool} : ∀ n, (∀ i, i < n → p (Int32.ofNat i) = false) → cn p n = 0 := by
  intro n
  induction n with
  | zero => intro _; rfl
  | succ n ih =>
    intro h
    rw [cn, ih (fun i hi => h i (by omega)), h n (by omega)]
    rfl
theorem cl_succ {x : Int32} (h0 : 0 ≤ x) (h1 : x < 1000) : (x + 1).toNatClampNeg = x.toNatClampNeg + 1 := by
  have a := cl_int h0
  have b := cl_int (i := x + 1) (by grind)
  have e : (x + 1).toInt = x.toInt + 1 := by
    rw [Int32.le_iff_toInt_le, show (0 : Int32).toInt = 0 by decide] at h0
    rw [Int32.lt_iff_toInt_lt, show (1000 : Int32).toInt = 1000 by decide] at h1
    rw [Int32.toInt_add, show (1 : Int32).toInt = 1 by decide, Int.bmod_eq_of_le (by omega) (by omega)]
  omega
theorem cn_step {p : Int32 → Bool} {x : Int32} (h0 : 0 ≤ x) (h1 : x < 1000) : cn p (x + 1).toNatClampNeg = cn p x.toNatClampNeg + (if p x then 1 else 0) := by
  rw [cl_succ h0 h1, cn, of_cl h0]
theorem of_lt {n : Nat} {x : Int32} (hx : 0 ≤ x) (h : n < x.toNatClampNeg) : 0 ≤ Int32.ofNat n ∧ Int32.ofNat n < x := by
  have c := cl_int hx
  have b := Int32.toInt_lt x
  have e : (Int32.ofNat n).toInt = n := Int32.toInt_ofNat_of_lt (by omega)
  rw [Int32.le_iff_toInt_le, Int32.lt_iff_toInt_lt, e, show (0 : Int32).toInt = 0 by decide]
  omega
theorem cl_mono {x y : Int32} (h0 : 0 ≤ x) (h : x < y) : x.toNatClampNeg < y.toNatClampNeg := by
  have a := cl_int h0
  have b := cl_int (i := y) (by grind)
  rw [Int32.lt_iff_toInt_lt] at h
  omega
theorem of_le {n : Nat} {x : Int32} (hx : 0 ≤ x) (h : n ≤ x.toNatClampNeg) : 0 ≤ Int32.ofNat n ∧ Int32.ofNat n ≤ x := by
  have c := cl_int hx
  have b := Int32.toInt_lt x
  have e : (Int32.ofNat n).toInt = n := Int32.toInt_ofNat_of_lt (by omega)
  rw [Int32.le_iff_toInt_le, Int32.le_iff_toInt_le, e, show (0 : Int32).toInt = 0 by decide]
  omega
theorem of_add1 {n : Nat} (h : n < 1000) : Int32.ofNat n + 1 = Int32.ofNat (n + 1) := by
  have e1 : (Int32.ofNat n).toInt = n := Int32.toInt_ofNat_of_lt (by omega)
  have e2 : (Int32.ofNat (n + 1)).toInt = (n + 1 : Nat) := Int32.toInt_ofNat_of_lt (by omega)
  refine Int32.toInt_inj.mp ?_
  rw [Int32.toInt_add, e1, e2, show (1 : Int32).toInt = 1 by decide, Int.bmod_eq_of_le (by omega) (by omega)]
  omega
def upR (A : Nat → Int32 → Int32) (r : Int32 → Int32) : Nat → Int32 → Int32 := fun j => if j = 19 then r else A j
/-- free, of a flitch -/
def frb (A : Nat → Int32 → Int32) (fl k : Int32) : Bool := A 2 k == fl && (A 7 k == 0 && A 6 k == 0)
def pLt (A : Nat → Int32 → Int32) (fl n k : Int32) : Bool := frb A fl k && decide (A 3 k < n)
def pEq (A : Nat → Int32 → Int32) (fl n k : Int32) : Bool := frb A fl k && decide (A 3 k = n)
def posM (s : Nat → Int32) (A : Nat → Int32 → Int32) (fl k : Int32) : Nat := cn (pLt A fl (A 3 k)) (s 1).toNatClampNeg + cn (pEq A fl (A 3 k)) k.toNatClampNeg
def RI (s : Nat → Int32) (A : Nat → Int32 → Int32) (fl rs : Int32) (r : Int32 → Int32) : Prop := ∀ j, 0 ≤ j → j < rs → 0 ≤ r j ∧ r j < s 1 ∧ frb A fl (r j) = true ∧ Int32.ofNat (posM s A fl (r j)) = j
section MP7
variable {B : Nat} {w0 : Mp} {s : Nat → Int32} {A : Nat → Int32 → Int32} {w : Mp} {β : Type} {P : β → Prop}
theorem upR_A {r : Int32 → Int32} {i x : Int32} : upA (upR A r) 19 i x = upR A (fun y => if y = i then x else r y) := by
  funext j
  unfold upA upR
  by_cases h : j = 19
  · rw [if_pos h, if_pos h]
    funext y
    rw [if_pos h]
  · rw [if_neg h, if_neg h, if_neg h]
theorem upR_R {r r' : Int32 → Int32} : upR (upR A r) r' = upR A r' := by
  funext j
  unfold upR
  by_cases h : j = 19
  · rw [if_pos h, if_pos h]
  · rw [if_neg h, if_neg h, if_neg h]
theorem upR_id : upR A (A 19) = A := by
  funext j
  unfold upR
  by_cases h : j = 19
  · rw [if_pos h, h]
  · rw [if_neg h]
theorem up_id {k : Nat} : up s k (s k) = s := by
  funext j
  unfold up
  by_cases h : j = k
  · rw [if_pos h, h]
  · rw [if_neg h]
theorem r_2 {r : Int32 → Int32} : upR A r 2 = A 2 := if_neg (by decide)
theorem r_3 {r : Int32 → Int32} : upR A r 3 = A 3 := if_neg (by decide)
theorem r_6 {r : Int32 → Int32} : upR A r 6 = A 6 := if_neg (by decide)
theorem r_7 {r : Int32 → Int32} : upR A r 7 = A 7 := if_neg (by decide)
theorem s18_1 {x : Int32} : up s 18 x 1 = s 1 := if_neg (by decide)
theorem k_gIb {j k : Nat} {F : Int32 → Option β} {x : Int32} (h : MW B w0 (up s j x) A w) (hk : msc k = true) (hj : k ≠ j) (hp : OK (F (s k)) P) : OK ((gI w (some (B + 11)) 5 k).bind F) P :=
  k_gI h hk (by rw [show up s j x k = s k from if_neg hj]; exact hp)
theorem k_gIc {j j' k : Nat} {F : Int32 → Option β} {x x' : Int32} (h : MW B w0 (up (up s j' x') j x) A w) (hk : msc k = true) (hj : k ≠ j) (hj' : k ≠ j') (hp : OK (F (s k)) P) : OK ((gI w (some (B + 11)) 5 k).bind F) P :=
  k_gI h hk (by rw [show up (up s j' x') j x k = up s j' x' k from if_neg hj, show up s j' x' k = s k from if_neg hj']; exact hp)
theorem k_aIR {k : Nat} {F : Int32 → Option β} {t : Nat} {i : Int32} {r : Int32 → Int32} (h : MW B w0 s (upR A r) w) (hk : mar k = true) (ht : t = mty k) (hj : k ≠ 19) (h0 : 0 ≤ i) (h1 : i < mln k) (hp : OK (F (A k i)) P) : OK ((aI w (some (B + mad k)) t i).bind F) P :=
  k_aI h hk ht h0 h1 (by rw [show upR A r k = A k from if_neg hj]; exact hp)
theorem k_aIr {F : Int32 → Option β} {i : Int32} {r : Int32 → Int32} (h : MW B w0 s (upR A r) w) (h0 : 0 ≤ i) (h1 : i < 32) (hp : OK (F (r i)) P) : OK ((aI w (some (B + mad 19)) 0 i).bind F) P :=
  k_aI h (by decide) (by decide) h0 h1 hp
theorem k_sIR {F : Mp → Option β} {i x : Int32} {r : Int32 → Int32} (h : MW B w0 s (upR A r) w) (h0 : 0 ≤ i) (h1 : i < 32) (hp : ∀ w', MW B w0 s (upR A (fun y => if y = i then x else r y)) w' → OK (F w') P) : OK ((sI w (some (B + mad 19)) 0 i x).bind F) P :=
  k_sI h (by decide) (by decide) h0 h1 (fun w' hw => hp w' (by rw [upR_A] at hw; exact hw))
theorem cLE {fl nn : Int32} : cn (pLt A fl nn) (s 1).toNatClampNeg + cn (pEq A fl nn) (s 1).toNatClampNeg = cn (fun k => frb A fl k && decide (A 3 k ≤ nn)) (s 1).toNatClampNeg := by
  refine (cn_add _ (fun i _ => ?_)).symm
  unfold pLt pEq
  cases frb A fl (Int32.ofNat i) with
  | false => rfl
  | true =>
    simp only [Bool.true_and, decide_eq_true_eq]
    grind
end MP7
