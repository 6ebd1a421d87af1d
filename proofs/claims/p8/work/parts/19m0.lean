/-! TOTALITY: a step gives something, and what it gives is as said -/
def OK {α : Type} (x : Option α) (P : α → Prop) : Prop := ∃ a, x = some a ∧ P a
theorem OK.ret {α : Type} {a : α} {P : α → Prop} (h : P a) : OK (some a) P := ⟨a, rfl, h⟩
theorem OK.bind {α β : Type} {x : Option α} {F : α → Option β} {P : β → Prop} (h : OK x (fun a => OK (F a) P)) : OK (x.bind F) P := by
  obtain ⟨a, rfl, b, hb, hp⟩ := h
  exact ⟨b, hb, hp⟩
theorem OK.mono {α : Type} {x : Option α} {P Q : α → Prop} (h : OK x P) (hq : ∀ a, P a → Q a) : OK x Q := by
  obtain ⟨a, e, hp⟩ := h
  exact ⟨a, e, hq a hp⟩
theorem OK.call {α β : Type} {x : Option α} {F : α → Option β} {P : α → Prop} {Q : β → Prop} (h : OK x P) (hq : ∀ a, P a → OK (F a) Q) : OK (x.bind F) Q := by
  obtain ⟨a, rfl, hp⟩ := h
  exact hq a hp
theorem OK.eq {α β : Type} {x : Option α} {a : α} {F : α → Option β} {Q : β → Prop} (h : x = some a) (hq : OK (F a) Q) : OK (x.bind F) Q := by
  subst h; exact hq
theorem OK.ite {α : Type} {c : Prop} [Decidable c] {x y : Option α} {P : α → Prop} (hx : c → OK x P) (hy : ¬ c → OK y P) : OK (if c then x else y) P := by
  by_cases h : c
  · rw [if_pos h]; exact hx h
  · rw [if_neg h]; exact hy h
theorem OK.J1 {α β : Type} {f : α → Option β} {F : (α → Option β) → Option β} {P : β → Prop} (h : OK (F f) P) : OK (xJ1 f F) P := h
theorem OK.J2 {α1 α2 β : Type} {f : α1 → α2 → Option β} {F : (α1 → α2 → Option β) → Option β} {P : β → Prop} (h : OK (F f) P) : OK (xJ2 f F) P := h
theorem OK.J3 {α1 α2 α3 β : Type} {f : α1 → α2 → α3 → Option β} {F : (α1 → α2 → α3 → Option β) → Option β} {P : β → Prop} (h : OK (F f) P) : OK (xJ3 f F) P := h
/-! numbers -/
theorem cl_int {i : Int32} (h : 0 ≤ i) : (i.toNatClampNeg : Int) = i.toInt := by
  rw [Int32.le_iff_toInt_le, show (0 : Int32).toInt = 0 by decide] at h
  rw [Int32.toNatClampNeg]
  exact Int.toNat_of_nonneg h
theorem cl_inj {i j : Int32} (hi : 0 ≤ i) (hj : 0 ≤ j) (h : i.toNatClampNeg = j.toNatClampNeg) : i = j := by
  have h1 := cl_int hi
  have h2 := cl_int hj
  exact Int32.toInt_inj.mp (by omega)
theorem cl_in {i n : Int32} (h0 : 0 ≤ i) (h1 : i < n) : ¬ (i < 0 ∨ n.toNatClampNeg ≤ i.toNatClampNeg) := by
  have hn : 0 ≤ n := by grind
  have a1 := cl_int h0
  have a2 := cl_int hn
  rw [Int32.lt_iff_toInt_lt] at h1
  rintro (h | h)
  · grind
  · omega
theorem cl_ofNat {n : Nat} (h : n < 2147483648) : (Int32.ofNat n).toNatClampNeg = n := by
  have := Int32.toInt_ofNat_of_lt h
  rw [Int32.toNatClampNeg, this]
  rfl
/-- the rounds that are left, below the fuel -/
theorem fu_step {i N : Int32} {n : Nat} (h0 : 0 ≤ i) (h1 : i < N) (h : (N - i).toInt < (n + 1 : Nat)) : (N - (i + 1)).toInt < n := by
  rw [Int32.lt_iff_toInt_lt] at h1
  rw [Int32.le_iff_toInt_le, show (0 : Int32).toInt = 0 by decide] at h0
  have b1 := Int32.toInt_lt N
  rw [Int32.toInt_sub, Int.bmod_eq_of_le (by omega) (by omega)] at h
  rw [Int32.toInt_sub, Int32.toInt_add, show (1 : Int32).toInt = 1 by decide, Int.bmod_eq_of_le (n := i.toInt + 1) (by omega) (by omega), Int.bmod_eq_of_le (by omega) (by omega)]
  omega
theorem fu_zero {i N : Int32} (h0 : 0 ≤ i) (h1 : i ≤ N) (h : (N - i).toInt < (0 : Nat)) : False := by
  rw [Int32.le_iff_toInt_le] at h1
  rw [Int32.le_iff_toInt_le, show (0 : Int32).toInt = 0 by decide] at h0
  have b1 := Int32.toInt_lt N
  rw [Int32.toInt_sub, Int.bmod_eq_of_le (by omega) (by omega)] at h
  omega
/-! THE REFERENCE'S CELLS: the object at B + 11, its arrays behind it; s: its numbers by field, A: its arrays by field -/
def up (s : Nat → Int32) (k : Nat) (x : Int32) : Nat → Int32 := fun j => if j = k then x else s j
def upA (A : Nat → Int32 → Int32) (k : Nat) (i x : Int32) : Nat → Int32 → Int32 := fun j => if j = k then fun y => if y = i then x else A j y else A j
def msc (k : Nat) : Bool := k == 0 || k == 1 || k == 9 || k == 13 || k == 15 || k == 18
def mar (k : Nat) : Bool := k == 2 || k == 3 || k == 4 || k == 5 || k == 6 || k == 7 || k == 8 || k == 10 || k == 11 || k == 12 || k == 14 || k == 16 || k == 17 || k == 19 || k == 20 || k == 21
def mad (k : Nat) : Nat := match k with
  | 2 => 12 | 3 => 13 | 4 => 14 | 5 => 15 | 6 => 16 | 7 => 17 | 8 => 18 | 10 => 19 | 11 => 20 | 12 => 21 | 14 => 22 | 16 => 23 | 17 => 24 | 19 => 25 | 20 => 26 | _ => 27
def mty (k : Nat) : Nat := if k = 7 then 4 else 0
def mln (k : Nat) : Int32 := match k with
  | 8 => 4608 | 10 => 8 | 11 => 8 | 12 => 64 | 14 => 8 | 16 => 8 | 17 => 8 | 20 => 8448 | _ => 32
def mfs (B : Nat) (s : Nat → Int32) : List Value := [.int (s 0), .int (s 1), .ref (B + mad 2), .ref (B + mad 3), .ref (B + mad 4), .ref (B + mad 5), .ref (B + mad 6), .ref (B + mad 7), .ref (B + mad 8), .int (s 9), .ref (B + mad 10), .ref (B + mad 11), .ref (B + mad 12), .int (s 13), .ref (B + mad 14), .int (s 15), .ref (B + mad 16), .ref (B + mad 17), .int (s 18), .ref (B + mad 19), .ref (B + mad 20), .ref (B + mad 21)]
theorem msc_c {k : Nat} (h : msc k = true) : k = 0 ∨ k = 1 ∨ k = 9 ∨ k = 13 ∨ k = 15 ∨ k = 18 := by
  simp only [msc, Bool.or_eq_true, beq_iff_eq] at h
  omega
theorem mar_c {k : Nat} (h : mar k = true) : k = 2 ∨ k = 3 ∨ k = 4 ∨ k = 5 ∨ k = 6 ∨ k = 7 ∨ k = 8 ∨ k = 10 ∨ k = 11 ∨ k = 12 ∨ k = 14 ∨ k = 16 ∨ k = 17 ∨ k = 19 ∨ k = 20 ∨ k = 21 := by
  simp only [mar, Bool.or_eq_true, beq_iff_eq] at h
  omega
theorem mfs_s (B : Nat) (s : Nat → Int32) {k : Nat} (h : msc k = true) : (mfs B s)[k]? = some (.int (s k)) := by
  rcases msc_c h with rfl | rfl | rfl | rfl | rfl | rfl <;> rfl
theorem mfs_a (B : Nat) (s : Nat → Int32) {k : Nat} (h : mar k = true) : (mfs B s)[k]? = some (.ref (B + mad k)) := by
  rcases mar_c h with rfl | rfl | rfl | rfl | rfl | rfl | rfl | rfl | rfl | rfl | rfl | rfl | rfl | rfl | rfl | rfl <;> rfl
theorem mfs_u (B : Nat) (s : Nat → Int32) {k : Nat} (x : Int32) (h : msc k = true) : (mfs B s).set k (.int x) = mfs B (up s k x) := by
  rcases msc_c h with rfl | rfl | rfl | rfl | rfl | rfl <;> rfl
theorem mad_22 : ∀ k, k < 22 → mar k = true → 12 ≤ mad k ∧ mad k ≤ 27 := by decide
theorem mad_ij : ∀ k, k < 22 → ∀ j, j < 22 → mar k = true → mar j = true → mad k = mad j → k = j := by decide
theorem mar_lt {k : Nat} (h : mar k = true) : k < 22 := by have := mar_c h; omega
theorem mar_ms {k : Nat} (h : mar k = true) : 12 ≤ mad k ∧ mad k ≤ 27 := mad_22 k (mar_lt h) h
theorem mad_inj {k j : Nat} (h : mar k = true) (g : mar j = true) (e : mad k = mad j) : k = j := mad_ij k (mar_lt h) j (mar_lt g) h g e
def MW (B : Nat) (w0 : Mp) (s : Nat → Int32) (A : Nat → Int32 → Int32) (w : Mp) : Prop :=
  w (B + 11) = some (.inl (5, mfs B s)) ∧ (∀ k, mar k = true → ∃ f, w (B + mad k) = some (.inr (mty k, (mln k).toNatClampNeg, .inl f)) ∧ ∀ i : Int32, 0 ≤ i → f i.toNatClampNeg = A k i) ∧ (∀ a, a < B + 11 ∨ B + 28 ≤ a → w a = w0 a)
section MWR
variable {B : Nat} {w0 : Mp} {s : Nat → Int32} {A : Nat → Int32 → Int32} {w : Mp} {k : Nat} {β : Type} {P : β → Prop}
theorem k_gI {F : Int32 → Option β} (h : MW B w0 s A w) (hk : msc k = true) (hp : OK (F (s k)) P) : OK ((gI w (some (B + 11)) 5 k).bind F) P := by
  refine OK.eq ?_ hp
  simp [gI, gF, h.1, mfs_s B s hk, oI]
theorem k_gR {F : Option Nat → Option β} (h : MW B w0 s A w) (hk : mar k = true) (hp : OK (F (some (B + mad k))) P) : OK ((gR w (some (B + 11)) 5 k).bind F) P := by
  refine OK.eq ?_ hp
  simp [gR, gF, h.1, mfs_a B s hk, oR]
theorem k_xo {F : Nat → Option β} (h : MW B w0 s A w) (hp : OK (F (B + 11)) P) : OK ((xo w (some (B + 11)) 5).bind F) P := by
  refine OK.eq ?_ hp
  simp [xo, h.1]
theorem k_pF {F : Mp → Option β} {x : Int32} (h : MW B w0 s A w) (hk : msc k = true) (hp : ∀ w', MW B w0 (up s k x) A w' → OK (F w') P) : OK ((pF w (some (B + 11)) 5 k (.int x)).bind F) P := by
  have hl : k < (mfs B s).length := by
    have := msc_c hk
    have e : (mfs B s).length = 22 := rfl
    omega
  refine OK.eq (a := va_up w (B + 11) (some (.inl (5, mfs B (up s k x))))) ?_ (hp _ ⟨by simp [va_up], fun j hj => ?_, fun a ha => ?_⟩)
  · simp only [pF, h.1, hl, and_self, if_true, mfs_u B s x hk]
  · have hm := mar_ms hj
    obtain ⟨f, h1, h2⟩ := h.2.1 j hj
    exact ⟨f, by rw [← h1]; unfold va_up; rw [if_neg (by omega)], h2⟩
  · rw [← h.2.2 a ha]
    unfold va_up
    rw [if_neg (by omega)]
theorem k_aI {F : Int32 → Option β} {t : Nat} {i : Int32} (h : MW B w0 s A w) (hk : mar k = true) (ht : t = mty k) (h0 : 0 ≤ i) (h1 : i < mln k) (hp : OK (F (A k i)) P) : OK ((aI w (some (B + mad k)) t i).bind F) P := by
  obtain ⟨f, e, hf⟩ := h.2.1 k hk
  subst ht
  refine OK.eq ?_ hp
  have := cl_in h0 h1
  simp only [aI, e, this, not_false_eq_true, and_self, if_true, hf i h0]
theorem k_sI {F : Mp → Option β} {t : Nat} {i x : Int32} (h : MW B w0 s A w) (hk : mar k = true) (ht : t = mty k) (h0 : 0 ≤ i) (h1 : i < mln k) (hp : ∀ w', MW B w0 s (upA A k i x) w' → OK (F w') P) : OK ((sI w (some (B + mad k)) t i x).bind F) P := by
  obtain ⟨f, e, hf⟩ := h.2.1 k hk
  subst ht
  have hm := mar_ms hk
  have hc := cl_in h0 h1
  refine OK.eq (a := va_up w (B + mad k) (some (.inr (mty k, (mln k).toNatClampNeg, .inl (upd f i.toNatClampNeg x))))) ?_ (hp _ ⟨?_, fun j hj => ?_, fun a ha => ?_⟩)
  · simp only [sI, e, hc, not_false_eq_true, and_self, if_true]
  · rw [← h.1]
    unfold va_up
    rw [if_neg (by omega)]
  · by_cases ej : j = k
    · subst ej
      refine ⟨upd f i.toNatClampNeg x, by simp [va_up], fun y hy => ?_⟩
      unfold upd upA
      rw [if_pos rfl]
      by_cases ey : y = i
      · rw [if_pos ey, if_pos (by rw [ey])]
      · rw [if_neg ey, if_neg (fun z => ey (cl_inj hy h0 z)), hf y hy]
    · obtain ⟨g, h1, h2⟩ := h.2.1 j hj
      refine ⟨g, ?_, fun y hy => ?_⟩
      · rw [← h1]
        unfold va_up
        rw [if_neg (fun z => ej (mad_inj hj hk (by omega)))]
      · rw [h2 y hy]
        unfold upA
        rw [if_neg ej]
  · rw [← h.2.2 a ha]
    unfold va_up
    rw [if_neg (by omega)]
end MWR
theorem OK.ifP {α : Type} {c : Prop} [Decidable c] {x y : Option α} {P : α → Prop} (h : c) (hx : OK x P) : OK (if c then x else y) P := by rw [if_pos h]; exact hx
theorem OK.ifN {α : Type} {c : Prop} [Decidable c] {x y : Option α} {P : α → Prop} (h : ¬ c) (hx : OK y P) : OK (if c then x else y) P := by rw [if_neg h]; exact hx
/-! the reference's bounds -/
def pcs (A : Nat → Int32 → Int32) (f k : Int32) : Int32 := A 12 (8 * f + k)
def MI (s : Nat → Int32) (A : Nat → Int32 → Int32) : Prop :=
  (0 ≤ s 1 ∧ s 1 ≤ 32) ∧ (0 ≤ s 9 ∧ s 9 ≤ 8) ∧ (0 ≤ s 13 ∧ s 13 ≤ 8) ∧
  (∀ i, 0 ≤ i → i < s 1 → 0 ≤ A 2 i ∧ A 2 i ≤ 3 ∧ 0 ≤ A 3 i ∧ A 3 i ≤ 1000 ∧ 1 ≤ A 4 i ∧ A 4 i ≤ 12 ∧ 1 ≤ A 5 i ∧ A 5 i ≤ 12) ∧
  (∀ f, 0 ≤ f → f < s 9 → 0 ≤ A 10 f ∧ A 10 f ≤ 3 ∧ 2 ≤ A 11 f ∧ A 11 f ≤ 8 ∧ (A 10 f = 3 → A 11 f = 4)) ∧
  (∀ f k, 0 ≤ f → f < s 9 → 0 ≤ k → k < A 11 f → 0 ≤ pcs A f k ∧ pcs A f k < s 1) ∧
  (∀ i, 0 ≤ i → i < s 13 → 1 ≤ A 14 i ∧ A 14 i ≤ 100)
def mnb (k : Nat) : Bool := k == 0 || k == 15 || k == 18
def mnA (k : Nat) : Bool := k == 6 || k == 7 || k == 8 || k == 16 || k == 17 || k == 19 || k == 20 || k == 21
theorem MI.sc {s : Nat → Int32} {A : Nat → Int32 → Int32} {k : Nat} {x : Int32} (hk : mnb k = true) (h : MI s A) : MI (up s k x) A := by
  simp only [mnb, Bool.or_eq_true, beq_iff_eq] at hk
  have e1 : up s k x 1 = s 1 := if_neg (by omega)
  have e2 : up s k x 9 = s 9 := if_neg (by omega)
  have e3 : up s k x 13 = s 13 := if_neg (by omega)
  unfold MI
  rw [e1, e2, e3]
  exact h
theorem MI.ar {s : Nat → Int32} {A : Nat → Int32 → Int32} {k : Nat} {i x : Int32} (hk : mnA k = true) (h : MI s A) : MI s (upA A k i x) := by
  simp only [mnA, Bool.or_eq_true, beq_iff_eq] at hk
  have e : ∀ j, j ≠ k → upA A k i x j = A j := fun j hj => if_neg hj
  unfold MI pcs
  rw [e 2 (by omega), e 3 (by omega), e 4 (by omega), e 5 (by omega), e 10 (by omega), e 11 (by omega), e 12 (by omega), e 14 (by omega)]
  exact h
theorem up_up {s : Nat → Int32} {k : Nat} {x y : Int32} : up (up s k y) k x = up s k x := by
  funext j
  unfold up
  by_cases h : j = k
  · rw [if_pos h, if_pos h]
  · rw [if_neg h, if_neg h, if_neg h]
theorem up_at {s : Nat → Int32} {k : Nat} {x : Int32} : up s k x k = x := if_pos rfl
section MWR2
variable {B : Nat} {w0 : Mp} {s : Nat → Int32} {A : Nat → Int32 → Int32} {w : Mp} {β : Type} {P : β → Prop}
theorem k_pF2 {k : Nat} {F : Mp → Option β} {x y : Int32} (h : MW B w0 (up s k y) A w) (hk : msc k = true) (hp : ∀ w', MW B w0 (up s k x) A w' → OK (F w') P) : OK ((pF w (some (B + 11)) 5 k (.int x)).bind F) P :=
  k_pF h hk (fun w' hw => hp w' (by rw [up_up] at hw; exact hw))
theorem k_gIa {k : Nat} {F : Int32 → Option β} {x : Int32} (h : MW B w0 (up s k x) A w) (hk : msc k = true) (hp : OK (F x) P) : OK ((gI w (some (B + 11)) 5 k).bind F) P :=
  k_gI h hk (by rw [up_at]; exact hp)
end MWR2
