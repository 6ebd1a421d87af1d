/-! putting in at its place: positions by number, then by turn -/
def qLt (fb : Int32 → Bool) (nm : Int32 → Int32) (v k : Int32) : Bool := fb k && decide (nm k < v)
def qEq (fb : Int32 → Bool) (nm : Int32 → Int32) (v k : Int32) : Bool := fb k && decide (nm k = v)
def qLe (fb : Int32 → Bool) (nm : Int32 → Int32) (v k : Int32) : Bool := fb k && decide (nm k ≤ v)
def posG (fb : Int32 → Bool) (nm : Int32 → Int32) (n : Nat) (k : Int32) : Nat := cn (qLt fb nm (nm k)) n + cn (qEq fb nm (nm k)) k.toNatClampNeg
theorem cn_imp {p q : Int32 → Bool} : ∀ n, (∀ i, i < n → p (Int32.ofNat i) = true → q (Int32.ofNat i) = true) → cn p n ≤ cn q n := by
  intro n
  induction n with
  | zero => intro _; exact Nat.le_refl _
  | succ n ih =>
    intro h
    have a := ih (fun i hi => h i (by omega))
    have b := h n (by omega)
    rw [cn, cn]
    by_cases c : p (Int32.ofNat n) = true
    · rw [if_pos c, if_pos (b c)]; omega
    · rw [if_neg c]; omega
theorem q_add (fb : Int32 → Bool) (nm : Int32 → Int32) (v : Int32) (n : Nat) : cn (qLe fb nm v) n = cn (qLt fb nm v) n + cn (qEq fb nm v) n := by
  refine cn_add n (fun i _ => ?_)
  unfold qLe qLt qEq
  cases fb (Int32.ofNat i) with
  | false => rfl
  | true =>
    simp only [Bool.true_and, decide_eq_true_eq]
    grind
section GATH
variable {fb : Int32 → Bool} {nm : Int32 → Int32}
theorem pos_lt {i k : Int32} (k0 : 0 ≤ k) (ki : k < i) (i1 : i ≤ 1000) (hk : fb k = true) : posG fb nm i.toNatClampNeg k + 1 ≤ cn (qLe fb nm (nm k)) i.toNatClampNeg := by
  have a := q_add fb nm (nm k) i.toNatClampNeg
  have e : qEq fb nm (nm k) k = true := by unfold qEq; simp [hk]
  have st := cn_step (p := qEq fb nm (nm k)) k0 (by lia)
  rw [e] at st
  simp only [if_true] at st
  have le : (k + 1).toNatClampNeg ≤ i.toNatClampNeg := by
    rw [cl_succ k0 (by lia)]
    have := cl_mono k0 ki
    omega
  have mo := cn_mono (qEq fb nm (nm k)) _ _ le
  unfold posG
  omega
theorem pos_le_iff {i k v : Int32} (k0 : 0 ≤ k) (ki : k < i) (i1 : i ≤ 1000) (hk : fb k = true) : (nm k ≤ v → posG fb nm i.toNatClampNeg k < cn (qLe fb nm v) i.toNatClampNeg) ∧ (v < nm k → cn (qLe fb nm v) i.toNatClampNeg ≤ posG fb nm i.toNatClampNeg k) := by
  constructor
  · intro h
    have a := pos_lt (nm := nm) k0 ki i1 hk
    have b : cn (qLe fb nm (nm k)) i.toNatClampNeg ≤ cn (qLe fb nm v) i.toNatClampNeg := cn_imp _ (fun j _ hj => by
      unfold qLe at hj ⊢
      simp only [Bool.and_eq_true, decide_eq_true_eq] at hj ⊢
      exact ⟨hj.1, by lia⟩)
    omega
  · intro h
    have b : cn (qLe fb nm v) i.toNatClampNeg ≤ cn (qLt fb nm (nm k)) i.toNatClampNeg := cn_imp _ (fun j _ hj => by
      unfold qLe at hj
      unfold qLt
      simp only [Bool.and_eq_true, decide_eq_true_eq] at hj ⊢
      exact ⟨hj.1, by lia⟩)
    unfold posG
    omega
/-- places 0 .. cnt - 1 of c hold those of the first i that are wanted, each at its position -/
def GI (fb : Int32 → Bool) (nm : Int32 → Int32) (src c : Int32 → Option Nat) (i cnt : Int32) : Prop := cnt = Int32.ofNat (cn fb i.toNatClampNeg) ∧ ∀ j, 0 ≤ j → j < cnt → ∃ k, 0 ≤ k ∧ k < i ∧ fb k = true ∧ c j = src k ∧ posG fb nm i.toNatClampNeg k = j.toNatClampNeg
theorem GI_skip {src c : Int32 → Option Nat} {i cnt : Int32} (i0 : 0 ≤ i) (i1 : i < 1000) (h : GI fb nm src c i cnt) (hf : fb i = false) : GI fb nm src c (i + 1) cnt := by
  have st := cn_step (p := fb) i0 i1
  rw [hf] at st
  refine ⟨by rw [st]; exact h.1, fun j j0 j1 => ?_⟩
  obtain ⟨k, k0, k1, k2, k3, k4⟩ := h.2 j j0 j1
  refine ⟨k, k0, by clear k4 st h; lia, k2, k3, ?_⟩
  rw [← k4]
  unfold posG
  rw [cn_step i0 i1, show qLt fb nm (nm k) i = false by unfold qLt; rw [hf]; rfl]
  rfl
theorem GI_step {src c c2 : Int32 → Option Nat} {i cnt x : Int32} (num : Option Nat → Int32) (i0 : 0 ≤ i) (i1 : i < 100) (h : GI fb nm src c i cnt) (hf : fb i = true) (hnum : ∀ k, num (src k) = nm k) (x0 : 0 ≤ x) (x1 : x ≤ cnt) (c2a : ∀ j, 0 ≤ j → j < x → c2 j = c j) (c2x : c2 x = src i) (c2b : ∀ j, x < j → j ≤ cnt → c2 j = c (j - 1)) (gt : ∀ j, x ≤ j → j < cnt → nm i < num (c j)) (le : x = 0 ∨ num (c (x - 1)) ≤ nm i) : GI fb nm src c2 (i + 1) (cnt + 1) := by
  obtain ⟨hc, hp⟩ := h
  have ci := cl_int i0
  have i100 : i.toInt < 100 := by rw [Int32.lt_iff_toInt_lt, show (100 : Int32).toInt = 100 by decide] at i1; exact i1
  have cb := cn_le fb i.toNatClampNeg
  have cN : cnt.toNatClampNeg = cn fb i.toNatClampNeg := by rw [hc]; exact cl_ofNat (by omega)
  have cnt0 : 0 ≤ cnt := by clear hp gt c2a c2b; lia
  have cntb : cnt < 200 := by
    have := cl_int cnt0
    rw [Int32.lt_iff_toInt_lt, show (200 : Int32).toInt = 200 by decide]
    omega
  have mle : cn (qLe fb nm (nm i)) i.toNatClampNeg ≤ cn fb i.toNatClampNeg := cn_imp _ (fun j _ hj => by
    unfold qLe at hj
    simp only [Bool.and_eq_true] at hj
    exact hj.1)
  have xm : x.toNatClampNeg = cn (qLe fb nm (nm i)) i.toNatClampNeg := by
    have lo : x.toNatClampNeg ≤ cn (qLe fb nm (nm i)) i.toNatClampNeg := by
      rcases le with e | e
      · rw [e]; exact Nat.zero_le _
      · by_cases xz : x = 0
        · rw [xz]; exact Nat.zero_le _
        · have y0 : 0 ≤ x - 1 ∧ x - 1 < cnt := by clear hp gt c2a c2b hc; constructor <;> lia
          obtain ⟨k, k0, k1, k2, k3, k4⟩ := hp (x - 1) y0.1 y0.2
          rw [k3, hnum] at e
          have z := (pos_le_iff (nm := nm) (v := nm i) k0 k1 (by clear hp gt c2a c2b hc; lia) k2).1 e
          rw [k4] at z
          have z2 := cl_succ y0.1 (by clear hp gt c2a c2b hc; lia)
          rw [show x - 1 + 1 = x by grind] at z2
          omega
    have hi : cn (qLe fb nm (nm i)) i.toNatClampNeg ≤ x.toNatClampNeg := by
      by_cases xc : x = cnt
      · rw [xc, cN]; exact mle
      · have xl : x < cnt := by clear hp gt c2a c2b hc; lia
        obtain ⟨k, k0, k1, k2, k3, k4⟩ := hp x x0 xl
        have g := gt x (Int32.le_refl _) xl
        rw [k3, hnum] at g
        have z := (pos_le_iff (nm := nm) (v := nm i) k0 k1 (by clear hp gt c2a c2b hc; lia) k2).2 g
        rw [k4] at z
        exact z
    omega
  have st : ∀ k, posG fb nm (i + 1).toNatClampNeg k = posG fb nm i.toNatClampNeg k + (if nm i < nm k then 1 else 0) := fun k => by
    unfold posG
    rw [cn_step i0 (by clear hp gt c2a c2b hc; lia), show qLt fb nm (nm k) i = decide (nm i < nm k) by unfold qLt; rw [hf]; rfl]
    simp only [decide_eq_true_eq]
    omega
  refine ⟨?_, fun j j0 j1 => ?_⟩
  · rw [cn_step i0 (by clear hp gt c2a c2b hc; lia), hf, hc, of_add1 (by omega)]
    rfl
  · have i2 : i < i + 1 := by clear hp gt c2a c2b hc; lia
    by_cases a : j < x
    · obtain ⟨k, k0, k1, k2, k3, k4⟩ := hp j j0 (by clear hp gt c2a c2b hc; lia)
      refine ⟨k, k0, by clear hp gt c2a c2b hc; lia, k2, by rw [c2a j j0 a]; exact k3, ?_⟩
      have ne : ¬ nm i < nm k := fun z => by
        have z2 := (pos_le_iff (nm := nm) (v := nm i) k0 k1 (by clear hp gt c2a c2b hc; lia) k2).2 z
        have z3 := cl_mono j0 a
        omega
      rw [st, if_neg ne, k4]
      rfl
    · by_cases b : j = x
      · subst b
        refine ⟨i, i0, i2, hf, c2x, ?_⟩
        rw [st, if_neg (by clear hp gt c2a c2b hc; lia), xm, q_add]
        rfl
      · have xj : x < j := by clear hp gt c2a c2b hc; lia
        have y0 : 0 ≤ j - 1 ∧ j - 1 < cnt ∧ j ≤ cnt := by clear hp gt c2a c2b hc; refine ⟨by lia, by lia, by lia⟩
        obtain ⟨k, k0, k1, k2, k3, k4⟩ := hp (j - 1) y0.1 y0.2.1
        have jj := cl_succ y0.1 (by clear hp gt c2a c2b hc; lia)
        rw [show j - 1 + 1 = j by grind] at jj
        refine ⟨k, k0, by clear hp gt c2a c2b hc y0; lia, k2, by rw [c2b j xj y0.2.2]; exact k3, ?_⟩
        have lt : nm i < nm k := by
          by_cases z : nm k ≤ nm i
          · have z2 := (pos_le_iff (nm := nm) (v := nm i) k0 k1 (by clear hp gt c2a c2b hc; lia) k2).1 z
            have z3 := cl_mono x0 xj
            omega
          · clear hp gt c2a c2b hc; lia
        rw [st, if_pos lt, k4, jj]
end GATH
