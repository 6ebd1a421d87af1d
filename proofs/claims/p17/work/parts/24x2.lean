/-! the class's losses, exactly: by the reference's table -/
theorem an_a1 : ∀ n, n < 9 → ∀ f, f < n → ∀ m, m < 2 ^ n → (Int32.ofNat m &&& ((1 : Int32) <<< (Int32.ofNat f &&& 31)) ≠ 0 ∨ ((Int32.ofNat (2 ^ n) - 1 - Int32.ofNat m) >>> (Int32.ofNat f &&& 31)) &&& 1 = 1) := by decide +kernel
theorem an_a2 : ∀ n, n < 9 → ∀ f, f < n → ∀ m, m < 2 ^ n → (Int32.ofNat m &&& ((1 : Int32) <<< (Int32.ofNat f &&& 31)) ≠ 0 ∨ Int32.ofNat (2 ^ n) - 1 - (Int32.ofNat m ||| ((1 : Int32) <<< (Int32.ofNat f &&& 31))) = (Int32.ofNat (2 ^ n) - 1 - Int32.ofNat m) ^^^ ((1 : Int32) <<< (Int32.ofNat f &&& 31))) := by decide +kernel
theorem an_a3 : ∀ n, n < 9 → ∀ f, f < n → ∀ m, m < 2 ^ n → (Int32.ofNat m &&& ((1 : Int32) <<< (Int32.ofNat f &&& 31)) = 0 ∨ ((Int32.ofNat (2 ^ n) - 1 - Int32.ofNat m) >>> (Int32.ofNat f &&& 31)) &&& 1 ≠ 1) := by decide +kernel
theorem an_l {x f n S : Int32} (n0 : 0 ≤ n) (n1 : n ≤ 8) (hS : S = (1 : Int32) <<< (n &&& 31)) (h0 : 0 ≤ x) (h1 : x < S) (f0 : 0 ≤ f) (f1 : f < n) : (x &&& ((1 : Int32) <<< (f &&& 31)) = 0 → bt (S - 1 - x) f = 1 ∧ S - 1 - (x ||| ((1 : Int32) <<< (f &&& 31))) = tg (S - 1 - x) f) ∧ (¬ x &&& ((1 : Int32) <<< (f &&& 31)) = 0 → ¬ bt (S - 1 - x) f = 1) := by
  have nb : n.toNatClampNeg < 9 := cl_lt n0 (n := 9) (by show n < 9; lia) (by decide)
  have e := sh_all n.toNatClampNeg nb
  rw [of_cl n0] at e
  rw [hS, e] at h1
  have p : 2 ^ n.toNatClampNeg < 2147483648 := by
    generalize n.toNatClampNeg = m at nb
    rcases (by omega : m = 0 ∨ m = 1 ∨ m = 2 ∨ m = 3 ∨ m = 4 ∨ m = 5 ∨ m = 6 ∨ m = 7 ∨ m = 8) with rfl | rfl | rfl | rfl | rfl | rfl | rfl | rfl | rfl <;> decide
  have k1 := an_a1 n.toNatClampNeg nb f.toNatClampNeg (cl_mono f0 f1) x.toNatClampNeg (cl_lt h0 h1 p)
  have k2 := an_a2 n.toNatClampNeg nb f.toNatClampNeg (cl_mono f0 f1) x.toNatClampNeg (cl_lt h0 h1 p)
  have k3 := an_a3 n.toNatClampNeg nb f.toNatClampNeg (cl_mono f0 f1) x.toNatClampNeg (cl_lt h0 h1 p)
  rw [of_cl h0, of_cl f0, ← e, ← hS] at k1 k2 k3
  exact ⟨fun z => ⟨k1.resolve_left (fun q => q z), k2.resolve_left (fun q => q z)⟩, fun z => k3.resolve_left z⟩
theorem ar_ti {a x S : Int32} (a0 : 0 ≤ a) (a1 : a ≤ 32) (x0 : 0 ≤ x) (x1 : x < S) (S1 : S ≤ 256) : (a * S + x).toInt = ((a.toNatClampNeg * S.toNatClampNeg + x.toNatClampNeg : Nat) : Int) ∧ x.toNatClampNeg < S.toNatClampNeg := by
  have hS : 0 ≤ S := by lia
  have ea := cl_int a0
  have ex := cl_int x0
  have eS := cl_int hS
  rw [Int32.lt_iff_toInt_lt] at x1
  rw [Int32.le_iff_toInt_le, show (32 : Int32).toInt = 32 by decide] at a1
  rw [Int32.le_iff_toInt_le, show (256 : Int32).toInt = 256 by decide] at S1
  generalize a.toNatClampNeg = a' at ea
  generalize x.toNatClampNeg = x' at ex
  generalize S.toNatClampNeg = S' at eS
  have b2 : a' * S' ≤ 32 * 256 := Nat.mul_le_mul (by omega) (by omega)
  have m1 : (a * S).toInt = (a' * S' : Nat) := by
    rw [Int32.toInt_mul, ← ea, ← eS, Int.bmod_eq_of_le (by omega) (by omega)]
    rfl
  refine ⟨?_, by omega⟩
  rw [Int32.toInt_add, m1, ← ex, Int.bmod_eq_of_le (by omega) (by omega)]
  rfl
theorem ar_sj {a b x y S : Int32} (a0 : 0 ≤ a) (a1 : a ≤ 32) (b0 : 0 ≤ b) (b1 : b ≤ 32) (x0 : 0 ≤ x) (x1 : x < S) (y0 : 0 ≤ y) (y1 : y < S) (S1 : S ≤ 256) (h : a * S + x = b * S + y) : a = b ∧ x = y := by
  have p := ar_ti a0 a1 x0 x1 S1
  have q := ar_ti b0 b1 y0 y1 S1
  rw [h, q.1] at p
  have e := Int.ofNat.inj p.1
  have lx := p.2
  have ly := q.2
  have k : a.toNatClampNeg = b.toNatClampNeg ∧ x.toNatClampNeg = y.toNatClampNeg := by
    generalize a.toNatClampNeg = a' at e
    generalize b.toNatClampNeg = b' at e
    generalize x.toNatClampNeg = x' at e lx
    generalize y.toNatClampNeg = y' at e ly
    generalize S.toNatClampNeg = S' at e lx ly
    rcases Nat.lt_trichotomy a' b' with z | z | z
    · exfalso
      have q2 := Nat.mul_le_mul_right S' (show a' + 1 ≤ b' from z)
      rw [Nat.add_mul, Nat.one_mul] at q2
      omega
    · subst z
      exact ⟨rfl, by omega⟩
    · exfalso
      have q2 := Nat.mul_le_mul_right S' (show b' + 1 ≤ a' from z)
      rw [Nat.add_mul, Nat.one_mul] at q2
      omega
  constructor
  · rw [← of_cl a0, ← of_cl b0, k.1]
  · rw [← of_cl x0, ← of_cl y0, k.2]
theorem Best_z {A : Nat → Int32 → Int32} {rs i set b b0 : Int32} (e : b = b0) : Best A rs 0 i set b b0 := ⟨Or.inl e, by rw [e]; exact Int32.le_refl _, fun f v f0 f1 => absurd f1 (by lia)⟩
theorem Best_s1 {A : Nat → Int32 → Int32} {rs i set b b0 f v : Int32} (f0 : 0 ≤ f) (f1 : f < 8) (h : Best A rs f i set b b0) (hb : bt set f = 1) (hl : lw A rs i set f v) : Best A rs (f + 1) i set (if b < v then b else v) b0 := by
  obtain ⟨h1, h2, h3⟩ := h
  have lt : ∀ g, g < f + 1 → g < f ∨ g = f := fun g hg => by clear h1 h3 hl hb; lia
  have up : ∀ g, g < f → g < f + 1 := fun g hg => by clear h1 h3 hl hb lt; lia
  have ff : f < f + 1 := by clear h1 h3 hl hb lt up; lia
  refine ⟨?_, ?_, fun g u g0 g1 gb gl => ?_⟩
  · by_cases c : b < v
    · rw [if_pos c]
      rcases h1 with e | ⟨g, g0, g1, gb, gl⟩
      · exact Or.inl e
      · exact Or.inr ⟨g, g0, up g g1, gb, gl⟩
    · rw [if_neg c]
      exact Or.inr ⟨f, f0, ff, hb, hl⟩
  · by_cases c : b < v
    · rw [if_pos c]; exact h2
    · rw [if_neg c]; clear h1 h3 hl hb lt up; lia
  · rcases lt g g1 with z | z
    · have q := h3 g u g0 z gb gl
      by_cases c : b < v
      · rw [if_pos c]; exact q
      · rw [if_neg c]; clear h1 h3 hl hb lt up gl; lia
    · subst z
      rw [lw_uniq gl hl]
      by_cases c : b < v
      · rw [if_pos c]; clear h1 h3 hl hb lt up gl; lia
      · rw [if_neg c]; exact Int32.le_refl _
theorem Best_s0 {A : Nat → Int32 → Int32} {rs i set b b0 f : Int32} (f0 : 0 ≤ f) (f1 : f < 8) (h : Best A rs f i set b b0) (hb : ¬ bt set f = 1 ∨ (lw A rs i set f 1000000 ∧ b0 ≤ 1000000)) : Best A rs (f + 1) i set b b0 := by
  obtain ⟨h1, h2, h3⟩ := h
  have lt : ∀ g, g < f + 1 → g < f ∨ g = f := fun g hg => by clear h1 h3 hb; lia
  have up : ∀ g, g < f → g < f + 1 := fun g hg => by clear h1 h3 hb lt; lia
  refine ⟨h1.imp id (fun ⟨g, g0, g1, gb, gl⟩ => ⟨g, g0, up g g1, gb, gl⟩), h2, fun g u g0 g1 gb gl => ?_⟩
  rcases lt g g1 with z | z
  · exact h3 g u g0 z gb gl
  · subst z
    rcases hb with hb | ⟨hb, hc⟩
    · exact absurd gb hb
    · rw [lw_uniq gl hb]
      exact Int32.le_trans h2 hc
theorem Best_u {A : Nat → Int32 → Int32} {rs wn i set b b' b0 : Int32} (h : Best A rs wn i set b b0) (h' : Best A rs wn i set b' b0) : b = b' := by
  have key : ∀ {c c'}, Best A rs wn i set c b0 → Best A rs wn i set c' b0 → c ≤ c' := fun {c c'} k k' => by
    rcases k'.1 with e | ⟨f, f0, f1, fb, fl⟩
    · rw [e]; exact k.2.1
    · exact k.2.2 f _ f0 f1 fb fl
  exact Int32.le_antisymm (key h h') (key h' h)
/-- from leaf i on the class's losses are the reference's -/
def TLE (I : Nat → Int32 → Int32) (e7 : Nat) (S cnt : Int32) (le : Int32 → Int32) (i : Int32) : Prop := ∀ a x, i ≤ a → a ≤ cnt → 0 ≤ x → x < S → I e7 (a * S + x) = le (256 * a + (S - 1 - x))
/-- at leaf st, the faces before f looked at -/
def TLB (A : Nat → Int32 → Int32) (le : Int32 → Int32) (I : Nat → Int32 → Int32) (e7 : Nat) (S cnt st f y : Int32) : Prop := Best (upL A le) cnt f st (S - 1 - y) (I e7 (st * S + y)) (le (256 * (st + 1) + (S - 1 - y)))
section CPy
variable {B : Nat} {w0 : Mp} {T K : Nat → Nat} {V : Nat → Nat → Int32} {R : Nat → Nat → Option Nat} {I : Nat → Int32 → Int32} {O : Nat → Int32 → Option Nat} {N : Nat → Int32} {w : Mp} {sz : Nat} {β : Type} {P : β → Prop} {e5 e6 e7 : Nat} {cnt : Int32} {s : Nat → Int32} {A : Nat → Int32 → Int32} {le : Int32 → Int32}
theorem TLE.st {I : Nat → Int32 → Int32} {S i j x v : Int32} (S1 : S ≤ 256) (c1 : cnt ≤ 32) (j0 : 0 ≤ j) (ji : j < i) (ic : i ≤ cnt) (x0 : 0 ≤ x) (x1 : x < S) (h : TLE I e7 S cnt le i) : TLE (va_up I e7 (fun z => if z = j * S + x then v else I e7 z)) e7 S cnt le i := fun a y a0 a1 y0 y1 => by
  rw [vup_s, if_neg (fun z => by
    have := (ar_sj (by clear h; lia) (by clear h; lia) j0 (by clear h; lia) y0 y1 x0 x1 S1 z).1
    clear h; lia)]
  exact h a y a0 a1 y0 y1
theorem n_lx_L2 (hP : PC B T K V R N e5 e6 e7 cnt) (hT : LAST s le (V (B + 3) 8)) (e18 : s 18 = cnt) : ∀ (n : Nat) (x : Int32) (I' : Nat → Int32 → Int32) (w : Mp), CW B w0 T V R I' O N w → 0 ≤ x → x ≤ V (B + 3) 8 → (V (B + 3) 8 - x).toInt < n → (∀ a, a ≠ e7 → I' a = I a) → (∀ y, 0 ≤ y → y < x → I' e7 (cnt * V (B + 3) 8 + y) = le (256 * cnt + (V (B + 3) 8 - 1 - y))) → OK (f_Plan_findLeastLoss_L2 (B + 3) cnt n x w) (fun q => ∃ I', CW B w0 T V R I' O N q.2.2 ∧ (∀ a, a ≠ e7 → I' a = I a) ∧ TLE I' e7 (V (B + 3) 8) cnt le cnt) := by
  obtain ⟨t3, -, -, -, -, -, ⟨r7, u7, n7, q7⟩, wb, sb, cb⟩ := id hP
  have S := hP.sets
  intro n
  induction n with
  | zero => intro x I' w _ b0 b1 hn; exact (fu_zero b0 b1 hn).elim
  | succ n ih =>
    intro x I' w h b0 b1 hn hi hg
    rw [f_Plan_findLeastLoss_L2]
    refine c_gI h t3 (by decide) (OK.ite (fun c => OK.ret ⟨I', h, hi, fun a y a0 a1 y0 y1 => ?_⟩) (fun c => ?_))
    · rw [show a = cnt from Int32.le_antisymm a1 a0]
      exact hg y y0 (by clear hg hn ih sb n7; lia)
    have y : x < V (B + 3) 8 := by clear hn ih sb n7 hg; lia
    have fs := fu_step b0 y hn
    have nx : 0 ≤ x + 1 ∧ x + 1 ≤ V (B + 3) 8 := by clear hn ih sb n7 fs hg; constructor <;> lia
    have ix := hP.ix cb.1 (Int32.le_refl _) b0 y
    have tl := hT (V (B + 3) 8 - 1 - x) (by clear hn ih sb n7 fs hg; lia) (by clear hn ih sb n7 fs hg; lia)
    rw [e18] at tl
    have st : ∀ v, v = le (256 * cnt + (V (B + 3) 8 - 1 - x)) → ∀ y, 0 ≤ y → y < x + 1 → va_up I' e7 (fun z => if z = cnt * V (B + 3) 8 + x then v else I' e7 z) e7 (cnt * V (B + 3) 8 + y) = le (256 * cnt + (V (B + 3) 8 - 1 - y)) := fun v hv y' y0 y1 => by
      rw [vup_s]
      by_cases e : y' = x
      · rw [if_pos (by rw [e]), hv, e]
      · rw [if_neg (fun z => e (ar_sj cb.1 cb.2 cb.1 cb.2 y0 (by clear hn ih sb n7 fs hg tl; lia) b0 y S.2 z).2)]
        exact hg y' y0 (by clear hn ih sb n7 fs hg tl; lia)
    refine c_gRs h t3 r7 (by decide) (c_gI h t3 (by decide) (c_gI h t3 (by decide) (OK.ite (fun d => ?_) (fun d => ?_))))
    · rw [if_pos (by clear hn ih sb n7 fs hg tl; lia)] at tl
      exact c_sI h u7 ix.1 ix.2 (fun w1 h1 => ih _ _ w1 h1 nx.1 nx.2 fs (fun a ha => by rw [vup_n ha]; exact hi a ha) (st _ tl.symm))
    · rw [if_neg (by clear hn ih sb n7 fs hg tl; lia)] at tl
      exact c_sI h u7 ix.1 ix.2 (fun w1 h1 => ih _ _ w1 h1 nx.1 nx.2 fs (fun a ha => by rw [vup_n ha]; exact hi a ha) (st _ tl.symm))
theorem n_lx_L55 {st : Int32} (hP : PC B T K V R N e5 e6 e7 cnt) (s0 : 0 ≤ st) (s1 : st < cnt) : ∀ (n : Nat) (x : Int32) (I' : Nat → Int32 → Int32) (w : Mp), CW B w0 T V R I' O N w → 0 ≤ x → x ≤ V (B + 3) 8 → (V (B + 3) 8 - x).toInt < n → (∀ a, a ≠ e7 → I' a = I a) → TLE I' e7 (V (B + 3) 8) cnt le (st + 1) → (∀ y, 0 ≤ y → y < x → I' e7 (st * V (B + 3) 8 + y) = le (256 * (st + 1) + (V (B + 3) 8 - 1 - y))) → OK (f_Plan_findLeastLoss_L55 (B + 3) st n x w) (fun q => ∃ I', CW B w0 T V R I' O N q.2.2 ∧ (∀ a, a ≠ e7 → I' a = I a) ∧ TLE I' e7 (V (B + 3) 8) cnt le (st + 1) ∧ ∀ y, 0 ≤ y → y < V (B + 3) 8 → TLB A le I' e7 (V (B + 3) 8) cnt st 0 y) := by
  obtain ⟨t3, -, -, -, -, -, ⟨r7, u7, n7, q7⟩, wb, sb, cb⟩ := id hP
  have S := hP.sets
  have sn : 0 ≤ st + 1 ∧ st + 1 ≤ cnt ∧ st ≤ cnt ∧ st ≤ 32 ∧ st < st + 1 := by clear sb n7; refine ⟨by lia, by lia, by lia, by lia, by lia⟩
  intro n
  induction n with
  | zero => intro x I' w _ b0 b1 hn; exact (fu_zero b0 b1 hn).elim
  | succ n ih =>
    intro x I' w h b0 b1 hn hi hE hg
    rw [f_Plan_findLeastLoss_L55]
    refine c_gI h t3 (by decide) (OK.ite (fun c => OK.ret ⟨I', h, hi, hE, fun y y0 y1 => Best_z (hg y y0 (by clear hg hn ih sb n7 hE; lia))⟩) (fun c => ?_))
    have y : x < V (B + 3) 8 := by clear hn ih sb n7 hg hE; lia
    have fs := fu_step b0 y hn
    have nx : 0 ≤ x + 1 ∧ x + 1 ≤ V (B + 3) 8 := by clear hn ih sb n7 fs hg hE; constructor <;> lia
    have ix := hP.ix sn.1 sn.2.1 b0 y
    have iy := hP.ix s0 sn.2.2.1 b0 y
    refine c_gRs h t3 r7 (by decide) (c_gI h t3 (by decide) (c_gRs h t3 r7 (by decide) (c_gI h t3 (by decide) (c_aI h u7 ix.1 ix.2 (c_sI h u7 iy.1 iy.2 (fun w1 h1 => ih _ _ w1 h1 nx.1 nx.2 fs (fun a ha => by rw [vup_n ha]; exact hi a ha) (hE.st S.2 cb.2 s0 sn.2.2.2.2 sn.2.1 b0 y) (fun y' y0 y1 => ?_)))))))
    rw [vup_s]
    by_cases e : y' = x
    · rw [if_pos (by rw [e]), e]
      exact hE (st + 1) x (Int32.le_refl _) sn.2.1 b0 y
    · rw [if_neg (fun z => e (ar_sj s0 sn.2.2.2.1 s0 sn.2.2.2.1 y0 (by clear hn ih sb n7 fs hg hE; lia) b0 y S.2 z).2)]
      exact hg y' y0 (by clear hn ih sb n7 fs hg hE; lia)
theorem n_lx_low_L {st f lo m : Int32} (hP : PC B T K V R N e5 e6 e7 cnt) (s0 : 0 ≤ st) (s1 : st < cnt) (f0 : 0 ≤ f) (f1 : f < V (B + 3) 1) (hm : mm A cnt st (A 14 f) m) (m0 : m ≠ 0) (hlo : lo = ws A st m - A 14 f) : ∀ (n : Nat) (x : Int32) (I' : Nat → Int32 → Int32) (w : Mp), CW B w0 T V R I' O N w → 0 ≤ x → x ≤ V (B + 3) 8 → (V (B + 3) 8 - x).toInt < n → (∀ a, a ≠ e7 → I' a = I a) → TLE I' e7 (V (B + 3) 8) cnt le (st + 1) → (∀ y, 0 ≤ y → y < x → TLB A le I' e7 (V (B + 3) 8) cnt st (f + 1) y) → (∀ y, x ≤ y → y < V (B + 3) 8 → TLB A le I' e7 (V (B + 3) 8) cnt st f y) → OK (f_Plan_lowerByFace_L39 (B + 3) st ((1 : Int32) <<< (f &&& 31)) (st + m) lo n x w) (fun q => ∃ I', CW B w0 T V R I' O N q.2.2 ∧ (∀ a, a ≠ e7 → I' a = I a) ∧ TLE I' e7 (V (B + 3) 8) cnt le (st + 1) ∧ ∀ y, 0 ≤ y → y < V (B + 3) 8 → TLB A le I' e7 (V (B + 3) 8) cnt st (f + 1) y) := by
  obtain ⟨t3, -, -, -, -, -, ⟨r7, u7, n7, q7⟩, wb, sb, cb⟩ := id hP
  have S := hP.sets
  have sn : st ≤ cnt ∧ st ≤ 32 ∧ st + 1 ≤ cnt ∧ st < st + 1 := by clear sb n7 hm; refine ⟨by lia, by lia, by lia, by lia⟩
  have f8 : f < 8 := by clear sb n7 hm; lia
  obtain ⟨e0, e1, e2⟩ : st + 1 ≤ st + m ∧ 0 ≤ st + m ∧ st + m ≤ cnt := by
    rcases id hm with ⟨a1, a2, a3, -⟩ | ⟨a1, -⟩
    · have z := ar_m s0 sn.2.1 a1 a3 a2 cb.2
      exact ⟨by clear sb n7 hm a2; lia, z.2.1, a2⟩
    · exact absurd a1 m0
  intro n
  induction n with
  | zero => intro x I' w _ b0 b1 hn; exact (fu_zero b0 b1 hn).elim
  | succ n ih =>
    intro x I' w h b0 b1 hn hi hE hg hu
    rw [f_Plan_lowerByFace_L39]
    refine c_gI h t3 (by decide) (OK.ite (fun c => OK.ret ⟨I', h, hi, hE, fun y y0 y1 => hg y y0 (by clear hg hu hn ih sb n7 hE hm; lia)⟩) (fun c => ?_))
    have y : x < V (B + 3) 8 := by clear hn ih sb n7 hg hu hE hm; lia
    have fs := fu_step b0 y hn
    have nx : 0 ≤ x + 1 ∧ x + 1 ≤ V (B + 3) 8 := by clear hn ih sb n7 fs hg hu hE hm; constructor <;> lia
    have an := an_l wb.1 wb.2 sb b0 y f0 f1
    have hux := hu x (Int32.le_refl _) y
    refine OK.ite (fun d => ?_) (fun d => ih _ _ w h nx.1 nx.2 fs hi hE (fun y' y0 y1 => ?_) (fun y' y0 y1 => hu y' (by clear hn ih sb n7 fs hg hu hE hm an; lia) y1))
    · have o := or_l wb.1 wb.2 b0 (by rw [← sb]; exact y) f0 f1
      rw [← sb] at o
      have ix := hP.ix e1 e2 o.1 o.2
      have iy := hP.ix s0 sn.1 b0 y
      refine c_gRs h t3 r7 (by decide) (c_gI h t3 (by decide) (c_aI h u7 ix.1 ix.2 (c_gRs h t3 r7 (by decide) (c_gI h t3 (by decide) (c_gRs h t3 r7 (by decide) (c_gI h t3 (by decide) (c_aI h u7 iy.1 iy.2 (c_sI h u7 iy.1 iy.2 (fun w1 h1 => ih _ _ w1 h1 nx.1 nx.2 fs (fun a ha => by rw [vup_n ha]; exact hi a ha) (hE.st S.2 cb.2 s0 sn.2.2.2 sn.2.2.1 b0 y) (fun y' y0 y1 => ?_) (fun y' y0 y1 => ?_))))))))))
      · by_cases e : y' = x
        · subst e
          unfold TLB
          rw [vup_s, if_pos rfl]
          refine Best_s1 f0 f8 hux (an.1 d).1 ⟨m, ?_, ?_⟩
          · rw [mm_congr (A' := upL A le) (A := A) rfl rfl rfl]
            exact hm
          · rw [hE (st + m) _ e0 e2 o.1 o.2, (an.1 d).2, hlo]
            unfold lwv
            rw [if_neg m0, ws_congr (A' := upL A le) (A := A) rfl rfl]
            show ws A st m - A 14 f + le _ = -(A 14 f) + ws A st m + le _
            rw [Int32.sub_eq_add_neg, Int32.add_comm (ws A st m)]
        · unfold TLB
          rw [vup_s, if_neg (fun z => e (ar_sj s0 sn.2.1 s0 sn.2.1 y0 (by clear hn ih sb n7 fs hg hu hE hm an o ix iy; lia) b0 y S.2 z).2)]
          exact hg y' y0 (by clear hn ih sb n7 fs hg hu hE hm an o ix iy; lia)
      · unfold TLB
        rw [vup_s, if_neg (fun z => by
          have := (ar_sj s0 sn.2.1 s0 sn.2.1 (by clear hn ih sb n7 fs hg hu hE hm an o ix iy z; lia) y1 b0 y S.2 z).2
          clear hn ih sb n7 fs hg hu hE hm an o ix iy z; lia)]
        exact hu y' (by clear hn ih sb n7 fs hg hu hE hm an o ix iy; lia) y1
    · by_cases e : y' = x
      · subst e
        exact Best_s0 f0 f8 hux (Or.inl (an.2 d))
      · exact hg y' y0 (by clear hn ih sb n7 fs hg hu hE hm an; lia)
theorem n_lx_low {F : Unit × Mp → Option β} {st f : Int32} (h : CW B w0 T V R I O N w) (hP : PC B T K V R N e5 e6 e7 cnt) (hX : RX A I e5 e6 cnt (V (B + 3) 1) cnt) (s0 : 0 ≤ st) (s1 : st < cnt) (f0 : 0 ≤ f) (f1 : f < V (B + 3) 1) (hb : ∀ y, 0 ≤ y → y < V (B + 3) 8 → le (256 * (st + 1) + (V (B + 3) 8 - 1 - y)) ≤ 1000000) (hE : TLE I e7 (V (B + 3) 8) cnt le (st + 1)) (hg : ∀ y, 0 ≤ y → y < V (B + 3) 8 → TLB A le I e7 (V (B + 3) 8) cnt st f y) (hp : ∀ w' I', CW B w0 T V R I' O N w' → (∀ a, a ≠ e7 → I' a = I a) → TLE I' e7 (V (B + 3) 8) cnt le (st + 1) → (∀ y, 0 ≤ y → y < V (B + 3) 8 → TLB A le I' e7 (V (B + 3) 8) cnt st (f + 1) y) → OK (F ((), w')) P) : OK ((f_Plan_lowerByFace w (B + 3) st f).bind F) P := by
  obtain ⟨t3, -, -, -, ⟨r5, u5, n5, q5⟩, ⟨r6, u6, n6, q6⟩, ⟨r7, u7, n7, q7⟩, wb, sb, cb⟩ := id hP
  have f8 : f < 8 := by clear hX hp sb hb hE hg; lia
  have sp := ar_sp s0 s1 cb.2 f0 f8
  have S := hP.sets
  obtain ⟨m, hm, hv, ho⟩ := hX st f s0 s1 f0 f1
  have s32 : st ≤ 32 := by clear hX hp sb hb hE hg hm; lia
  have S9 : V (B + 3) 8 < 1000 ∧ 0 ≤ V (B + 3) 8 := by clear hX hp sb hb hE hg hm; constructor <;> lia
  unfold f_Plan_lowerByFace
  refine OK.bind (c_gRs h t3 r5 (by decide) (c_aI h u5 sp.1 (by clear hX hp sb hb hE hg hm; lia) (c_gRs h t3 r6 (by decide) (c_aI h u6 sp.1 (by clear hX hp sb hb hE hg hm; lia) ?_))))
  rw [hv]
  by_cases mz : m = 0
  · rw [if_pos mz]
    refine OK.ifP rfl (OK.ret (hp w I h (fun _ _ => rfl) hE (fun y y0 y1 => Best_s0 f0 f8 (hg y y0 y1) (Or.inr ⟨⟨m, ?_, ?_⟩, hb y y0 y1⟩))))
    · rw [mm_congr (A' := upL A le) (A := A) rfl rfl rfl]
      exact hm
    · unfold lwv
      rw [if_pos mz]
  · rw [if_neg mz, ho mz]
    have ne : st + m ≠ 0 := by
      rcases id hm with ⟨a1, a2, a3, -⟩ | ⟨a1, -⟩
      · have z := ar_m s0 s32 a1 a3 a2 cb.2
        have z1 := z.1
        clear hX hp sb hb hE hg hm a2 z hv ho; lia
      · exact absurd a1 mz
    refine OK.ifN ne ?_
    exact OK.call (n_lx_low_L (I := I) (A := A) (le := le) hP s0 s1 f0 f1 hm mz rfl 100000 0 I w h (by decide) S9.2 (fu_any S9.1 S9.2) (fun _ _ => rfl) hE (fun y y0 y1 => absurd y1 (by clear hX hp sb hb hE hg hm; lia)) hg) (fun q ⟨I', h1, h2, h3, h4⟩ => OK.ret (hp _ I' h1 h2 h3 h4))
theorem RX_7 {I' : Nat → Int32 → Int32} (hP : PC B T K V R N e5 e6 e7 cnt) (hr : RX A I e5 e6 cnt (V (B + 3) 1) cnt) (hi : ∀ a, a ≠ e7 → I' a = I a) : RX A I' e5 e6 cnt (V (B + 3) 1) cnt := by
  have q5 := hP.2.2.2.2.1.2.2.2
  have q6 := hP.2.2.2.2.2.1.2.2.2
  have q7 := hP.2.2.2.2.2.2.1.2.2.2
  have ne : e5 ≠ e7 := fun e => by rw [e, q7] at q5; omega
  have ne6 : e6 ≠ e7 := fun e => by rw [e, q7] at q6; omega
  intro s f z0 z1 f0 f1
  exact RC_z (hr s f z0 z1 f0 f1) (by rw [hi e5 ne]) (by rw [hi e6 ne6])
theorem n_lx_L99 {st : Int32} (hP : PC B T K V R N e5 e6 e7 cnt) (hX : RX A I e5 e6 cnt (V (B + 3) 1) cnt) (s0 : 0 ≤ st) (s1 : st < cnt) (hb : ∀ y, 0 ≤ y → y < V (B + 3) 8 → le (256 * (st + 1) + (V (B + 3) 8 - 1 - y)) ≤ 1000000) : ∀ (n : Nat) (f : Int32) (I' : Nat → Int32 → Int32) (w : Mp), CW B w0 T V R I' O N w → 0 ≤ f → f ≤ V (B + 3) 1 → (V (B + 3) 1 - f).toInt < n → (∀ a, a ≠ e7 → I' a = I a) → TLE I' e7 (V (B + 3) 8) cnt le (st + 1) → (∀ y, 0 ≤ y → y < V (B + 3) 8 → TLB A le I' e7 (V (B + 3) 8) cnt st f y) → OK (f_Plan_findLeastLoss_L99 (B + 3) st n f w) (fun q => ∃ I', CW B w0 T V R I' O N q.2.2 ∧ (∀ a, a ≠ e7 → I' a = I a) ∧ TLE I' e7 (V (B + 3) 8) cnt le (st + 1) ∧ ∀ y, 0 ≤ y → y < V (B + 3) 8 → TLB A le I' e7 (V (B + 3) 8) cnt st (V (B + 3) 1) y) := by
  obtain ⟨t3, -, -, -, -, -, ⟨r7, u7, n7, q7⟩, wb, sb, cb⟩ := id hP
  intro n
  induction n with
  | zero => intro x I' w _ b0 b1 hn; exact (fu_zero b0 b1 hn).elim
  | succ n ih =>
    intro f I' w h b0 b1 hn hi hE hg
    rw [f_Plan_findLeastLoss_L99]
    refine c_gI h t3 (by decide) (OK.ite (fun c => OK.ret ⟨I', h, hi, hE, ?_⟩) (fun c => ?_))
    · rw [show f = V (B + 3) 1 by clear hn ih sb n7 hX hb hE hg; lia] at hg
      exact hg
    have y : f < V (B + 3) 1 := by clear hn ih sb n7 hX hb hE hg; lia
    have fs := fu_step b0 y hn
    refine c_xo h t3 (by decide) (n_lx_low h hP (RX_7 hP hX hi) s0 s1 b0 y hb hE hg (fun w1 I1 h1 i1 i2 i3 => ?_))
    exact ih _ I1 w1 h1 (by clear hn ih sb n7 fs hX hb hE hg i2 i3; lia) (by clear hn ih sb n7 fs hX hb hE hg i2 i3; lia) fs (fun a ha => by rw [i1 a ha]; exact hi a ha) i2 i3
theorem n_lx_L49 (hP : PC B T K V R N e5 e6 e7 cnt) (hX : RX A I e5 e6 cnt (V (B + 3) 1) cnt) (hT : TB s A le (V (B + 3) 8) 0) (e18 : s 18 = cnt) (e13 : s 13 = V (B + 3) 1) : ∀ (n : Nat) (st : Int32) (I' : Nat → Int32 → Int32) (w : Mp), CW B w0 T V R I' O N w → -1 ≤ st → st < cnt → st.toInt + 1 < n → (∀ a, a ≠ e7 → I' a = I a) → TLE I' e7 (V (B + 3) 8) cnt le (st + 1) → OK (f_Plan_findLeastLoss_L49 (B + 3) n st w) (fun q => ∃ I', CW B w0 T V R I' O N q.2.2 ∧ (∀ a, a ≠ e7 → I' a = I a) ∧ TLE I' e7 (V (B + 3) 8) cnt le 0) := by
  obtain ⟨t3, -, -, -, -, -, ⟨r7, u7, n7, q7⟩, wb, sb, cb⟩ := id hP
  have S := hP.sets
  have S9 : V (B + 3) 8 < 1000 ∧ 0 ≤ V (B + 3) 8 := by clear hX hT sb; constructor <;> lia
  have W9 : V (B + 3) 1 < 1000 := by clear hX hT sb n7; lia
  intro n
  induction n with
  | zero => intro st I' w _ b0 b1 hn; exact (fd_zero b0 hn).elim
  | succ n ih =>
    intro st I' w h b0 b1 hn hi hE
    rw [f_Plan_findLeastLoss_L49]
    refine OK.ite (fun c => OK.ret ⟨I', h, hi, ?_⟩) (fun c => ?_)
    · rw [show st + 1 = 0 by clear hn ih sb n7 hX hT hE; lia] at hE
      exact hE
    have s0 : 0 ≤ st := by clear hn ih sb n7 hX hT hE; lia
    have sn : 0 ≤ st + 1 ∧ st + 1 ≤ cnt ∧ st ≤ cnt := by clear hn ih sb n7 hX hT hE; refine ⟨by lia, by lia, by lia⟩
    have fs := fd_step s0 hn
    have hb : ∀ y, 0 ≤ y → y < V (B + 3) 8 → le (256 * (st + 1) + (V (B + 3) 8 - 1 - y)) ≤ 1000000 := fun y y0 y1 => (TB_b hT sn.1 (by rw [e18]; exact sn.2.1) (by clear hn ih sb n7 hX hT hE fs; lia) (by clear hn ih sb n7 hX hT hE fs; lia)).2
    refine OK.call (n_lx_L55 (I := I) (A := A) (le := le) hP s0 b1 100000 0 I' w h (by decide) S9.2 (fu_any S9.1 S9.2) hi hE (fun y y0 y1 => absurd y1 (by clear hn ih sb n7 hX hT hE fs hb; lia))) (fun q ⟨I1, h1, i1, i2, i3⟩ => ?_)
    refine OK.call (n_lx_L99 (I := I) (A := A) (le := le) hP hX s0 b1 hb 100000 0 I1 _ h1 (by decide) wb.1 (fu_any W9 wb.1) i1 i2 i3) (fun q ⟨I2, h2, j1, j2, j3⟩ => ?_)
    refine ih _ I2 _ h2 (by clear hn ih sb n7 hX hT hE fs hb i2 i3 j2 j3; lia) (by clear hn ih sb n7 hX hT hE fs hb i2 i3 j2 j3; lia) fs j1 (fun a y a0 a1 y0 y1 => ?_)
    rw [show st + -1 + 1 = st by grind] at a0
    by_cases e : a = st
    · rw [e]
      have en := (hT.2 st (V (B + 3) 8 - 1 - y) s0 (by rw [e18]; exact b1) (by clear hn ih sb n7 hX hT hE fs hb i2 i3 j2 j3; lia) (by clear hn ih sb n7 hX hT hE fs hb i2 i3 j2 j3; lia)).1
      rw [e18, e13] at en
      exact Best_u (j3 y y0 y1) en
    · exact j2 a y (by clear hn ih sb n7 hX hT hE fs hb i2 i3 j2 j3; lia) a1 y0 y1
theorem n_lx {F : Unit × Mp → Option β} (h : CW B w0 T V R I O N w) (hP : PC B T K V R N e5 e6 e7 cnt) (hX : RX A I e5 e6 cnt (V (B + 3) 1) cnt) (hT : TB s A le (V (B + 3) 8) 0) (e18 : s 18 = cnt) (e13 : s 13 = V (B + 3) 1) (hp : ∀ w' I', CW B w0 T V R I' O N w' → (∀ a, a ≠ e7 → I' a = I a) → TLE I' e7 (V (B + 3) 8) cnt le 0 → OK (F ((), w')) P) : OK ((f_Plan_findLeastLoss w (B + 3) cnt).bind F) P := by
  have S := hP.sets
  have cb := hP.2.2.2.2.2.2.2.2.2
  have S9 : V (B + 3) 8 < 1000 ∧ 0 ≤ V (B + 3) 8 := by clear hX hT hp; constructor <;> lia
  unfold f_Plan_findLeastLoss
  refine OK.bind (OK.call (n_lx_L2 (I := I) (le := le) (s := s) hP hT.1 e18 100000 0 I w h (by decide) S9.2 (fu_any S9.1 S9.2) (fun _ _ => rfl) (fun y y0 y1 => absurd y1 (by clear hX hT hp; lia))) (fun q ⟨I1, h1, i1, i2⟩ => ?_))
  exact OK.call (n_lx_L49 (I := I) (A := A) (le := le) (s := s) hP hX hT e18 e13 100000 (cnt - 1) I1 _ h1 (by clear hX hT hp i2; lia) (by clear hX hT hp i2; lia) (fd_any (by clear hX hT hp i2; lia)) i1 (by rw [show cnt - 1 + 1 = cnt by grind]; exact i2)) (fun q ⟨I2, h2, j1, j2⟩ => OK.ret (hp _ I2 h2 j1 j2))
end CPy
