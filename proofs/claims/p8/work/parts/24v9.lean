/-! at: the same answers -/
def inZ (A : Nat → Int32 → Int32) (f x y k : Int32) : Prop := (0 ≤ x.toInt - (acA A f k).toInt ∧ x.toInt - (acA A f k).toInt < (A 4 (pcs A f k)).toInt) ∧ 0 ≤ y.toInt + (lsA A f).toInt - (toA A f k).toInt ∧ y.toInt + (lsA A f).toInt - (toA A f k).toInt < (A 5 (pcs A f k)).toInt
def AV (A : Nat → Int32 → Int32) (f x y v : Int32) : Prop := (∃ k, 0 ≤ k ∧ k < A 11 f ∧ inZ A f x y k ∧ (∀ j, 0 ≤ j → j < k → ¬ inZ A f x y j) ∧ v = gyA A f k (x - acA A f k) (y + lsA A f - toA A f k)) ∨ ((∀ k, 0 ≤ k → k < A 11 f → ¬ inZ A f x y k) ∧ v = -1)
section VL9
variable {B : Nat} {w0 w : Mp} {s : Nat → Int32} {A : Nat → Int32 → Int32} {T K : Nat → Nat} {V V' : Nat → Nat → Int32} {R : Nat → Nat → Option Nat} {I : Nat → Int32 → Int32} {O : Nat → Int32 → Option Nat} {N : Nat → Int32} {sz g : Nat} {β : Type} {P : β → Prop}
theorem AV_fun {f x y v v' : Int32} (h : AV A f x y v) (h' : AV A f x y v') : v = v' := by
  rcases h with ⟨k, k0, k1, k2, k3, k4⟩ | ⟨k3, k4⟩
  · rcases h' with ⟨j, j0, j1, j2, j3, j4⟩ | ⟨j3, j4⟩
    · have e : k = j := by
        by_cases c : k < j
        · exact absurd k2 (j3 k k0 c)
        · by_cases d : j < k
          · exact absurd j2 (k3 j j0 d)
          · clear k3 j3; lia
      rw [k4, j4, e]
    · exact absurd k2 (j3 k k0 k1)
  · rcases h' with ⟨j, j0, j1, j2, j3, j4⟩ | ⟨j3, j4⟩
    · exact absurd j2 (k3 j j0 j1)
    · rw [k4, j4]
theorem sm_int {t : Int32 → Int32} {lo hi : Int} (l0 : -100 ≤ lo) (h0 : hi ≤ 100) (l1 : lo ≤ 0) (h1 : 0 ≤ hi) : ∀ n : Nat, n ≤ 8 → (∀ i, i < n → lo ≤ (t (Int32.ofNat i)).toInt ∧ (t (Int32.ofNat i)).toInt ≤ hi) → 8 * lo ≤ (sm t n).toInt ∧ (sm t n).toInt ≤ 8 * hi ∧ n * lo ≤ (sm t n).toInt ∧ (sm t n).toInt ≤ n * hi := by
  intro n
  induction n with
  | zero =>
    intro _ _
    show 8 * lo ≤ (0 : Int32).toInt ∧ (0 : Int32).toInt ≤ 8 * hi ∧ ((0 : Nat) : Int) * lo ≤ (0 : Int32).toInt ∧ (0 : Int32).toInt ≤ ((0 : Nat) : Int) * hi
    rw [show (0 : Int32).toInt = 0 by decide]
    refine ⟨by omega, by omega, by simp, by simp⟩
  | succ n ih =>
    intro hn ht
    obtain ⟨a1, a2, a3, a4⟩ := ih (by omega) (fun i hi => ht i (by omega))
    obtain ⟨b1, b2⟩ := ht n (by omega)
    have e : (sm t (n + 1)).toInt = (sm t n).toInt + (t (Int32.ofNat n)).toInt := by
      show (sm t n + t (Int32.ofNat n)).toInt = _
      rw [Int32.toInt_add, Int.bmod_eq_of_le (by omega) (by omega)]
    have m1 : ((n + 1 : Nat) : Int) * lo = n * lo + lo := by rw [Int.natCast_add, Int.add_mul]; omega
    have m2 : ((n + 1 : Nat) : Int) * hi = n * hi + hi := by rw [Int.natCast_add, Int.add_mul]; omega
    have m3 : 8 * lo ≤ ((n + 1 : Nat) : Int) * lo := by
      have := Int.mul_le_mul_of_nonpos_right (c := lo) (show ((n + 1 : Nat) : Int) ≤ 8 by omega) l1
      omega
    have m4 : ((n + 1 : Nat) : Int) * hi ≤ 8 * hi := Int.mul_le_mul_of_nonneg_right (by omega) h1
    rw [e, m1, m2]
    rw [m1] at m3
    rw [m2] at m4
    refine ⟨by omega, by omega, by omega, by omega⟩
theorem stp_1 {S : Int32 → Int32} {d : Int32} {p : Int32 × Int32} (h : -3 ≤ p.1 ∧ p.1 ≤ 3) (d0 : -3 ≤ d) (d1 : d ≤ 3) : -3 ≤ (stp S d p).1 ∧ (stp S d p).1 ≤ 3 := by
  unfold stp
  by_cases c : p.2 ≤ S d
  · rw [if_pos c]; exact h
  · rw [if_neg c]; exact ⟨d0, d1⟩
theorem sh_b (A : Nat → Int32 → Int32) (f k : Int32) : -3 ≤ shA A f k ∧ shA A f k ≤ 3 := by
  unfold shA
  exact stp_1 (stp_1 (stp_1 (stp_1 (stp_1 (stp_1 (show (-3 : Int32) ≤ 0 ∧ (0 : Int32) ≤ 3 from by decide) (by decide) (by decide)) (by decide) (by decide)) (by decide) (by decide)) (by decide) (by decide)) (by decide) (by decide)) (by decide) (by decide)
theorem pl_b (hI : MI s A) {f k : Int32} (h0 : 0 ≤ f) (h1 : f < s 9) (k0 : 0 ≤ k) (k1 : k < A 11 f) : (0 ≤ (acA A f k).toInt ∧ (acA A f k).toInt ≤ 96) ∧ -24 ≤ (toA A f k).toInt ∧ (toA A f k).toInt ≤ 24 := by
  have a5 := hI.2.2.2.2.1 f h0 h1
  have n8 := a5.2.2.2.1
  have kz := cl_int k0
  have k8 : k.toNatClampNeg ≤ 8 := by
    have : k < 8 := by clear a5 kz; lia
    rw [Int32.lt_iff_toInt_lt, show (8 : Int32).toInt = 8 by decide] at this
    omega
  have p0 := m_pc hI h0 h1 (k := 0) (by decide) (by clear kz k8; lia)
  have conv : ∀ v : Int32, 1 ≤ v → v ≤ 12 → 1 ≤ v.toInt ∧ v.toInt ≤ 12 := fun v a b => by
    rw [Int32.le_iff_toInt_le, show (1 : Int32).toInt = 1 by decide] at a
    rw [Int32.le_iff_toInt_le, show (12 : Int32).toInt = 12 by decide] at b
    exact ⟨a, b⟩
  have lt : ∀ i : Nat, i < k.toNatClampNeg → 0 ≤ Int32.ofNat i ∧ Int32.ofNat i < A 11 f := fun i hi => by
    have z := ofn_in hi
    exact ⟨z.1, by have := z.2; clear a5 p0 kz k8 hi; lia⟩
  unfold acA toA
  by_cases c : A 10 f = 3
  · rw [if_pos c, if_pos c]
    have q1 := conv _ p0.2.2.2.1.1 p0.2.2.2.1.2
    have q2 := conv _ p0.2.2.2.2.1.1 p0.2.2.2.2.1.2
    refine ⟨?_, ?_⟩
    · by_cases d : k - k / 2 * 2 = 1
      · rw [if_pos d]; omega
      · rw [if_neg d, show (0 : Int32).toInt = 0 by decide]; omega
    · by_cases d : k ≤ 1
      · rw [if_pos d, show (0 : Int32).toInt = 0 by decide]; omega
      · rw [if_neg d]; omega
  · rw [if_neg c, if_neg c]
    refine ⟨?_, ?_⟩
    · have z := sm_int (t := fun i => A 4 (pcs A f i)) (lo := 0) (hi := 12) (by decide) (by decide) (by decide) (by decide) k.toNatClampNeg k8 (fun i hi => by
        obtain ⟨i0, i1⟩ := lt i hi
        have := m_pc hI h0 h1 i0 i1
        have q := conv _ this.2.2.2.1.1 this.2.2.2.1.2
        exact ⟨by omega, by omega⟩)
      omega
    · have z := sm_int (t := fun i => shA A f i) (lo := -3) (hi := 3) (by decide) (by decide) (by decide) (by decide) k.toNatClampNeg k8 (fun i hi => by
        have b := sh_b A f (Int32.ofNat i)
        rw [Int32.le_iff_toInt_le, Int32.le_iff_toInt_le, show (-3 : Int32).toInt = -3 by decide, show (3 : Int32).toInt = 3 by decide] at b
        exact b)
      omega
theorem mn_b {b : Int32 → Int32} {m : Int32} : ∀ n : Nat, (mnF b m n).toInt ≤ m.toInt ∧ (∀ i, i < n → (mnF b m n).toInt ≤ (b (Int32.ofNat i)).toInt) ∧ ∀ lo : Int, lo ≤ m.toInt → (∀ i, i < n → lo ≤ (b (Int32.ofNat i)).toInt) → lo ≤ (mnF b m n).toInt := by
  intro n
  induction n with
  | zero => exact ⟨Int.le_refl _, fun i hi => absurd hi (Nat.not_lt_zero _), fun lo h _ => h⟩
  | succ n ih =>
    obtain ⟨a1, a2, a3⟩ := ih
    have e : mnF b m (n + 1) = if b (Int32.ofNat n) < mnF b m n then b (Int32.ofNat n) else mnF b m n := rfl
    by_cases c : b (Int32.ofNat n) < mnF b m n
    · rw [if_pos c] at e
      rw [e]
      rw [Int32.lt_iff_toInt_lt] at c
      refine ⟨by omega, fun i hi => ?_, fun lo h hb => hb n (by omega)⟩
      by_cases ei : i = n
      · rw [ei]; exact Int.le_refl _
      · have := a2 i (by omega); omega
    · rw [if_neg c] at e
      rw [e]
      rw [Int32.lt_iff_toInt_lt] at c
      refine ⟨a1, fun i hi => ?_, fun lo h hb => a3 lo h (fun i hi => hb i (by omega))⟩
      by_cases ei : i = n
      · rw [ei]; omega
      · exact a2 i (by omega)
theorem ls_b (hI : MI s A) {f : Int32} (h0 : 0 ≤ f) (h1 : f < s 9) : (-24 ≤ (lsA A f).toInt ∧ (lsA A f).toInt ≤ 0) ∧ ∀ k, 0 ≤ k → k < A 11 f → (lsA A f).toInt ≤ (toA A f k).toInt := by
  obtain ⟨b1, b2, b3⟩ := mn_b (b := toA A f) (m := 0) (A 11 f).toNatClampNeg
  refine ⟨⟨b3 (-24) (by decide) (fun i hi => (pl_b hI h0 h1 (ofn_in hi).1 (ofn_in hi).2).2.1), b1⟩, fun k k0 k1 => ?_⟩
  have z := b2 k.toNatClampNeg (by
    have a := cl_int k0
    have a2 := cl_int (show 0 ≤ A 11 f by clear b2 b3; lia)
    rw [Int32.lt_iff_toInt_lt] at k1
    omega)
  rwa [ofn_cl k0] at z
theorem at_val {f x y k : Int32} (hI : MI s A) (h0 : 0 ≤ f) (h1 : f < s 9) (k0 : 0 ≤ k) (k1 : k < A 11 f) (x0 : 0 ≤ x) (y0 : 0 ≤ y) : (x - acA A f k).toInt = x.toInt - (acA A f k).toInt ∧ (y + lsA A f - toA A f k).toInt = y.toInt + (lsA A f).toInt - (toA A f k).toInt := by
  obtain ⟨⟨p1, p2⟩, p3, p4⟩ := pl_b hI h0 h1 k0 k1
  obtain ⟨⟨l1, l2⟩, l3⟩ := ls_b hI h0 h1
  have l4 := l3 k k0 k1
  have bx := Int32.toInt_lt x
  have by_ := Int32.toInt_lt y
  rw [Int32.le_iff_toInt_le, show (0 : Int32).toInt = 0 by decide] at x0 y0
  refine ⟨?_, ?_⟩
  · rw [Int32.toInt_sub, Int.bmod_eq_of_le (by omega) (by omega)]
  · rw [Int32.toInt_sub, Int32.toInt_add, Int.bmod_eq_of_le (n := y.toInt + (lsA A f).toInt) (by omega) (by omega), Int.bmod_eq_of_le (by omega) (by omega)]
theorem x_seen_L (h : CW B w0 T V' R I O N w) (hC : CI B T K V R O N) (hI : MI s A) (hS : SIM B V R I O N s A) {f x y : Int32} (h0 : 0 ≤ f) (h1 : f < s 9) (hl : LI B T V V' R O A f (A 11 f)) (x0 : 0 ≤ x) (y0 : 0 ≤ y) : ∀ (n : Nat) (x6 : Int32), 0 ≤ x6 → x6 ≤ A 11 f → (A 11 f - x6).toInt < n → (∀ k, 0 ≤ k → k < x6 → ¬ inZ A f x y k) → OK (f_Face_greySeen_L31 w x (y + lsA A f) (some (fpc B R O f)) (A 11 f) n x6) (fun q => (q.1 = 0 ∧ AV A f x y (-1)) ∨ (q.1 = 1 ∧ AV A f x y q.2.2)) := by
  have a8 := (hI.2.2.2.2.1 f h0 h1).2.2.2.1
  obtain ⟨-, -, -, tp, -, -⟩ := hC.fc h0 (by rw [hS.2.1.1]; exact h1)
  have e2 := (hS.2.1.2 f h0 h1).2.1
  have hC' : CI B T K V' R O N := CI_PL hC hl.pl
  have hS' := hS.keep hC (hl.keep (I := I) hC)
  intro n
  induction n with
  | zero => intro x6 b0 b1 hn; exact (fu_zero b0 b1 hn).elim
  | succ n ih =>
    intro x6 b0 b1 hn e
    rw [f_Face_greySeen_L31]
    refine OK.ite (fun c => OK.ret (Or.inl ⟨rfl, Or.inr ⟨fun k k0 k1 => e k k0 (by clear ih hn e; lia), rfl⟩⟩)) (fun c => ?_)
    have yy : x6 < A 11 f := by clear ih hn e; lia
    have fs := fu_step b0 yy hn
    have nx : 0 ≤ x6 + 1 ∧ x6 + 1 ≤ A 11 f := by clear ih hn e fs; constructor <;> lia
    obtain ⟨⟨q1, q2, q3, q4⟩, v3, v4, -, -⟩ := lay_at hC hI hS h0 h1 b0 yy hl
    refine c_aRs h tp (by decide) b0 (by rw [e2]; exact yy) q1 (c_gI h q2 (by decide) (c_gI h q2 (by decide) ?_))
    rw [v3, v4]
    refine c_xo h q2 (by decide) (n_greyShown h q2 q3 q4 (hC'.2.1 _ q4) (fun v hv => ?_))
    obtain ⟨t1, t2⟩ := at_val hI h0 h1 b0 yy x0 y0
    obtain ⟨⟨p1, p2⟩, p3, p4⟩ := pl_b hI h0 h1 b0 yy
    obtain ⟨⟨l1, l2⟩, -⟩ := ls_b hI h0 h1
    have xi := x0
    have yi := y0
    rw [Int32.le_iff_toInt_le, show (0 : Int32).toInt = 0 by decide] at xi yi
    have ev := c_grey hC' hI hS' h0 h1 b0 yy (by rw [Int32.le_iff_toInt_le, t1, show (-1000 : Int32).toInt = -1000 by decide]; omega) (by rw [Int32.le_iff_toInt_le, t2, show (-1000 : Int32).toInt = -1000 by decide]; omega) hv
    have iz : (0 ≤ x - acA A f x6 ∧ x - acA A f x6 < A 4 (pcs A f x6) ∧ 0 ≤ y + lsA A f - toA A f x6 ∧ y + lsA A f - toA A f x6 < A 5 (pcs A f x6)) ↔ inZ A f x y x6 := by
      unfold inZ
      rw [Int32.le_iff_toInt_le, Int32.lt_iff_toInt_lt, Int32.le_iff_toInt_le, Int32.lt_iff_toInt_lt, t1, t2, show (0 : Int32).toInt = 0 by decide]
      exact ⟨fun z => ⟨⟨z.1, z.2.1⟩, z.2.2.1, z.2.2.2⟩, fun z => ⟨z.1.1, z.1.2, z.2.1, z.2.2⟩⟩
    by_cases d : inZ A f x y x6
    · rw [if_pos (iz.mpr d)] at ev
      have gb := gy_b hS f x6 (x - acA A f x6) (y + lsA A f - toA A f x6)
      refine OK.ifN (by rw [ev]; intro z; rw [z] at gb; exact absurd gb.1 (by decide)) (OK.ret (Or.inr ⟨rfl, Or.inl ⟨x6, b0, yy, d, e, ev⟩⟩))
    · rw [if_neg (fun z => d (iz.mp z))] at ev
      refine OK.ifP ev (ih _ nx.1 nx.2 fs (fun k k0 k1 => ?_))
      by_cases ek : k = x6
      · rw [ek]; exact d
      · exact e k k0 (by clear ih hn e fs; lia)
theorem neg_no {f x y : Int32} (hI : MI s A) (h0 : 0 ≤ f) (h1 : f < s 9) (hn : x < 0 ∨ y < 0) : AV A f x y (-1) := by
  refine Or.inr ⟨fun k k0 k1 z => ?_, rfl⟩
  obtain ⟨⟨p1, p2⟩, p3, p4⟩ := pl_b hI h0 h1 k0 k1
  obtain ⟨-, l3⟩ := ls_b hI h0 h1
  have l4 := l3 k k0 k1
  obtain ⟨⟨z1, z2⟩, z3, z4⟩ := z
  rw [Int32.lt_iff_toInt_lt, Int32.lt_iff_toInt_lt, show (0 : Int32).toInt = 0 by decide] at hn
  omega
theorem u_at {f x y : Int32} (h : CW B w0 T V R I O N w) (hC : CI B T K V R O N) (hI : MI s A) (hS : SIM B V R I O N s A) (hQ : SX B V R O s A) : OK (f_LM_at w sz B f x y) (fun q => (¬ (0 ≤ f ∧ f < s 9) ∧ q = (.inr 2, w, sz + 1)) ∨ (0 ≤ f ∧ f < s 9 ∧ ∃ v, AV A f x y v ∧ LQ B w0 T V R I O N A f sz (.inl v) q)) := by
  unfold f_LM_at
  refine c_face h hC hS (fun c => OK.ret (Or.inl ⟨c, rfl⟩)) (fun f0 f1 ta => ?_)
  obtain ⟨-, -, ra, tp, hn, -⟩ := hC.fc f0 (by rw [hS.2.1.1]; exact f1)
  have e2 := (hS.2.1.2 f f0 f1).2.1
  have a5 := hI.2.2.2.2.1 f f0 f1
  refine c_xo h ta (by decide) (v_lay h hC hI hS hQ f0 f1 (fun w' V' h' hl => c_xo h' ta (by decide) ?_))
  refine OK.call (P := fun v => AV A f x y v) ?_ (fun v hv => OK.ret (Or.inr ⟨f0, f1, v, hv, V', h', hl, rfl, Nat.le_refl _⟩))
  unfold f_Face_greySeen
  refine OK.ite (fun c => OK.ret (neg_no hI f0 f1 (Or.inl c))) (fun c => OK.ite (fun d => ?_) (fun d => OK.ret (neg_no hI f0 f1 (Or.inr (by lia)))))
  refine c_xo h' ta (by decide) (x_top h' hC hI hS f0 f1 hl (c_gRs h' ta ra (by decide) (c_aL h' tp (by decide) (by clear hl; lia) ?_)))
  rw [e2]
  refine OK.call (x_seen_L h' hC hI hS f0 f1 hl (by lia) d _ _ (by decide) (by clear hl; lia) (fu_any (by clear hl; lia) (by clear hl; lia)) (fun k k0 k1 => absurd k1 (by clear hl; lia))) (fun q hq => ?_)
  rcases hq with ⟨e, z⟩ | ⟨e, z⟩
  · exact OK.ifP e (OK.ret z)
  · exact OK.ifN (by rw [e]; decide) (OK.ifP e (OK.ret z))
theorem v_at_L {f x y : Int32} {y4 : Int64} (h : MW B w0 s A w) (hI : MI s A) (h0 : 0 ≤ f) (h1 : f < s 9) (hy : y4.toInt = y.toInt + (lsA A f).toInt) : ∀ (n : Nat) (x6 : Int32), 0 ≤ x6 → x6 ≤ A 11 f → (A 11 f - x6).toInt < n → (∀ k, 0 ≤ k → k < x6 → ¬ inZ A f x y k) → OK (f_Mod_at_L24 w (B + 11) f x y4 n x6) (fun q => (q.1 = 0 ∧ AV A f x y (-1)) ∨ (q.1 = 1 ∧ 0 ≤ q.2.1 ∧ q.2.1 < A 11 f ∧ inZ A f x y q.2.1 ∧ (∀ j, 0 ≤ j → j < q.2.1 → ¬ inZ A f x y j) ∧ q.2.2.1.toInt = x.toInt - (acA A f q.2.1).toInt ∧ q.2.2.2.toInt = y.toInt + (lsA A f).toInt - (toA A f q.2.1).toInt)) := by
  have a8 := (hI.2.2.2.2.1 f h0 h1).2.2.2.1
  have f8 : f < 8 := by have := hI.2.1; clear a8; lia
  have bx1 := Int32.toInt_lt x
  have bx2 := Int32.le_toInt x
  have by1 := Int32.toInt_lt y
  have by2 := Int32.le_toInt y
  obtain ⟨⟨l1, l2⟩, -⟩ := ls_b hI h0 h1
  intro n
  induction n with
  | zero => intro x6 b0 b1 hn; exact (fu_zero b0 b1 hn).elim
  | succ n ih =>
    intro x6 b0 b1 hn e
    rw [f_Mod_at_L24]
    refine k_gR h (by decide) (k_aI h (by decide) (by decide) h0 (show f < mln 11 from f8) (OK.ite (fun c => OK.ret (Or.inl ⟨rfl, Or.inr ⟨fun k k0 k1 => e k k0 (by clear ih hn e; lia), rfl⟩⟩)) (fun c => ?_)))
    have yy : x6 < A 11 f := by clear ih hn e; lia
    have fs := fu_step b0 yy hn
    have nx : 0 ≤ x6 + 1 ∧ x6 + 1 ≤ A 11 f := by clear ih hn e fs; constructor <;> lia
    obtain ⟨⟨p1, p2⟩, p3, p4⟩ := pl_b hI h0 h1 b0 yy
    have ex : (x.toInt64 - (acA A f x6).toInt64).toInt = x.toInt - (acA A f x6).toInt := by
      rw [Int64.toInt_sub, Int32.toInt_toInt64, Int32.toInt_toInt64, Int.bmod_eq_of_le (by omega) (by omega)]
    have ey : (y4 - (toA A f x6).toInt64).toInt = y.toInt + (lsA A f).toInt - (toA A f x6).toInt := by
      rw [Int64.toInt_sub, Int32.toInt_toInt64, hy, Int.bmod_eq_of_le (by omega) (by omega)]
    have no : ¬ inZ A f x y x6 → ∀ k, 0 ≤ k → k < x6 + 1 → ¬ inZ A f x y k := fun d k k0 k1 => by
      by_cases ek : k = x6
      · rw [ek]; exact d
      · exact e k k0 (by clear ih hn e fs; lia)
    refine k_xo h (v_across h hI h0 h1 b0 yy (k_xo h (v_topOf h hI h0 h1 b0 yy (OK.ite (fun d => ih _ nx.1 nx.2 fs (no ?_)) (fun d => k_xo h (m_wide h hI h0 h1 b0 yy (fun v ev _ _ => OK.ite (fun d2 => ih _ nx.1 nx.2 fs (no ?_)) (fun d2 => OK.ite (fun d3 => ih _ nx.1 nx.2 fs (no ?_)) (fun d3 => k_xo h (m_high h hI h0 h1 b0 yy (fun u eu _ _ => OK.ite (fun d4 => ih _ nx.1 nx.2 fs (no ?_)) (fun d4 => OK.ret (Or.inr ⟨rfl, b0, yy, ?_, e, ex, ey⟩)))))))))))))
    · rw [lg_cmp_lt, Int64.lt_iff_toInt_lt, ex, show (0 : Int64).toInt = 0 by decide] at d
      intro z; have := z.1.1; omega
    · rw [lg_cmp_ge, Int64.le_iff_toInt_le, ex, Int32.toInt_toInt64, ev] at d2
      intro z; have := z.1.2; omega
    · rw [lg_cmp_lt, Int64.lt_iff_toInt_lt, ey, show (0 : Int64).toInt = 0 by decide] at d3
      intro z; have := z.2.1; omega
    · rw [lg_cmp_ge, Int64.le_iff_toInt_le, ey, Int32.toInt_toInt64, eu] at d4
      intro z; have := z.2.2; omega
    · rw [lg_cmp_lt, Int64.lt_iff_toInt_lt, ex, show (0 : Int64).toInt = 0 by decide] at d
      rw [lg_cmp_ge, Int64.le_iff_toInt_le, ex, Int32.toInt_toInt64, ev] at d2
      rw [lg_cmp_lt, Int64.lt_iff_toInt_lt, ey, show (0 : Int64).toInt = 0 by decide] at d3
      rw [lg_cmp_ge, Int64.le_iff_toInt_le, ey, Int32.toInt_toInt64, eu] at d4
      have r : inZ A f x y x6 := ⟨⟨by omega, by omega⟩, by omega, by omega⟩
      exact r
theorem u_mat {f x y : Int32} (h : MW B w0 s A w) (hI : MI s A) : OK (f_Mod_at w (B + 11) f x y) (fun q => (¬ (0 ≤ f ∧ f < s 9) ∧ MW B w0 (up s 0 1) A q.2) ∨ (0 ≤ f ∧ f < s 9 ∧ AV A f x y q.1 ∧ MW B w0 (up s 0 0) A q.2)) := by
  unfold f_Mod_at
  refine k_xo h (m_noFace h (fun w1 f0 f1 h1 => OK.ifP rfl ?_) (fun w1 c h1 => OK.ifN ne1 (OK.ret (Or.inl ⟨c, h1⟩))))
  have a5 := hI.2.2.2.2.1 f f0 f1
  obtain ⟨⟨l1, l2⟩, -⟩ := ls_b hI f0 f1
  have by1 := Int32.toInt_lt y
  have by2 := Int32.le_toInt y
  have hy : (y.toInt64 + (lsA A f).toInt64).toInt = y.toInt + (lsA A f).toInt := by
    rw [Int64.toInt_add, Int32.toInt_toInt64, Int32.toInt_toInt64, Int.bmod_eq_of_le (by omega) (by omega)]
  have hI' : MI (up s 0 0) A := MI.sc rfl hI
  refine k_xo h1 (v_leastTop h1 hI' f0 f1 (OK.call (v_at_L h1 hI' f0 f1 hy _ _ (by decide) (by clear h1; lia) (fu_any (by clear h1; lia) (by clear h1; lia)) (fun k k0 k1 => absurd k1 (by clear h1; lia))) (fun q hq => ?_)))
  rcases hq with ⟨e, z⟩ | ⟨e, k0, k1, z, z2, ex, ey⟩
  · exact OK.ifP e (OK.ret (Or.inr ⟨f0, f1, z, h1⟩))
  · refine OK.ifN (by rw [e]; decide) (OK.ifP e ?_)
    obtain ⟨⟨i1, i2⟩, i3, i4⟩ := id z
    have p := m_pc hI f0 f1 k0 k1
    have pw4 := p.2.2.2.1.2
    have pw5 := p.2.2.2.2.1.2
    rw [Int32.le_iff_toInt_le, show (12 : Int32).toInt = 12 by decide] at pw4 pw5
    have cx : q.2.2.1.toInt32 = x - acA A f q.2.1 := Int32.toInt_inj.mp (by
      rw [Int64.toInt_toInt32, ex, Int32.toInt_sub])
    have cy : q.2.2.2.toInt32 = y + lsA A f - toA A f q.2.1 := Int32.toInt_inj.mp (by
      rw [Int64.toInt_toInt32, ey, Int32.toInt_sub, Int32.toInt_add]
      obtain ⟨-, p3, p4⟩ := pl_b hI f0 f1 k0 k1
      rw [Int.bmod_eq_of_le (n := y.toInt + (lsA A f).toInt) (by omega) (by omega)])
    have tx : (x - acA A f q.2.1).toInt = x.toInt - (acA A f q.2.1).toInt := by
      rw [← cx, Int64.toInt_toInt32, ex, Int.bmod_eq_of_le (by omega) (by omega)]
    have ty : (y + lsA A f - toA A f q.2.1).toInt = y.toInt + (lsA A f).toInt - (toA A f q.2.1).toInt := by
      rw [← cy, Int64.toInt_toInt32, ey, Int.bmod_eq_of_le (by omega) (by omega)]
    rw [cx, cy]
    refine k_xo h1 (m_grey h1 hI' f0 f1 k0 k1 (by rw [Int32.le_iff_toInt_le, tx, show (0 : Int32).toInt = 0 by decide]; exact i1) (by rw [Int32.lt_iff_toInt_lt, tx]; exact i2) (by rw [Int32.le_iff_toInt_le, ty, show (0 : Int32).toInt = 0 by decide]; exact i3) (by rw [Int32.lt_iff_toInt_lt, ty]; exact i4) (OK.ret (Or.inr ⟨f0, f1, Or.inl ⟨q.2.1, k0, k1, z, z2, rfl⟩, h1⟩)))
theorem st_at {a b c : Int32} (h : LL B g w sz) : OK (f_Law_at w sz (some B) a b c (some (B + 28))) (fun q => OK ((xo q.2.1 (some (B + 11)) 5).bind fun b_9 => f_Mod_at q.2.1 b_9 a b c) (fun q2 => LL B g q2.2 q.2.2 ∧ CM B q.1 q2.2 q2.1.toInt64)) := by
  obtain ⟨T, K, V, R, I, O, N, a5, a6, a7, s, A, hX⟩ := h.get
  obtain ⟨h1, h2, h3, h4, h5, h6, hM, hI, hO, hS, hQ⟩ := id hX
  unfold f_Law_at
  refine c_xo h1 h2.1.1.1 (by decide) (OK.call (u_at h1 h2 hI hS hQ) (fun q hq => ?_))
  rcases hq with ⟨c1, rfl⟩ | ⟨c1, c2, v, z, V', v1, v2, e1, e2⟩
  · refine sw_r (OK.ifP rfl (OK.ret (k_xo hM <| (u_mat hM hI).mono (fun q2 hq2 => ?_))))
    rcases hq2 with ⟨d1, e⟩ | ⟨d1, d2, -⟩
    · exact hX.no e (by first | exact ne1 | exact ne2 | exact ne3)
    · exact absurd ⟨d1, d2⟩ c1
  · rw [e1]
    refine sw_l ((CX.of v1 hO).put (fun w2 hx hf => OK.ret (k_xo (hx.mod hM) <| (u_mat (hx.mod hM) hI).mono (fun q2 hq2 => ?_))))
    rcases hq2 with ⟨d1, e⟩ | ⟨-, -, z2, e⟩
    · exact absurd ⟨c1, c2⟩ d1
    · rw [AV_fun z z2] at hf
      exact ⟨hX.lq c1 c2 v2 hx e e2, CM.yes e rfl hf⟩
end VL9
