/-! the class: leaves found, counted, gathered -/
section CP4
variable {B : Nat} {w0 : Mp} {T K : Nat → Nat} {V : Nat → Nat → Int32} {R : Nat → Nat → Option Nat} {I : Nat → Int32 → Int32} {O : Nat → Int32 → Option Nat} {N : Nat → Int32} {w : Mp} {β : Type} {P : β → Prop}
theorem n_leafOrNull {F : Option Nat → Option β} {i : Int32} (h : CW B w0 T V R I O N w) (hC : CI B T K V R O N) (h1 : ∀ a, 0 ≤ i → i < V B 1 → O (B + 1) i = some a → T a = 1 → V a 0 = i → OK (F (some a)) P) (h2 : ¬ (0 ≤ i ∧ i < V B 1) → OK (F none) P) : OK ((f_LM_leafOrNull w B i).bind F) P := by
  obtain ⟨⟨⟨t0, t1, t2, t3, t4, t5, t6, t10⟩, ⟨m1, m2, m4, m5, m6, m10⟩, ⟨r0, r2, r4, r5, -, -, -⟩, -, -⟩, -, -, -, ⟨c1, c2⟩, -, -⟩ := hC
  unfold f_LM_leafOrNull
  refine OK.call (P := fun v => (0 ≤ i ∧ i < V B 1 ∧ v = O (B + 1) i) ∨ (¬ (0 ≤ i ∧ i < V B 1) ∧ v = none)) ?_ (fun v hv => ?_)
  · refine c_gI h t0 (by decide) (n_isWithin (fun a1 a2 => ?_) (fun a1 => ?_))
    · rw [if_neg (by decide)]
      have b1 : i < V B 1 := by clear c2; lia
      exact c_gRs h t0 r0 (by decide) (c_aR h t1 (by decide) a1 (by rw [m1]; clear c2; lia) (OK.ret (Or.inl ⟨a1, b1, rfl⟩)))
    · exact OK.ifP rfl (OK.ret (Or.inr ⟨fun z => a1 ⟨z.1, by clear c2; lia⟩, rfl⟩))
  · rcases hv with ⟨a1, a2, rfl⟩ | ⟨a1, rfl⟩
    · obtain ⟨a, e, ta, va⟩ := c2 i a1 a2
      rw [e]
      exact h1 a a1 a2 e ta va
    · exact h2 a1
theorem n_faceOrNull {F : Option Nat → Option β} {i : Int32} (h : CW B w0 T V R I O N w) (hC : CI B T K V R O N) (h1 : ∀ a, 0 ≤ i → i < V B 3 → O (B + 2) i = some a → T a = 3 → OK (F (some a)) P) (h2 : ¬ (0 ≤ i ∧ i < V B 3) → OK (F none) P) : OK ((f_LM_faceOrNull w B i).bind F) P := by
  obtain ⟨⟨⟨t0, t1, t2, t3, t4, t5, t6, t10⟩, ⟨m1, m2, m4, m5, m6, m10⟩, ⟨r0, r2, r4, r5, -, -, -⟩, -, -⟩, -, -, -, -, ⟨c1, c2⟩, -⟩ := hC
  unfold f_LM_faceOrNull
  refine OK.call (P := fun v => (0 ≤ i ∧ i < V B 3 ∧ v = O (B + 2) i) ∨ (¬ (0 ≤ i ∧ i < V B 3) ∧ v = none)) ?_ (fun v hv => ?_)
  · refine c_gI h t0 (by decide) (n_isWithin (fun a1 a2 => ?_) (fun a1 => ?_))
    · rw [if_neg (by decide)]
      have b1 : i < V B 3 := by clear c2; lia
      exact c_gRs h t0 r2 (by decide) (c_aR h t2 (by decide) a1 (by rw [m2]; clear c2; lia) (OK.ret (Or.inl ⟨a1, b1, rfl⟩)))
    · exact OK.ifP rfl (OK.ret (Or.inr ⟨fun z => a1 ⟨z.1, by clear c2; lia⟩, rfl⟩))
  · rcases hv with ⟨a1, a2, rfl⟩ | ⟨a1, rfl⟩
    · obtain ⟨a, e, ta⟩ := c2 i a1 a2
      rw [e]
      exact h1 a a1 a2 e ta
    · exact h2 a1
/-- the leaf that a place of an array names -/
def la (c : Int32 → Option Nat) (i : Int32) : Nat := (c i).getD 0
def csame (B : Nat) (V : Nat → Nat → Int32) (O : Nat → Int32 → Option Nat) (f n : Int32) : Prop := ∃ k, 0 ≤ k ∧ k < V B 1 ∧ V (la (O (B + 1)) k) 1 = f ∧ V (la (O (B + 1)) k) 2 = n
theorem n_taken_L {x1 x2 : Int32} (h : CW B w0 T V R I O N w) (hC : CI B T K V R O N) : ∀ (n : Nat) (x3 : Int32), 0 ≤ x3 → x3 ≤ V B 1 → (V B 1 - x3).toInt < n → (∀ k, 0 ≤ k → k < x3 → ¬ (V (la (O (B + 1)) k) 1 = x1 ∧ V (la (O (B + 1)) k) 2 = x2)) → OK (f_LM_isNumberTaken_L2 w B x1 x2 n x3) (fun q => (q.1 = 0 ∧ ¬ csame B V O x1 x2) ∨ (q.1 = 1 ∧ csame B V O x1 x2)) := by
  obtain ⟨⟨⟨t0, t1, t2, t3, t4, t5, t6, t10⟩, ⟨m1, m2, m4, m5, m6, m10⟩, ⟨r0, r2, r4, r5, -, -, -⟩, -, -⟩, -, -, -, ⟨c1, c2⟩, -, -⟩ := hC
  intro n
  induction n with
  | zero => intro x3 b0 b1 hn; exact (fu_zero b0 b1 hn).elim
  | succ n ih =>
    intro x3 b0 b1 hn hk
    rw [f_LM_isNumberTaken_L2]
    refine c_gI h t0 (by decide) ?_
    refine OK.ite (fun c => ?_) (fun c => ?_)
    · have e : x3 = V B 1 := by clear c2 ih hn hk; lia
      rw [e] at hk
      exact OK.ret (Or.inl ⟨rfl, fun ⟨k, k0, k1, k2, k3⟩ => hk k k0 k1 ⟨k2, k3⟩⟩)
    · have y : x3 < V B 1 := by clear c2 ih hn hk; lia
      have fs := fu_step b0 y hn
      obtain ⟨a, e, ta, -⟩ := c2 x3 b0 y
      have el : la (O (B + 1)) x3 = a := by unfold la; rw [e]; rfl
      have x32 : x3 < N (B + 1) := by rw [m1]; clear c2 ih hn hk fs; lia
      have nx : 0 ≤ x3 + 1 ∧ x3 + 1 ≤ V B 1 := by clear c2 ih hn hk fs; constructor <;> lia
      have go : ¬ (V a 1 = x1 ∧ V a 2 = x2) → OK (f_LM_isNumberTaken_L2 w B x1 x2 n (x3 + 1)) (fun q => (q.1 = 0 ∧ ¬ csame B V O x1 x2) ∨ (q.1 = 1 ∧ csame B V O x1 x2)) := fun z => ih _ nx.1 nx.2 fs (fun k k0 k1 => by
        by_cases e2 : k = x3
        · rw [e2, el]; exact z
        · exact hk k k0 (by clear c2 ih hn hk fs; lia))
      refine c_gRs h t0 r0 (by decide) (c_aRs h t1 (by decide) b0 x32 e (c_gI h ta (by decide) (OK.ite (fun d1 => ?_) (fun d1 => go (fun z => d1 z.1)))))
      refine c_gRs h t0 r0 (by decide) (c_aRs h t1 (by decide) b0 x32 e (c_gI h ta (by decide) (OK.ite (fun d2 => ?_) (fun d2 => go (fun z => d2 z.2)))))
      exact OK.ret (Or.inr ⟨rfl, x3, b0, y, by rw [el]; exact d1, by rw [el]; exact d2⟩)
theorem n_taken {F : Int32 → Option β} {x1 x2 : Int32} (h : CW B w0 T V R I O N w) (hC : CI B T K V R O N) (h1 : csame B V O x1 x2 → OK (F 1) P) (h2 : ¬ csame B V O x1 x2 → OK (F 0) P) : OK ((f_LM_isNumberTaken w B x1 x2).bind F) P := by
  have c1 := hC.2.2.2.2.1.1
  refine OK.call (P := fun v => (v = 0 ∧ ¬ csame B V O x1 x2) ∨ (v = 1 ∧ csame B V O x1 x2)) ?_ (fun v hv => ?_)
  · unfold f_LM_isNumberTaken
    refine OK.call (n_taken_L h hC _ _ (by decide) c1.1 (fu_any (by lia) c1.1) (fun k k0 k1 => by lia)) (fun q hq => ?_)
    rcases hq with ⟨e, z⟩ | ⟨e, z⟩
    · exact OK.ifP e (OK.ret (Or.inl ⟨rfl, z⟩))
    · exact OK.ifN (by rw [e]; decide) (OK.ifP e (OK.ret (Or.inr ⟨rfl, z⟩)))
  · rcases hv with ⟨rfl, z⟩ | ⟨rfl, z⟩
    · exact h2 z
    · exact h1 z
/-- the leaf at a place is of the flitch and free -/
def fbC (B : Nat) (V : Nat → Nat → Int32) (O : Nat → Int32 → Option Nat) (fl k : Int32) : Bool := V (la (O (B + 1)) k) 1 == fl && (V (la (O (B + 1)) k) 7 == 0 && V (la (O (B + 1)) k) 6 == 0)
def cntC (B : Nat) (V : Nat → Nat → Int32) (O : Nat → Int32 → Option Nat) (fl : Int32) : Int32 := Int32.ofNat (cn (fbC B V O fl) (V B 1).toNatClampNeg)
theorem N32c (hC : CI B T K V R O N) : (V B 1).toNatClampNeg ≤ 32 := by
  have c1 := hC.2.2.2.2.1.1
  have a := cl_int c1.1
  have b := c1.2
  rw [Int32.le_iff_toInt_le, show (32 : Int32).toInt = 32 by decide] at b
  omega
theorem n_count_L {fl : Int32} (h : CW B w0 T V R I O N w) (hC : CI B T K V R O N) : ∀ (n : Nat) (x2 x3 : Int32), 0 ≤ x3 → x3 ≤ V B 1 → (V B 1 - x3).toInt < n → x2 = Int32.ofNat (cn (fbC B V O fl) x3.toNatClampNeg) → OK (f_LM_countFree_L4 w B fl n x2 x3) (fun q => q.2.1 = cntC B V O fl) := by
  have n32 := N32c hC
  obtain ⟨⟨⟨t0, t1, t2, t3, t4, t5, t6, t10⟩, ⟨m1, m2, m4, m5, m6, m10⟩, ⟨r0, r2, r4, r5, -, -, -⟩, -, -⟩, -, -, -, ⟨c1, c2⟩, -, -⟩ := hC
  intro n
  induction n with
  | zero => intro x2 x3 b0 b1 hn; exact (fu_zero b0 b1 hn).elim
  | succ n ih =>
    intro x2 x3 b0 b1 hn hk
    rw [f_LM_countFree_L4]
    refine c_gI h t0 (by decide) ?_
    refine OK.ite (fun c => ?_) (fun c => ?_)
    · have e : x3 = V B 1 := by clear c2 ih hn hk; lia
      rw [e] at hk
      exact OK.ret hk
    · have y : x3 < V B 1 := by clear c2 ih hn hk; lia
      have fs := fu_step b0 y hn
      obtain ⟨a, e, ta, -⟩ := c2 x3 b0 y
      have el : la (O (B + 1)) x3 = a := by unfold la; rw [e]; rfl
      have x32 : x3 < N (B + 1) := by rw [m1]; clear c2 ih hn hk fs; lia
      have nx : 0 ≤ x3 + 1 ∧ x3 + 1 ≤ V B 1 := by clear c2 ih hn hk fs; constructor <;> lia
      have st := cn_step (p := fbC B V O fl) b0 (by clear c2 ih hn hk fs; lia)
      have cl : cn (fbC B V O fl) x3.toNatClampNeg < 1000 := by
        have z1 := cn_le (fbC B V O fl) x3.toNatClampNeg
        have z2 := cl_mono b0 y
        omega
      have no : fbC B V O fl x3 = false → OK (f_LM_countFree_L4 w B fl n x2 (x3 + 1)) (fun q => q.2.1 = cntC B V O fl) := fun z => ih _ _ nx.1 nx.2 fs (by rw [st, z]; exact hk)
      refine c_gRs h t0 r0 (by decide) (c_aRs h t1 (by decide) b0 x32 e (c_gI h ta (by decide) (OK.ite (fun d1 => ?_) (fun d1 => no (by unfold fbC; rw [el]; simp [d1])))))
      refine c_gRs h t0 r0 (by decide) (c_aRs h t1 (by decide) b0 x32 e (c_xo h ta (by decide) (n_isFree h ta (fun d2 d3 => ?_) (fun d2 => ?_))))
      · refine OK.ifN (by decide) (ih _ _ nx.1 nx.2 fs ?_)
        have z : fbC B V O fl x3 = true := by unfold fbC; rw [el]; simp [d1, d2, d3]
        rw [st, z, hk, of_add1 cl]
        rfl
      · refine OK.ifP rfl (no ?_)
        unfold fbC
        rw [el]
        simp only [Bool.and_eq_false_iff, beq_eq_false_iff_ne, ne_eq]
        grind
theorem n_count {F : Int32 → Option β} {fl : Int32} (h : CW B w0 T V R I O N w) (hC : CI B T K V R O N) (hp : OK (F (cntC B V O fl)) P) : OK ((f_LM_countFree w B fl).bind F) P := by
  have c1 := hC.2.2.2.2.1.1
  refine OK.call (P := fun v => v = cntC B V O fl) ?_ (fun v e => by rw [e]; exact hp)
  unfold f_LM_countFree
  exact OK.call (n_count_L h hC _ _ _ (by decide) c1.1 (fu_any (by lia) c1.1) rfl) (fun q hq => OK.ret hq)
theorem n_least_L {m : Int32} (h : CW B w0 T V R I O N w) (hC : CI B T K V R O N) : ∀ (n : Nat) (x2 : Int32), 0 ≤ x2 → x2 ≤ 4 → (4 - x2).toInt < n → (∀ g, 0 ≤ g → g < x2 → cntC B V O g < m) → OK (f_LM_leastFlitchWith_L2 w B m n x2) (fun q => (q.1 = 0 ∧ ∀ g, 0 ≤ g → g < 4 → cntC B V O g < m) ∨ (q.1 = 1 ∧ 0 ≤ q.2 ∧ q.2 < 4 ∧ m ≤ cntC B V O q.2 ∧ ∀ g, 0 ≤ g → g < q.2 → cntC B V O g < m)) := by
  have t0 := hC.1.1.1
  intro n
  induction n with
  | zero => intro x2 b0 b1 hn; exact (fu_zero b0 b1 hn).elim
  | succ n ih =>
    intro x2 b0 b1 hn hk
    rw [f_LM_leastFlitchWith_L2]
    refine OK.ite (fun c => ?_) (fun c => ?_)
    · have e : x2 = 4 := by clear ih hn hk; lia
      rw [e] at hk
      exact OK.ret (Or.inl ⟨rfl, hk⟩)
    · have y : x2 < 4 := by clear ih hn hk; lia
      have fs := fu_step b0 y hn
      refine c_xo h t0 (by decide) (n_count h hC (OK.ite (fun d => ?_) (fun d => ?_)))
      · refine ih _ (by clear ih hn hk fs; lia) (by clear ih hn hk fs; lia) fs (fun g g0 g1 => ?_)
        by_cases e : g = x2
        · rw [e]; exact d
        · exact hk g g0 (by clear ih hn hk fs; lia)
      · exact OK.ret (Or.inr ⟨rfl, b0, y, by clear ih hn hk fs; lia, hk⟩)
theorem n_least {F : Int32 → Option β} {m : Int32} (h : CW B w0 T V R I O N w) (hC : CI B T K V R O N) (h1 : (∀ g, 0 ≤ g → g < 4 → cntC B V O g < m) → OK (F (-1)) P) (h2 : ∀ fl, 0 ≤ fl → fl < 4 → m ≤ cntC B V O fl → (∀ g, 0 ≤ g → g < fl → cntC B V O g < m) → OK (F fl) P) : OK ((f_LM_leastFlitchWith w B m).bind F) P := by
  refine OK.call (P := fun v => (v = -1 ∧ ∀ g, 0 ≤ g → g < 4 → cntC B V O g < m) ∨ (0 ≤ v ∧ v < 4 ∧ m ≤ cntC B V O v ∧ ∀ g, 0 ≤ g → g < v → cntC B V O g < m)) ?_ (fun v hv => ?_)
  · unfold f_LM_leastFlitchWith
    refine OK.call (n_least_L h hC _ _ (by decide) (by decide) (by decide) (fun g g0 g1 => by lia)) (fun q hq => ?_)
    rcases hq with ⟨e, z⟩ | ⟨e, z⟩
    · exact OK.ifP e (OK.ret (Or.inl ⟨rfl, z⟩))
    · exact OK.ifN (by rw [e]; decide) (OK.ifP e (OK.ret (Or.inr z)))
  · rcases hv with ⟨rfl, z⟩ | ⟨z1, z2, z3, z4⟩
    · exact h1 z
    · exact h2 v z1 z2 z3 z4
end CP4
