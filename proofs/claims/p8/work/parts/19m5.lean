/-! the reference: at, number -/
theorem lg_in {c : Int64} {v : Int32} (hv : 0 ≤ v) (h1 : ¬ lg_cmp c 0 < 0) (h2 : ¬ 0 ≤ lg_cmp c v.toInt64) : 0 ≤ c.toInt32 ∧ c.toInt32 < v := by
  rw [lg_cmp_lt] at h1
  rw [lg_cmp_ge] at h2
  have b1 := Int32.toInt_lt v
  have e : v.toInt64.toInt = v.toInt := Int32.toInt_toInt64 v
  have g1 : (0 : Int) ≤ c.toInt := by
    rw [Int64.lt_iff_toInt_lt, show (0 : Int64).toInt = 0 by decide] at h1
    omega
  have g2 : c.toInt < v.toInt := by
    rw [Int64.le_iff_toInt_le, e] at h2
    omega
  have e2 : c.toInt32.toInt = c.toInt := by
    rw [Int64.toInt_toInt32, Int.bmod_eq_of_le (by omega) (by omega)]
  rw [Int32.le_iff_toInt_le, Int32.lt_iff_toInt_lt, e2, show (0 : Int32).toInt = 0 by decide]
  exact ⟨g1, g2⟩
section MP5
variable {B : Nat} {w0 : Mp} {s : Nat → Int32} {A : Nat → Int32 → Int32} {w : Mp} {β : Type} {P : β → Prop}
theorem m_at_L {f x2 : Int32} {y4 : Int64} (h : MW B w0 s A w) (hI : MI s A) (h0 : 0 ≤ f) (h1 : f < s 9) : ∀ (n : Nat) (x6 : Int32), 0 ≤ x6 → x6 ≤ 8 → (8 - x6).toInt < n → OK (f_Mod_at_L24 w (B + 11) f x2 y4 n x6) (fun q => q.1 = 0 ∨ (q.1 = 1 ∧ 0 ≤ q.2.1 ∧ q.2.1 < A 11 f ∧ (0 ≤ q.2.2.1.toInt32 ∧ q.2.2.1.toInt32 < A 4 (pcs A f q.2.1)) ∧ (0 ≤ q.2.2.2.toInt32 ∧ q.2.2.2.toInt32 < A 5 (pcs A f q.2.1)))) := by
  have a5 := hI.2.2.2.2.1 f h0 h1
  have a6 := hI.2.1
  intro n
  induction n with
  | zero => intro x6 b0 b1 hn; exact (fu_zero b0 b1 hn).elim
  | succ n ih =>
    intro x6 b0 b1 hn
    rw [f_Mod_at_L24]
    repeat' first
      | intro _
      | with_reducible refine OK.J1 ?_
      | with_reducible refine OK.J2 ?_
      | with_reducible refine OK.J3 ?_
      | with_reducible refine OK.ifN (by decide) ?_
      | with_reducible refine OK.ifP (by decide) ?_
      | with_reducible refine OK.ifP (by exact rfl) ?_
      | with_reducible refine OK.ifN (fun z => absurd (show (1 : Int32) = 0 from z) (by decide)) ?_
      | with_reducible refine OK.ite (fun _ => ?_) (fun _ => ?_)
      | with_reducible refine k_gIa (by assumption) (by decide) ?_
      | with_reducible refine k_pF2 (by assumption) (by decide) ?_
      | with_reducible refine k_xo (by assumption) ?_
      | with_reducible refine k_gI (by assumption) (by decide) ?_
      | with_reducible refine k_gR (by assumption) (by decide) ?_
      | with_reducible refine k_pF (by assumption) (by decide) ?_
      | with_reducible refine k_aI (by assumption) (by decide) (by decide) (by grind) (by grind [mln]) ?_
      | with_reducible refine k_sI (by assumption) (by decide) (by decide) (by grind) (by grind [mln]) ?_
      | with_reducible refine m_isMirrored (by assumption) (by grind) (by grind) ?_
      | with_reducible refine m_isTurned (by assumption) (by grind) (by grind) ?_
      | with_reducible refine m_across (by assumption) (by repeat (first | assumption | refine MI.sc rfl ?_ | refine MI.ar rfl ?_)) (by grind [up]) (by grind [up]) (by grind [up]) (by grind [up]) ?_
      | with_reducible refine m_topOf (by assumption) (by repeat (first | assumption | refine MI.sc rfl ?_ | refine MI.ar rfl ?_)) (by grind [up]) (by grind [up]) (by grind [up]) (by grind [up]) ?_
      | with_reducible refine m_leastTop (by assumption) (by repeat (first | assumption | refine MI.sc rfl ?_ | refine MI.ar rfl ?_)) (by grind [up]) (by grind [up]) ?_
      | with_reducible refine m_high (by assumption) (by repeat (first | assumption | refine MI.sc rfl ?_ | refine MI.ar rfl ?_)) (by grind [up]) (by grind [up]) (by grind [up]) (by grind [up]) ?_
      | with_reducible refine m_wide (by assumption) (by repeat (first | assumption | refine MI.sc rfl ?_ | refine MI.ar rfl ?_)) (by grind [up]) (by grind [up]) (by grind [up]) (by grind [up]) ?_
      | exact ih _ (by grind) (by grind) (fu_step (by grind) (by grind) (by assumption))
    · exact OK.ret (Or.inl rfl)
    · rename_i v1 e1 b3 b4 z1 z2 v2 e2 b5 b6 z3
      subst e1 e2
      exact OK.ret (Or.inr ⟨rfl, b0, by grind, lg_in (by grind) (by assumption) (by assumption), lg_in (by grind) (by assumption) (by assumption)⟩)
theorem m_at {f x y : Int32} (h : MW B w0 s A w) (hI : MI s A) : OK (f_Mod_at w (B + 11) f x y) (fun q => ∃ c, MW B w0 (up s 0 c) A q.2 ∧ c = if 0 ≤ f ∧ f < s 9 then 0 else 1) := by
  unfold f_Mod_at
  repeat' first
    | intro _
    | with_reducible refine OK.J1 ?_
    | with_reducible refine OK.J2 ?_
    | with_reducible refine OK.J3 ?_
    | with_reducible refine OK.ifN (by decide) ?_
    | with_reducible refine OK.ifP (by decide) ?_
    | with_reducible refine OK.ifP (by exact rfl) ?_
    | with_reducible refine OK.ifN (fun z => absurd (show (1 : Int32) = 0 from z) (by decide)) ?_
    | with_reducible refine OK.ite (fun _ => ?_) (fun _ => ?_)
    | with_reducible refine k_gIa (by assumption) (by decide) ?_
    | with_reducible refine k_pF2 (by assumption) (by decide) ?_
    | with_reducible refine k_xo (by assumption) ?_
    | with_reducible refine k_gI (by assumption) (by decide) ?_
    | with_reducible refine k_gR (by assumption) (by decide) ?_
    | with_reducible refine k_pF (by assumption) (by decide) ?_
    | with_reducible refine k_aI (by assumption) (by decide) (by decide) (by grind) (by grind [mln]) ?_
    | with_reducible refine k_sI (by assumption) (by decide) (by decide) (by grind) (by grind [mln]) ?_
    | with_reducible refine m_noFace (by assumption) ?_ ?_
    | with_reducible refine m_noPiece (by assumption) (by assumption) ?_ ?_
    | with_reducible refine m_noSeam (by assumption) (by assumption) ?_ ?_
    | with_reducible refine m_isMirrored (by assumption) (by grind) (by grind) ?_
    | with_reducible refine m_isTurned (by assumption) (by grind) (by grind) ?_
    | with_reducible refine m_across (by assumption) (by repeat (first | assumption | refine MI.sc rfl ?_ | refine MI.ar rfl ?_)) (by grind [up]) (by grind [up]) (by grind [up]) (by grind [up]) ?_
    | with_reducible refine m_topOf (by assumption) (by repeat (first | assumption | refine MI.sc rfl ?_ | refine MI.ar rfl ?_)) (by grind [up]) (by grind [up]) (by grind [up]) (by grind [up]) ?_
    | with_reducible refine m_leastTop (by assumption) (by repeat (first | assumption | refine MI.sc rfl ?_ | refine MI.ar rfl ?_)) (by grind [up]) (by grind [up]) ?_
    | with_reducible refine m_high (by assumption) (by repeat (first | assumption | refine MI.sc rfl ?_ | refine MI.ar rfl ?_)) (by grind [up]) (by grind [up]) (by grind [up]) (by grind [up]) ?_
    | with_reducible refine m_wide (by assumption) (by repeat (first | assumption | refine MI.sc rfl ?_ | refine MI.ar rfl ?_)) (by grind [up]) (by grind [up]) (by grind [up]) (by grind [up]) ?_
    | with_reducible refine OK.call (m_at_L (by assumption) (by repeat (first | assumption | refine MI.sc rfl ?_ | refine MI.ar rfl ?_)) (by grind) (by grind [up]) _ _ (by decide) (by decide) (by decide)) ?_
  · exact OK.ret ⟨_, by assumption, by grind⟩
  · rename_i q hq c1 c2
    rcases hq with hq | ⟨-, d1, d2, d3, d4⟩
    · exact absurd hq c1
    · skip
      repeat' first
        | intro _
        | with_reducible refine OK.J1 ?_
        | with_reducible refine OK.J2 ?_
        | with_reducible refine OK.J3 ?_
        | with_reducible refine OK.ifN (by decide) ?_
        | with_reducible refine OK.ifP (by decide) ?_
        | with_reducible refine OK.ifP (by exact rfl) ?_
        | with_reducible refine OK.ifN (fun z => absurd (show (1 : Int32) = 0 from z) (by decide)) ?_
        | with_reducible refine OK.ite (fun _ => ?_) (fun _ => ?_)
        | with_reducible refine k_gIa (by assumption) (by decide) ?_
        | with_reducible refine k_pF2 (by assumption) (by decide) ?_
        | with_reducible refine k_xo (by assumption) ?_
        | with_reducible refine k_gI (by assumption) (by decide) ?_
        | with_reducible refine k_gR (by assumption) (by decide) ?_
        | with_reducible refine k_pF (by assumption) (by decide) ?_
        | with_reducible refine k_aI (by assumption) (by decide) (by decide) (by grind) (by grind [mln]) ?_
        | with_reducible refine k_sI (by assumption) (by decide) (by decide) (by grind) (by grind [mln]) ?_
        | with_reducible refine m_grey (by assumption) (by repeat (first | assumption | refine MI.sc rfl ?_ | refine MI.ar rfl ?_)) (by grind [up]) (by grind [up]) d1 d2 d3.1 d3.2 d4.1 d4.2 ?_
      exact OK.ret ⟨_, by assumption, by grind⟩
  · rename_i q hq c1 c2
    rcases hq with hq | hq
    · exact absurd hq c1
    · exact absurd hq.1 c2
  · exact OK.ret ⟨_, by assumption, by grind⟩
/-! digits -/
theorem dv_all : ∀ n, n < 1001 → ((Int32.ofNat n / 1 ≤ 9 ↔ n ≤ 9) ∧ (Int32.ofNat n / 10 ≤ 9 ↔ n ≤ 99) ∧ (Int32.ofNat n / 100 ≤ 9 ↔ n ≤ 999) ∧ Int32.ofNat n / 1000 ≤ 9) := by decide +kernel
theorem of_cl {v : Int32} (h : 0 ≤ v) : Int32.ofNat v.toNatClampNeg = v := by
  have h1 := cl_int h
  have b := Int32.toInt_lt v
  exact Int32.toInt_inj.mp (by rw [Int32.toInt_ofNat_of_lt (by omega)]; exact h1)
theorem dv_c {v : Int32} (h0 : 0 ≤ v) (h1 : v ≤ 1000) : ((v / 1 ≤ 9 ↔ v ≤ 9) ∧ (v / 10 ≤ 9 ↔ v ≤ 99) ∧ (v / 100 ≤ 9 ↔ v ≤ 999) ∧ v / 1000 ≤ 9) := by
  have e := of_cl h0
  have c := cl_int h0
  rw [Int32.le_iff_toInt_le, show (1000 : Int32).toInt = 1000 by decide] at h1
  have := dv_all v.toNatClampNeg (by omega)
  rw [e] at this
  have k : ∀ m : Nat, m < 2147483648 → (v.toNatClampNeg ≤ m ↔ v ≤ Int32.ofNat m) := fun m hm => by
    rw [Int32.le_iff_toInt_le, Int32.toInt_ofNat_of_lt hm]
    omega
  rw [k 9 (by decide), k 99 (by decide), k 999 (by decide)] at this
  exact this
/-- the greatest power of ten that a number of at most four digits begins with -/
def pw (v : Int32) : Int32 := if v ≤ 9 then 1 else if v ≤ 99 then 10 else if v ≤ 999 then 100 else 1000
theorem m_wn_L2 {b : Nat} {a v : Int32} (h0 : 0 ≤ v) (h1 : v ≤ 1000) (n : Nat) : f_Mod_writeNumber_L2 w b a v (n + 4) 1 = some (0, pw v) := by
  obtain ⟨d1, d2, d3, d4⟩ := dv_c h0 h1
  have e1 : (10 : Int32) * 1 = 10 := by decide
  have e2 : (10 : Int32) * 10 = 100 := by decide
  have e3 : (10 : Int32) * 100 = 1000 := by decide
  unfold pw
  rw [f_Mod_writeNumber_L2, if_neg (by decide)]
  by_cases c1 : v ≤ 9
  · rw [if_pos (d1.mpr c1), if_pos c1]
  · rw [if_neg (fun z => c1 (d1.mp z)), if_neg c1, e1, f_Mod_writeNumber_L2, if_neg (by decide)]
    by_cases c2 : v ≤ 99
    · rw [if_pos (d2.mpr c2), if_pos c2]
    · rw [if_neg (fun z => c2 (d2.mp z)), if_neg c2, e2, f_Mod_writeNumber_L2, if_neg (by decide)]
      by_cases c3 : v ≤ 999
      · rw [if_pos (d3.mpr c3), if_pos c3]
      · rw [if_neg (fun z => c3 (d3.mp z)), if_neg c3, e3, f_Mod_writeNumber_L2, if_neg (by decide), if_pos d4]
def dg (v d : Int32) : Int32 := 48 + (v / d - v / d / 10 * 10)
/-- the digits of v from the power d on, written at x -/
def wdig (A : Nat → Int32 → Int32) (v : Int32) : Nat → Int32 → Int32 → (Nat → Int32 → Int32)
  | 0, _, _ => A
  | n + 1, x, d => if d ≤ 0 then A else wdig (upA A 21 x (dg v d)) v n (x + 1) (d / 10)
theorem m_wn_L24 {v : Int32} : ∀ (n : Nat) (A : Nat → Int32 → Int32) (x d : Int32) (w : Mp), MW B w0 s A w → 0 ≤ x → x ≤ 20 → (d = 0 ∨ d = 1 ∨ d = 10 ∨ d = 100 ∨ d = 1000) → OK (f_Mod_writeNumber_L24 (B + 11) v (n + 5) x d w) (fun q => MW B w0 s (wdig A v 5 x d) q.2.2.2 ∧ q.2.1 = x + (if d = 0 then 0 else if d = 1 then 1 else if d = 10 then 2 else if d = 100 then 3 else 4)) := by
  have s0 : ∀ (n : Nat) (m : Nat) (A : Nat → Int32 → Int32) (x : Int32) (w : Mp), MW B w0 s A w → OK (f_Mod_writeNumber_L24 (B + 11) v (n + 1) x 0 w) (fun q => MW B w0 s (wdig A v (m + 1) x 0) q.2.2.2 ∧ q.2.1 = x) := fun n m A x w h => by
    rw [f_Mod_writeNumber_L24, if_pos (by decide), wdig, if_pos (by decide)]
    exact OK.ret ⟨h, rfl⟩
  have st : ∀ (n m : Nat) (A : Nat → Int32 → Int32) (x d e : Int32) (w : Mp) (Q : Nat × Int32 × Int32 × Mp → Prop), MW B w0 s A w → 0 ≤ x → x ≤ 30 → ¬ d ≤ 0 → d / 10 = e → (∀ w', MW B w0 s (upA A 21 x (dg v d)) w' → OK (f_Mod_writeNumber_L24 (B + 11) v n (x + 1) e w') Q) → OK (f_Mod_writeNumber_L24 (B + 11) v (n + 1) x d w) Q := fun n m A x d e w Q h b0 b1 hd he K => by
    rw [f_Mod_writeNumber_L24, if_neg hd, he]
    refine k_gR h (by decide) ?_
    rw [if_neg (fun z => hd (by rw [z]; decide))]
    exact k_sI h (by decide) (by decide) b0 (by show x < (32 : Int32); grind) K
  intro n A x d w h b0 b1 hd
  have x1 : 0 ≤ x + 1 ∧ x + 1 ≤ 21 := by grind
  have x2 : 0 ≤ x + 1 + 1 ∧ x + 1 + 1 ≤ 22 := by grind
  have x3 : 0 ≤ x + 1 + 1 + 1 ∧ x + 1 + 1 + 1 ≤ 23 := by grind
  rcases hd with rfl | rfl | rfl | rfl | rfl
  · exact (s0 _ 4 _ _ _ h).mono (fun q hq => ⟨hq.1, by rw [hq.2]; grind⟩)
  · refine st _ 4 _ _ _ 0 _ _ h b0 (by grind) (by decide) (by decide) (fun w' h' => ?_)
    rw [wdig, if_neg (by decide), show (1 : Int32) / 10 = 0 by decide]
    exact (s0 _ 3 _ _ _ h').mono (fun q hq => ⟨hq.1, by rw [hq.2]; grind⟩)
  · refine st _ 4 _ _ _ 1 _ _ h b0 (by grind) (by decide) (by decide) (fun w' h' => ?_)
    rw [wdig, if_neg (by decide), show (10 : Int32) / 10 = 1 by decide]
    refine st _ 3 _ _ _ 0 _ _ h' x1.1 (by grind) (by decide) (by decide) (fun w' h' => ?_)
    rw [wdig, if_neg (by decide), show (1 : Int32) / 10 = 0 by decide]
    exact (s0 _ 2 _ _ _ h').mono (fun q hq => ⟨hq.1, by rw [hq.2]; grind⟩)
  · refine st _ 4 _ _ _ 10 _ _ h b0 (by grind) (by decide) (by decide) (fun w' h' => ?_)
    rw [wdig, if_neg (by decide), show (100 : Int32) / 10 = 10 by decide]
    refine st _ 3 _ _ _ 1 _ _ h' x1.1 (by grind) (by decide) (by decide) (fun w' h' => ?_)
    rw [wdig, if_neg (by decide), show (10 : Int32) / 10 = 1 by decide]
    refine st _ 2 _ _ _ 0 _ _ h' x2.1 (by grind) (by decide) (by decide) (fun w' h' => ?_)
    rw [wdig, if_neg (by decide), show (1 : Int32) / 10 = 0 by decide]
    exact (s0 _ 1 _ _ _ h').mono (fun q hq => ⟨hq.1, by rw [hq.2]; grind⟩)
  · refine st _ 4 _ _ _ 100 _ _ h b0 (by grind) (by decide) (by decide) (fun w' h' => ?_)
    rw [wdig, if_neg (by decide), show (1000 : Int32) / 10 = 100 by decide]
    refine st _ 3 _ _ _ 10 _ _ h' x1.1 (by grind) (by decide) (by decide) (fun w' h' => ?_)
    rw [wdig, if_neg (by decide), show (100 : Int32) / 10 = 10 by decide]
    refine st _ 2 _ _ _ 1 _ _ h' x2.1 (by grind) (by decide) (by decide) (fun w' h' => ?_)
    rw [wdig, if_neg (by decide), show (10 : Int32) / 10 = 1 by decide]
    refine st _ 1 _ _ _ 0 _ _ h' x3.1 (by grind) (by decide) (by decide) (fun w' h' => ?_)
    rw [wdig, if_neg (by decide), show (1 : Int32) / 10 = 0 by decide]
    exact (s0 _ 0 _ _ _ h').mono (fun q hq => ⟨hq.1, by rw [hq.2]; grind⟩)
def wlen (v : Int32) : Int32 := if v ≤ 9 then 1 else if v ≤ 99 then 2 else if v ≤ 999 then 3 else 4
theorem m_writeNumber {F : Int32 × Mp → Option β} {x v : Int32} (h : MW B w0 s A w) (b0 : 0 ≤ x) (b1 : x ≤ 20) (h0 : 0 ≤ v) (h1 : v ≤ 1000) (hp : ∀ w', MW B w0 s (wdig A v 5 x (pw v)) w' → OK (F (x + wlen v, w')) P) : OK ((f_Mod_writeNumber w (B + 11) x v).bind F) P := by
  refine OK.call (P := fun q => MW B w0 s (wdig A v 5 x (pw v)) q.2 ∧ q.1 = x + wlen v) ?_ (fun q hq => ?_)
  · unfold f_Mod_writeNumber
    refine OK.eq (m_wn_L2 h0 h1 99996) ?_
    refine OK.call (m_wn_L24 99995 A x (pw v) w h b0 b1 (by grind [pw])) (fun q hq => OK.ret ⟨hq.1, ?_⟩)
    rw [hq.2]
    unfold wlen pw
    grind
  · have := hp q.2 hq.1
    rw [← hq.2] at this
    exact this
theorem wdig_ne {v : Int32} {j : Nat} (hj : j ≠ 21) : ∀ (n : Nat) (A : Nat → Int32 → Int32) (x d : Int32), wdig A v n x d j = A j := by
  intro n
  induction n with
  | zero => intro A x d; rfl
  | succ n ih =>
    intro A x d
    rw [wdig]
    by_cases c : d ≤ 0
    · rw [if_pos c]
    · rw [if_neg c, ih]
      exact if_neg hj
end MP5
