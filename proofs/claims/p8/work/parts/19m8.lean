section MP8
variable {B : Nat} {w0 : Mp} {s : Nat → Int32} {A : Nat → Int32 → Int32} {w : Mp} {β : Type} {P : β → Prop}
theorem m_fill_L16 {fl nn : Int32} (hI : MI s A) : ∀ (n : Nat) (x3 rs : Int32) (r : Int32 → Int32) (w : Mp), MW B w0 (up s 18 rs) (upR A r) w → 0 ≤ x3 → x3 ≤ s 1 → (s 1 - x3).toInt < n → RI s A fl rs r → rs = Int32.ofNat (cn (pLt A fl nn) (s 1).toNatClampNeg + cn (pEq A fl nn) x3.toNatClampNeg) → OK (f_Mod_fillRow_L16 (B + 11) fl nn n x3 w) (fun q => ∃ rs r, MW B w0 (up s 18 rs) (upR A r) q.2.2 ∧ RI s A fl rs r ∧ rs = Int32.ofNat (cn (pLt A fl nn) (s 1).toNatClampNeg + cn (pEq A fl nn) (s 1).toNatClampNeg)) := by
  have a1 := hI.1
  have N32 : (s 1).toNatClampNeg ≤ 32 := by
    have := cl_int a1.1
    have z := a1.2
    rw [Int32.le_iff_toInt_le, show (32 : Int32).toInt = 32 by decide] at z
    omega
  have tot := cLE (s := s) (A := A) (fl := fl) (nn := nn)
  have totN := cn_le (fun k => frb A fl k && decide (A 3 k ≤ nn)) (s 1).toNatClampNeg
  intro n
  induction n with
  | zero => intro x3 rs r w _ b0 b1 hn; exact (fu_zero b0 b1 hn).elim
  | succ n ih =>
    intro x3 rs r w h b0 b1 hn hr he
    have skip : ¬ s 1 ≤ x3 → pEq A fl nn x3 = false → OK (f_Mod_fillRow_L16 (B + 11) fl nn n (x3 + 1) w) (fun q => ∃ rs r, MW B w0 (up s 18 rs) (upR A r) q.2.2 ∧ RI s A fl rs r ∧ rs = Int32.ofNat (cn (pLt A fl nn) (s 1).toNatClampNeg + cn (pEq A fl nn) (s 1).toNatClampNeg)) := fun c hp =>
      ih _ rs r w h (by grind) (by grind) (fu_step b0 (by grind) hn) hr (by rw [cn_step b0 (by grind), hp]; exact he)
    rw [f_Mod_fillRow_L16]
    repeat' first
      | intro _
      | with_reducible refine OK.J1 ?_
      | with_reducible refine OK.J2 ?_
      | with_reducible refine OK.J3 ?_
      | with_reducible refine OK.ifN (by decide) ?_
      | with_reducible refine OK.ifP (by decide) ?_
      | with_reducible refine OK.ifP (by exact rfl) ?_
      | with_reducible refine OK.ifN (fun z => absurd (show (1 : Int32) = 0 from z) (by decide)) ?_
      | with_reducible refine OK.ite (fun _ => ?_) (fun _ => ?_)
      | with_reducible refine k_gIa (by assumption) (by decide) ?_
      | with_reducible refine k_pF2 (by assumption) (by decide) ?_
      | with_reducible refine k_gIc (by assumption) (by decide) (by decide) (by decide) ?_
      | with_reducible refine k_gIb (by assumption) (by decide) (by decide) ?_
      | with_reducible refine k_aIR (by assumption) (by decide) (by decide) (by decide) (by grind) (by grind [mln]) ?_
      | with_reducible refine k_aIr (by assumption) (by grind) (by grind) ?_
      | with_reducible refine k_xo (by assumption) ?_
      | with_reducible refine k_gI (by assumption) (by decide) ?_
      | with_reducible refine k_gR (by assumption) (by decide) ?_
      | with_reducible refine k_pF (by assumption) (by decide) ?_
      | with_reducible refine k_aI (by assumption) (by decide) (by decide) (by grind) (by grind [mln]) ?_
      | with_reducible refine k_sI (by assumption) (by decide) (by decide) (by grind) (by grind [mln]) ?_
      | exact skip (by assumption) (by simp only [pEq, frb]; grind)
    · refine OK.ret ⟨rs, r, h, hr, ?_⟩
      rw [he, show x3 = s 1 by grind]
    · rename_i c0 c1 c2 c3 c4
      have hp : pEq A fl nn x3 = true := by
        simp [pEq, frb, c1, c2, c3, c4]
      have st := cn_step (p := pEq A fl nn) b0 (by grind)
      rw [hp] at st
      simp only [if_true] at st
      have mo := cn_mono (pEq A fl nn) (x3 + 1).toNatClampNeg (s 1).toNatClampNeg (by
        by_cases e : x3 + 1 = s 1
        · rw [e]; exact Nat.le_refl _
        · exact Nat.le_of_lt (cl_mono (by grind) (by grind)))
      have hlt : cn (pLt A fl nn) (s 1).toNatClampNeg + cn (pEq A fl nn) x3.toNatClampNeg < (s 1).toNatClampNeg := by omega
      have rsb : 0 ≤ rs ∧ rs < s 1 := by
        rw [he]
        exact of_lt a1.1 hlt
      have e18 : up s 18 rs 18 = rs := up_at
      refine k_sIR h rsb.1 (by grind) (fun w1 h1 => ?_)
      refine k_gIa h1 (by decide) ?_
      refine k_pF2 h1 (by decide) (fun w2 h2 => ?_)
      refine ih _ _ _ w2 h2 (by grind) (by grind) (fu_step b0 (by grind) hn) (fun j j0 j1 => ?_) ?_
      · by_cases e : j = rs
        · rw [if_pos e]
          refine ⟨b0, by grind, ?_, ?_⟩
          · simp only [pEq, Bool.and_eq_true] at hp
            exact hp.1
          · rw [e, he]
            unfold posM
            rw [c2]
        · rw [if_neg e]
          exact hr j j0 (by grind)
      · rw [st, he, of_add1 (by omega), Nat.add_assoc]
theorem c0_lt {fl : Int32} (hI : MI s A) : cn (pLt A fl 0) (s 1).toNatClampNeg = 0 := by
  refine cn_zero _ (fun i hi => ?_)
  have b := of_lt hI.1.1 hi
  have := hI.2.2.2.1 _ b.1 b.2
  unfold pLt
  have e : decide (A 3 (Int32.ofNat i) < 0) = false := decide_eq_false (by grind)
  rw [e, Bool.and_false]
theorem c_le_lt {fl nn : Int32} (h : nn < 2000) : cn (fun k => frb A fl k && decide (A 3 k ≤ nn)) (s 1).toNatClampNeg = cn (pLt A fl (nn + 1)) (s 1).toNatClampNeg := by
  refine cn_congr _ (fun i _ => ?_)
  unfold pLt
  have e : decide (A 3 (Int32.ofNat i) ≤ nn) = decide (A 3 (Int32.ofNat i) < nn + 1) := decide_eq_decide.mpr (by grind)
  rw [e]
theorem c_all {fl : Int32} (hI : MI s A) : cn (pLt A fl 1001) (s 1).toNatClampNeg = cn (frb A fl) (s 1).toNatClampNeg := by
  refine cn_congr _ (fun i hi => ?_)
  have b := of_lt hI.1.1 hi
  have := hI.2.2.2.1 _ b.1 b.2
  unfold pLt
  have e : decide (A 3 (Int32.ofNat i) < 1001) = true := decide_eq_true (by grind)
  rw [e, Bool.and_true]
theorem m_fill_L7 {fl : Int32} (hI : MI s A) : ∀ (n : Nat) (x2 rs : Int32) (r : Int32 → Int32) (w : Mp), MW B w0 (up s 18 rs) (upR A r) w → 0 ≤ x2 → x2 ≤ 1001 → (1001 - x2).toInt < n → RI s A fl rs r → rs = Int32.ofNat (cn (pLt A fl x2) (s 1).toNatClampNeg) → OK (f_Mod_fillRow_L7 (B + 11) fl n x2 w) (fun q => ∃ rs r, MW B w0 (up s 18 rs) (upR A r) q.2.2 ∧ RI s A fl rs r ∧ rs = Int32.ofNat (cn (frb A fl) (s 1).toNatClampNeg)) := by
  have a1 := hI.1
  have fu : (s 1 - 0).toInt < (100000 : Nat) := fu_any (by grind) (by grind)
  intro n
  induction n with
  | zero => intro x3 rs r w _ b0 b1 hn; exact (fu_zero b0 b1 hn).elim
  | succ n ih =>
    intro x2 rs r w h b0 b1 hn hr he
    rw [f_Mod_fillRow_L7]
    refine OK.ite (fun c => ?_) (fun c => ?_)
    · have : x2 = 1001 := by grind
      subst this
      exact OK.ret ⟨rs, r, h, hr, by rw [he, c_all hI]⟩
    · refine OK.call (m_fill_L16 hI _ _ rs r w h (by decide) a1.1 fu hr (by rw [he]; rfl)) (fun q ⟨rs', r', h', hr', he'⟩ => ?_)
      rw [cLE, c_le_lt (by grind)] at he'
      exact ih _ rs' r' _ h' (by grind) (by grind) (fu_step b0 (by grind) hn) hr' he'
/-- the row of the free leaves of a flitch -/
theorem m_fillRow {F : Unit × Mp → Option β} {fl rs0 : Int32} {r0 : Int32 → Int32} (hI : MI s A) (h : MW B w0 (up s 18 rs0) (upR A r0) w) (hp : ∀ w' rs r, MW B w0 (up s 18 rs) (upR A r) w' → RI s A fl rs r → rs = Int32.ofNat (cn (frb A fl) (s 1).toNatClampNeg) → 0 ≤ rs → rs ≤ s 1 → OK (F ((), w')) P) : OK ((f_Mod_fillRow w (B + 11) fl).bind F) P := by
  refine OK.call (P := fun q => ∃ rs r, MW B w0 (up s 18 rs) (upR A r) q.2 ∧ RI s A fl rs r ∧ rs = Int32.ofNat (cn (frb A fl) (s 1).toNatClampNeg)) ?_ (fun q ⟨rs, r, h1, h2, h3⟩ => ?_)
  · unfold f_Mod_fillRow
    refine k_pF2 h (by decide) (fun w1 h1 => ?_)
    refine OK.call (m_fill_L7 hI _ _ 0 r0 w1 h1 (by decide) (by decide) (by decide) (fun j j0 j1 => by grind) (by rw [c0_lt hI]; rfl)) (fun q hq => OK.ret hq)
  · have b := of_le hI.1.1 (cn_le (frb A fl) (s 1).toNatClampNeg)
    rw [← h3] at b
    exact hp q.2 rs r h1 h2 h3 b.1 b.2
theorem MWn (h : MW B w0 s A w) : MW B w0 (up s 18 (s 18)) (upR A (A 19)) w := by rw [up_id, upR_id]; exact h
end MP8
