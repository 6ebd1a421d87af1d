/-! the reference: match as a whole, apart -/
def mgood (kd n : Int32) : Prop := 0 ≤ kd ∧ kd ≤ 3 ∧ 2 ≤ n ∧ n ≤ 8 ∧ (kd = 3 → n = 4)
section MPa
variable {B : Nat} {w0 : Mp} {s : Nat → Int32} {A : Nat → Int32 → Int32} {w : Mp} {β : Type} {P : β → Prop}
/-- the tail of match behind its code -/
theorem m_match_t {kd n fl rs : Int32} {r : Int32 → Int32} {w : Mp} (hI : MI s A) (h : MW B w0 (up (up s 18 rs) 0 0) (upR A r) w) (hF : FL s A n fl rs r) (hg : mgood kd n) (f8 : s 9 ≠ 8) (f4 : fl ≠ 4) : OK ((f_Mod_match_L114 w (B + 11) kd n 100000 (0 : Int32) (1 : Int32)).bind fun q_23 => if q_23.2.1 = 0 then ((gR w (some (B + 11)) 5 10).bind fun v_24 => (gI w (some (B + 11)) 5 9).bind fun v_25 => (sI w v_24 0 v_25 kd).bind fun w_26 => (gR w_26 (some (B + 11)) 5 11).bind fun v_27 => (gI w_26 (some (B + 11)) 5 9).bind fun v_28 => (sI w_26 v_27 0 v_28 n).bind fun w_29 => (f_Mod_match_L199 (B + 11) n 100000 (0 : Int32) w_29).bind fun q_39 => (gI q_39.2.2 (some (B + 11)) 5 9).bind fun v_40 => (pF q_39.2.2 (some (B + 11)) 5 9 (.int (v_40 + (1 : Int32)))).bind fun w_41 => (pF w_41 (some (B + 11)) 5 15 (.int (0 : Int32))).bind fun w_42 => (gI w_42 (some (B + 11)) 5 9).bind fun v_43 => some (v_43 - (1 : Int32), w_42)) else (some ((-1 : Int32), w)))
    (fun q => (mbrk A r n ∧ q.1 = -1 ∧ MW B w0 (up (up s 18 rs) 0 0) (upR A r) q.2) ∨ (¬ mbrk A r n ∧ q.1 = s 9 ∧ ∃ pc us, MW B w0 (up (up (up (up s 18 rs) 0 0) 9 (s 9 + 1)) 15 0) (upPU (upA (upA (upR A r) 10 (s 9) kd) 11 (s 9) n) pc us) q.2 ∧ PU A (s 9) n r pc us)) := by
  obtain ⟨r1, r2, r3, r4, r5, r6, r7, r8⟩ := hF
  obtain ⟨g1, g2, g3, g4, g5⟩ := hg
  have a1 := hI.1
  have a2 := hI.2.1
  have nr : n ≤ rs := r8 (by grind)
  have hr : ∀ j, 0 ≤ j → j < n → 0 ≤ r j ∧ r j < s 1 := fun j j0 j1 => by
    have := r1 j j0 (by grind)
    exact ⟨this.1, this.2.1⟩
  have hr' : ∀ j, 0 ≤ j → j < n → 0 ≤ r j ∧ r j < 32 := fun j j0 j1 => by
    have := hr j j0 j1
    exact ⟨this.1, by grind⟩
  have hI' : MI (up (up s 18 rs) 0 0) A := MI.sc rfl (MI.sc rfl hI)
  have fn : (n - 1).toInt < (100000 : Nat) := by
    have z : (n - 0).toInt < (100000 : Nat) := fu_any (by grind) (by grind)
    have := fu_step (i := 0) (N := n) (n := 100000) (by decide) (by grind) (by omega)
    exact this
  refine OK.call (m_match_L114 (rs := rs) hI' h hr g4 g3 _ _ _ (by decide) (by grind) fn (Or.inl ⟨rfl, fun k k0 k1 => by grind⟩)) (fun q hq => ?_)
  refine OK.ite (fun c => ?_) (fun c => ?_)
  · have nb : ¬ mbrk A r n := by
      rcases hq with z | z
      · exact z.2
      · rw [c] at z; exact absurd z.1 (by decide)
    refine k_gR h (by decide) (k_gIc h (by decide) (by decide) (by decide) (k_sI h (by decide) (by decide) a2.1 (by show s 9 < (8 : Int32); grind) (fun w1 h1 => ?_)))
    refine k_gR h1 (by decide) (k_gIc h1 (by decide) (by decide) (by decide) (k_sI h1 (by decide) (by decide) a2.1 (by show s 9 < (8 : Int32); grind) (fun w2 h2 => ?_)))
    rw [← upPU_id (A := upA (upA (upR A r) 10 (s 9) kd) 11 (s 9) n)] at h2
    have fz : (n - 0).toInt < (100000 : Nat) := fu_any (by grind) (by grind)
    have L := m_match_L199 (B := B) (w0 := w0) (s := up (up s 18 rs) 0 0) (A := upA (upA (upR A r) 10 (s 9) kd) 11 (s 9) n) (n := n) (r := r) hr' rfl g4 g3 a2.1 (by show s 9 < (8 : Int32); grind) 100000 0 _ _ w2 h2 (by decide) (by grind) fz ⟨fun k k0 k1 => by grind, fun i _ => rfl, fun k k0 k1 => by grind, fun l _ => rfl⟩
    refine OK.call L (fun q ⟨pc, us, h3, hp⟩ => ?_)
    refine k_gIc h3 (by decide) (by decide) (by decide) (k_pF h3 (by decide) (fun w4 h4 => k_pF h4 (by decide) (fun w5 h5 => ?_)))
    refine k_gIb h5 (by decide) (by decide) ?_
    rw [up_at]
    exact OK.ret (Or.inr ⟨nb, by grind, pc, us, h5, hp⟩)
  · refine OK.ret (Or.inl ⟨?_, rfl, h⟩)
    rcases hq with z | z
    · exact absurd z.1 c
    · exact z.2
theorem m_match {kd n : Int32} (h : MW B w0 s A w) (hI : MI s A) : OK (f_Mod_match w (B + 11) kd n) (fun q => ∃ fl rs r, FL s A n fl rs r ∧
    (((s 9 = 8 ∨ fl = 4) ∧ MW B w0 (up (up s 18 rs) 0 1) (upR A r) q.2) ∨
     (¬ (s 9 = 8 ∨ fl = 4) ∧ ¬ mgood kd n ∧ MW B w0 (up (up s 18 rs) 0 2) (upR A r) q.2) ∨
     (¬ (s 9 = 8 ∨ fl = 4) ∧ mgood kd n ∧ mbrk A r n ∧ q.1 = -1 ∧ MW B w0 (up (up s 18 rs) 0 0) (upR A r) q.2) ∨
     (¬ (s 9 = 8 ∨ fl = 4) ∧ mgood kd n ∧ ¬ mbrk A r n ∧ q.1 = s 9 ∧ ∃ pc us, MW B w0 (up (up (up (up s 18 rs) 0 0) 9 (s 9 + 1)) 15 0) (upPU (upA (upA (upR A r) 10 (s 9) kd) 11 (s 9) n) pc us) q.2 ∧ PU A (s 9) n r pc us))) := by
  unfold f_Mod_match
  refine k_xo h ?_
  refine m_fillRow hI (MWn h) (fun w1 rs1 r1 h1 hr1 he1 b1 b2 => ?_)
  refine OK.call (m_match_L7 hI _ _ rs1 r1 w1 h1 (by decide) (by decide) (by decide) hr1 he1 b1 b2 (fun g g0 g1 => by grind)) (fun q ⟨rs, r, h2, hF⟩ => ?_)
  generalize hfl : q.2.1 = fl at hF ⊢
  generalize hw2 : q.2.2 = w2 at h2 ⊢
  have fin : (s 9 = 8 ∨ fl = 4) → ∀ w', MW B w0 (up (up s 18 rs) 0 1) (upR A r) w' → _ := fun c w' hw => (⟨fl, rs, r, hF, Or.inl ⟨c, hw⟩⟩ : ∃ fl rs r, FL s A n fl rs r ∧
    (((s 9 = 8 ∨ fl = 4) ∧ MW B w0 (up (up s 18 rs) 0 1) (upR A r) w') ∨
     (¬ (s 9 = 8 ∨ fl = 4) ∧ ¬ mgood kd n ∧ MW B w0 (up (up s 18 rs) 0 2) (upR A r) w') ∨
     (¬ (s 9 = 8 ∨ fl = 4) ∧ mgood kd n ∧ mbrk A r n ∧ (0 : Int32) = -1 ∧ MW B w0 (up (up s 18 rs) 0 0) (upR A r) w') ∨
     (¬ (s 9 = 8 ∨ fl = 4) ∧ mgood kd n ∧ ¬ mbrk A r n ∧ 0 = s 9 ∧ ∃ pc us, MW B w0 (up (up (up (up s 18 rs) 0 0) 9 (s 9 + 1)) 15 0) (upPU (upA (upA (upR A r) 10 (s 9) kd) 11 (s 9) n) pc us) w' ∧ PU A (s 9) n r pc us)))
  repeat' first
    | intro _
    | with_reducible refine OK.J1 ?_
    | with_reducible refine OK.J2 ?_
    | with_reducible refine OK.J3 ?_
    | with_reducible refine OK.ifN (by decide) ?_
    | with_reducible refine OK.ifP (by decide) ?_
    | with_reducible refine OK.ifP (by exact rfl) ?_
    | with_reducible refine OK.ifN (fun z => absurd (show (1 : Int32) = 0 from z) (by decide)) ?_
    | with_reducible refine OK.ite (fun _ => ?_) (fun _ => ?_)
    | with_reducible refine k_gIa (by assumption) (by decide) ?_
    | with_reducible refine k_pF2 (by assumption) (by decide) ?_
    | with_reducible refine k_gIc (by assumption) (by decide) (by decide) (by decide) ?_
    | with_reducible refine k_gIb (by assumption) (by decide) (by decide) ?_
    | with_reducible refine k_aIR (by assumption) (by decide) (by decide) (by decide) (by grind) (by grind [mln]) ?_
    | with_reducible refine k_aIr (by assumption) (by grind) (by grind) ?_
    | with_reducible refine k_xo (by assumption) ?_
    | with_reducible refine k_gI (by assumption) (by decide) ?_
    | with_reducible refine k_gR (by assumption) (by decide) ?_
    | with_reducible refine k_pF (by assumption) (by decide) ?_
    | with_reducible refine k_aI (by assumption) (by decide) (by decide) (by grind) (by grind [mln]) ?_
    | with_reducible refine k_sI (by assumption) (by decide) (by decide) (by grind) (by grind [mln]) ?_
    | with_reducible refine m_isIn ?_ ?_
  all_goals first
    | exact OK.ret (fin (Or.inl (by assumption)) _ (by assumption))
    | exact OK.ret (fin (Or.inr (by assumption)) _ (by assumption))
    | (rename_i c1 c2 w' hw
       exact OK.ret ⟨fl, rs, r, hF, Or.inr (Or.inl ⟨fun z => z.elim c1 c2, by simp only [mgood]; grind, hw⟩)⟩)
    | skip
  all_goals
    rename_i c1 c2 w' hw
    have hg : mgood kd n := by simp only [mgood]; grind
    exact (m_match_t hI hw hF hg c1 c2).mono (fun q hq => ⟨fl, rs, r, hF, Or.inr (Or.inr (hq.elim (fun z => Or.inl ⟨fun y => y.elim c1 c2, hg, z.1, z.2.1, z.2.2⟩) (fun z => Or.inr ⟨fun y => y.elim c1 c2, hg, z.1, z.2.1, z.2.2⟩)))⟩)
end MPa
