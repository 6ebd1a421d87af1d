/-! the reference: faces -/
theorem fd_step {x : Int32} {n : Nat} (h0 : 0 ≤ x) (h : x.toInt + 1 < (n + 1 : Nat)) : (x + (-1)).toInt + 1 < n := by
  have b := Int32.toInt_lt x
  rw [Int32.le_iff_toInt_le, show (0 : Int32).toInt = 0 by decide] at h0
  rw [Int32.toInt_add, show (-1 : Int32).toInt = -1 by decide, Int.bmod_eq_of_le (by omega) (by omega)]
  omega
theorem fd_zero {x : Int32} (h0 : -1 ≤ x) (h : x.toInt + 1 < (0 : Nat)) : False := by
  rw [Int32.le_iff_toInt_le, show (-1 : Int32).toInt = -1 by decide] at h0
  omega
theorem fd_any {x : Int32} (h : x < 1000) : x.toInt + 1 < (100000 : Nat) := by
  rw [Int32.lt_iff_toInt_lt, show (1000 : Int32).toInt = 1000 by decide] at h
  omega
section MPf
variable {B : Nat} {w0 : Mp} {s : Nat → Int32} {A : Nat → Int32 → Int32} {w : Mp} {β : Type} {P : β → Prop}
theorem m_faces_L41 {al : Int32} (r0 : 0 ≤ s 18) (r1 : s 18 ≤ 32) (a1 : al ≤ 256) : ∀ (n : Nat) (x : Int32) (le : Int32 → Int32) (w : Mp), MW B w0 s (upL A le) w → 0 ≤ x → x ≤ al → (al - x).toInt < n → LAST s le x → OK (f_Mod_faces_L41 (B + 11) al n x w) (fun q => ∃ le, MW B w0 s (upL A le) q.2.2 ∧ LAST s le al) := by
  intro n
  induction n with
  | zero => intro x le w _ b0 b1 hn; exact (fu_zero b0 b1 hn).elim
  | succ n ih =>
    intro x le w h b0 b1 hn hl
    rw [f_Mod_faces_L41]
    refine OK.ite (fun c => ?_) (fun c => ?_)
    · have e : x = al := by clear hl ih hn; lia
      rw [e] at hl
      exact OK.ret ⟨le, h, hl⟩
    · have x1 : x < al := by clear hl ih hn; lia
      have fs := fu_step b0 x1 hn
      have xb : x < 256 := by clear hl ih hn fs; lia
      have ix := ar_x r0 r1 b0 xb
      have nb : 0 ≤ x + 1 ∧ x + 1 ≤ al := by clear hl ih hn fs ix; constructor <;> lia
      have st : ∀ v, v = (if x = 0 then 0 else 1000000) → LAST s (fun z => if z = 256 * s 18 + x then v else le z) (x + 1) := fun v hv y y0 y1 => by
        show (if 256 * s 18 + y = 256 * s 18 + x then v else le (256 * s 18 + y)) = _
        by_cases e : y = x
        · rw [if_pos (by rw [e]), hv, e]
        · rw [if_neg (by clear hl ih hn fs ix; lia)]
          exact hl y y0 (by clear hl ih hn fs ix; lia)
      refine k_gR h (by decide) (k_gI h (by decide) ?_)
      refine OK.ite (fun c0 => ?_) (fun c0 => ?_)
      · refine k_sI h (by decide) (by decide) ix.1 ix.2 (fun w1 h1 => ?_)
        rw [upL_20] at h1
        exact ih _ _ w1 h1 nb.1 nb.2 fs (st _ (by rw [if_pos c0]))
      · refine k_sI h (by decide) (by decide) ix.1 ix.2 (fun w1 h1 => ?_)
        rw [upL_20] at h1
        exact ih _ _ w1 h1 nb.1 nb.2 fs (st _ (by rw [if_neg c0]))
theorem m_faces_L84 {al : Int32} (hR : RW s A) (hW : WB s A) (hal : al = (1 : Int32) <<< (s 13 &&& 31)) (a0 : 1 ≤ al) (a1 : al ≤ 256) : ∀ (n : Nat) (i : Int32) (le : Int32 → Int32) (w : Mp), MW B w0 s (upL A le) w → -1 ≤ i → i < s 18 → i.toInt + 1 < n → TB s A le al (i + 1) → OK (f_Mod_faces_L84 (B + 11) al n i w) (fun q => ∃ le, MW B w0 s (upL A le) q.2.2 ∧ TB s A le al 0) := by
  intro n
  induction n with
  | zero => intro i le w _ b0 b1 hn; exact (fd_zero b0 hn).elim
  | succ n ih =>
    intro i le w h b0 b1 hn hT
    rw [f_Mod_faces_L84]
    refine OK.ite (fun c => ?_) (fun c => ?_)
    · have e : i + 1 = 0 := by clear hT ih hn hR hW; lia
      rw [e] at hT
      exact OK.ret ⟨le, h, hT⟩
    · have i0 : 0 ≤ i := by clear hT ih hn hR hW; lia
      have fz : (al - 0).toInt < (100000 : Nat) := fu_any (by clear hT ih hn hR hW; lia) (by clear hT ih hn hR hW; lia)
      refine OK.call (m_faces_L91 hR hW hal a0 a1 i0 b1 100000 0 le w h (by decide) (by clear hT ih hn hR hW; lia) fz hT (fun x x0 x1 => by clear hT ih hn hR hW; lia)) (fun q ⟨le', h', hT'⟩ => ?_)
      have rr : s 18 ≤ 32 := by obtain ⟨a, b, c, -⟩ := hR; clear hW hT hT' ih hn; lia
      exact ih _ le' _ h' (by clear hT ih hn hR hW hT'; lia) (by clear hT ih hn hR hW hT'; lia) (fd_step i0 hn) (by rw [show i + -1 + 1 = i by grind]; exact hT')
/-- in the walk: the face found, or none -/
theorem m_walk_L11 {i set : Int32} (h : MW B w0 s A w) (hR : RW s A) (hW : WB s A) (i0 : 0 ≤ i) (i1 : i < s 18) (s0 : 0 ≤ set) (s1 : set < 256) : ∀ (n : Nat) (f : Int32), 0 ≤ f → f ≤ s 13 → (s 13 - f).toInt < n → (∀ g v, 0 ≤ g → g < f → bt set g = 1 → lw A (s 18) i set g v → v ≠ A 20 (256 * i + set)) → OK (f_Mod_walk_L11 w (B + 11) set i n f) (fun q => (q.2 = s 13 ∧ ∀ g v, 0 ≤ g → g < s 13 → bt set g = 1 → lw A (s 18) i set g v → v ≠ A 20 (256 * i + set)) ∨ (0 ≤ q.2 ∧ q.2 < s 13 ∧ lw A (s 18) i set q.2 (A 20 (256 * i + set)))) := by
  have w8 := hW.1
  have rr : s 18 ≤ 32 := by obtain ⟨a, b, c, -⟩ := hR; clear hW; lia
  have i32 : i ≤ 32 := by clear hR hW; lia
  intro n
  induction n with
  | zero => intro f f0 f1 hn; exact (fu_zero f0 f1 hn).elim
  | succ n ih =>
    intro f f0 f1 hn hg
    rw [f_Mod_walk_L11]
    refine k_gI h (by decide) ?_
    refine OK.ite (fun c => ?_) (fun c => ?_)
    · have e : f = s 13 := by clear hR hW hg ih hn; lia
      rw [e] at hg
      exact OK.ret (Or.inl ⟨e, hg⟩)
    · have f1' : f < s 13 := by clear hR hW hg ih hn; lia
      have fs := fu_step f0 f1' hn
      have f2 : 0 ≤ f + 1 ∧ f + 1 ≤ s 13 := by clear hR hW hg ih hn fs; constructor <;> lia
      have lt : ∀ g, g < f + 1 → g < f ∨ g = f := fun g hg => by clear hR hW ih hn fs f2; lia
      refine OK.ite (fun c1 => ?_) (fun c1 => ?_)
      · refine ih _ f2.1 f2.2 fs (fun g v g0 g1 gb gl => ?_)
        rcases lt g g1 with z | z
        · exact hg g v g0 z gb gl
        · subst z
          rw [show bt set g = (set >>> (g &&& 31)) &&& 1 from rfl, c1] at gb
          exact absurd gb (by decide)
      · refine k_xo h (m_lossWith h hR hW i0 i1 s0 s1 f0 f1' (fun v hv => ?_))
        have ix := ar_x i0 i32 s0 s1
        refine k_gR h (by decide) (k_aI h (by decide) (by decide) ix.1 ix.2 ?_)
        refine OK.ite (fun c2 => ?_) (fun c2 => ?_)
        · rw [c2] at hv
          exact OK.ret (Or.inr ⟨f0, f1', hv⟩)
        · refine ih _ f2.1 f2.2 fs (fun g u g0 g1 gb gl => ?_)
          rcases lt g g1 with z | z
          · exact hg g u g0 z gb gl
          · subst z
            rw [lw_uniq gl hv]
            exact c2
def upW (A : Nat → Int32 → Int32) (pf pm : Int32 → Int32) : Nat → Int32 → Int32 := fun j => if j = 16 then pf else if j = 17 then pm else A j
theorem upW_16 {pf pm : Int32 → Int32} {i x : Int32} : upA (upW A pf pm) 16 i x = upW A (fun y => if y = i then x else pf y) pm := by
  funext j
  unfold upA upW
  by_cases h : j = 16
  · subst h; rfl
  · simp only [if_neg h]
theorem upW_17 {pf pm : Int32 → Int32} {i x : Int32} : upA (upW A pf pm) 17 i x = upW A pf (fun y => if y = i then x else pm y) := by
  funext j
  unfold upA upW
  by_cases h : j = 17
  · subst h; rfl
  · simp only [if_neg h]
theorem upW_id : upW A (A 16) (A 17) = A := by
  funext j
  unfold upW
  by_cases h : j = 16
  · rw [if_pos h, h]
  · rw [if_neg h]
    by_cases h2 : j = 17
    · rw [if_pos h2, h2]
    · rw [if_neg h2]
theorem lw_W {pf pm : Int32 → Int32} {rs i set f v : Int32} : lw (upW A pf pm) rs i set f v ↔ lw A rs i set f v := by
  unfold lw
  rw [show upW A pf pm 14 = A 14 from rfl]
  have k : ∀ m, lwv (upW A pf pm) i set f m = lwv A i set f m := fun m => by
    unfold lwv
    rw [ws_congr (A' := upW A pf pm) (A := A) rfl rfl]
    rfl
  simp only [k, mm_congr (A' := upW A pf pm) (A := A) rfl rfl rfl]
theorem m_walk_L4 {al : Int32} {le : Int32 → Int32} (hR : RW s A) (hW : WB s A) (hal : al = (1 : Int32) <<< (s 13 &&& 31)) (a0 : 1 ≤ al) (a1 : al ≤ 256) (hT : TB s A le al 0) : ∀ (n : Nat) (set i : Int32) (pf pm : Int32 → Int32) (w : Mp), MW B w0 s (upW (upL A le) pf pm) w → 0 ≤ i → i ≤ s 18 → (33 - i).toInt < n → 0 ≤ set → set < al → le (256 * i + set) < 1000000 → OK (f_Mod_walk_L4 (B + 11) n set i w) (fun q => ∃ pf pm, MW B w0 s (upW (upL A le) pf pm) q.2.2.2) := by
  have w8 := hW.1
  have rr : s 18 ≤ 32 := by obtain ⟨a, b, c, -⟩ := hR; clear hW hT; lia
  intro n
  induction n with
  | zero => intro set i pf pm w _ b0 b1 hn; exact (fu_zero b0 (by clear hR hW hT hn; lia) hn).elim
  | succ n ih =>
    intro set i pf pm w h b0 b1 hn s0 s1 hlt
    rw [f_Mod_walk_L4]
    refine OK.ite (fun c => OK.ret ⟨pf, pm, h⟩) (fun c => ?_)
    have i1 : i < s 18 := by
      by_cases e : i = s 18
      · rw [e, hT.1 set s0 s1, if_neg c] at hlt
        exact absurd hlt (by decide)
      · clear hR hW hT ih hn hlt; lia
    have sb : set < 256 := by clear hR hW hT ih hn hlt; lia
    have i32 : i ≤ 32 := by clear hR hW hT ih hn hlt; lia
    have fz : (s 13 - 0).toInt < (100000 : Nat) := fu_any (by clear hR hW hT ih hn hlt; lia) w8.1
    have i33 : i < 33 := by clear hR hW hT ih hn hlt; lia
    refine OK.call (m_walk_L11 (A := upW (upL A le) pf pm) h hR hW b0 i1 s0 sb 100000 0 (by decide) w8.1 fz (fun g v g0 g1 => by clear hR hW hT ih hn hlt; lia)) (fun q hq => ?_)
    refine k_gI h (by decide) ?_
    obtain ⟨⟨bst, bl, bm⟩, lb0, lb1⟩ := hT.2 i set b0 i1 s0 s1
    refine OK.ite (fun c1 => ?_) (fun c1 => ?_)
    · refine ih set (i + 1) pf pm w h (by clear hR hW hT ih hn hlt hq bst bm; lia) (by clear hR hW hT ih hn hlt hq bst bm; lia) (fu_step b0 i33 hn) s0 s1 ?_
      rcases bst with z | ⟨f, f0, f1, fb, fl⟩
      · rw [← z]; exact hlt
      · exfalso
        rcases hq with ⟨-, hq⟩ | ⟨q0, q1, -⟩
        · exact hq f _ f0 f1 fb (lw_W.mpr fl) rfl
        · rw [c1] at q1
          exact absurd q1 (by clear hR hW hT ih hn hlt bm; lia)
    · rcases hq with ⟨z, -⟩ | ⟨f0, f1, fl⟩
      · exact absurd z c1
      generalize q.2 = f at f0 f1 fl ⊢
      have f8 : f < 8 := by clear hR hW hT ih hn hlt bst bm fl; lia
      have row := hR.2.2.2 i b0 i1
      have fl' := lw_W.mp fl
      obtain ⟨m, hm, hv⟩ := fl'
      have hv' : le (256 * i + set) = lwv (upL A le) i set f m := hv
      have wf := hW.2 f f0 f1
      have hm2 : mm (upW (upL A le) (fun y => if y = f then A 19 i else pf y) pm) (s 18) i (A 14 f) m := by
        rw [mm_congr (A' := upW (upL A le) (fun y => if y = f then A 19 i else pf y) pm) (A := upL A le) rfl rfl rfl]
        exact hm
      refine k_gR h (by decide) (k_gR h (by decide) (k_aI h (by decide) (by decide) b0 (by show i < (32 : Int32); clear hR hW hT ih hn hlt bst bm fl hm hm2 hv hv'; lia) ?_))
      refine k_sI h (by decide) (by decide) f0 f8 (fun w1 h1 => ?_)
      rw [upW_16] at h1
      refine k_gR h1 (by decide) (k_gR h1 (by decide) (k_aI h1 (by decide) (by decide) f0 f8 (k_xo h1 ?_)))
      refine m_manyFrom h1 hR b0 (by clear hR hW hT ih hn hlt bst bm fl hm hm2 hv hv'; lia) wf.1 wf.2 (fun m' hm' => ?_)
      have em : m' = m := mm_uniq hm' hm2
      subst em
      refine k_sI h1 (by decide) (by decide) f0 f8 (fun w2 h2 => ?_)
      rw [upW_17] at h2
      refine k_gR h2 (by decide) (k_aI h2 (by decide) (by decide) f0 f8 ?_)
      rw [show upW (upL A le) (fun y => if y = f then upW (upL A le) pf pm 19 i else pf y) (fun y => if y = f then m' else pm y) 17 f = m' from if_pos rfl]
      rcases id hm with ⟨g1, g2, g3, g4, -⟩ | ⟨g1, -⟩
      · have z := ar_m b0 i32 g1 g3 g2 rr
        have t := xr_b s0 sb f0 f8
        have tl : tg set f < al := by
          rw [hal] at s1 ⊢
          exact xr_l w8.1 w8.2 s0 s1 f0 f1
        have lb := TB_b hT (j := i + m') (x := tg set f) z.2.1 g2 t.1 tl
        have wb := ws_b (s := s) (A := upL A le) hR b0 i32 hm
        have ez : ∀ k, (33 - i).toInt < (n + 1 : Nat) → i < k → k ≤ 32 → (33 - k).toInt < n := fun k h1 h2 h3 => by
          rw [Int32.lt_iff_toInt_lt] at h2
          rw [Int32.le_iff_toInt_le, show (32 : Int32).toInt = 32 by decide] at h3
          rw [Int32.le_iff_toInt_le, show (0 : Int32).toInt = 0 by decide] at b0
          rw [Int32.toInt_sub, show (33 : Int32).toInt = 33 by decide, Int.bmod_eq_of_le (by omega) (by omega)] at h1
          rw [Int32.toInt_sub, show (33 : Int32).toInt = 33 by decide, Int.bmod_eq_of_le (by omega) (by omega)]
          omega
        refine ih _ _ _ _ w2 h2 z.2.1 g2 (ez _ hn z.1 z.2.2) t.1 tl ?_
        unfold lwv at hv'
        rw [if_neg (by clear hR hW hT ih hn hlt bst bm fl hm hm2 hv hv' hm' g2 z; lia)] at hv'
        rw [hv'] at hlt
        rw [show upL A le 20 = le from rfl] at hlt
        rw [show (set ^^^ ((1 : Int32) <<< (f &&& 31))) = tg set f from rfl]
        generalize le (256 * (i + m') + tg set f) = u at lb hlt ⊢
        generalize ws (upL A le) i m' = u2 at g4 wb hlt
        have e14 : upL A le 14 = A 14 := rfl
        rw [e14] at hlt g4
        generalize A 14 f = u3 at g4 wf hlt
        clear hR hW hT ih hn bst bm fl hm hm2 hv hv' hm' g2 z t tl e14 h h1 h2
        lia
      · exfalso
        rw [hv'] at hlt
        unfold lwv at hlt
        rw [if_pos g1] at hlt
        exact absurd hlt (by decide)
theorem m_faces {fl : Int32} (h : MW B w0 s A w) (hI : MI s A) : OK (f_Mod_faces w (B + 11) fl) (fun q =>
    (¬ (0 ≤ fl ∧ fl ≤ 3) ∧ MW B w0 (up s 0 1) A q.2) ∨
    (0 ≤ fl ∧ fl ≤ 3 ∧ ∃ rs r le pf pm, RI s A fl rs r ∧ rs = cntf s A fl ∧ 0 ≤ rs ∧ rs ≤ s 1 ∧ TB (up (up s 0 0) 18 rs) (upR A r) le ((1 : Int32) <<< (s 13 &&& 31)) 0 ∧
      ((1000000 ≤ le ((1 : Int32) <<< (s 13 &&& 31) - 1) ∧ q.1 = -1 ∧ MW B w0 (up (up s 0 0) 18 rs) (upL (upR A r) le) q.2) ∨
       (le ((1 : Int32) <<< (s 13 &&& 31) - 1) < 1000000 ∧ q.1 = le ((1 : Int32) <<< (s 13 &&& 31) - 1) ∧ MW B w0 (up (up (up s 0 0) 18 rs) 15 1) (upW (upL (upR A r) le) pf pm) q.2)))) := by
  unfold f_Mod_faces
  refine m_isIn (fun c1 c2 => ?_) (fun c => ?_)
  · refine OK.J1 (OK.ifN (by decide) ?_)
    refine k_pF h (by decide) (fun w1 h1 => ?_)
    refine k_gIa h1 (by decide) (OK.ifP (by decide) ?_)
    have hI1 : MI (up s 0 0) A := MI.sc rfl hI
    refine k_xo h1 (m_fillRow hI1 (MWn h1) (fun w2 rs r h2 hr he b0 b1 => ?_))
    have w8 : 0 ≤ s 13 ∧ s 13 ≤ 8 := hI.2.2.1
    have rr : rs ≤ 32 := by have : rs ≤ s 1 := b1; have := hI.1; clear hI hI1 hr he; lia
    have al := al_b w8.1 w8.2
    refine k_gIc h2 (by decide) (by decide) (by decide) ?_
    generalize ha : (1 : Int32) <<< (s 13 &&& 31) = a at al ⊢
    have fz : (a - 0).toInt < (100000 : Nat) := fu_any (by clear hI hI1 hr he; lia) (by clear hI hI1 hr he; lia)
    rw [← upL_id (A := upR A r)] at h2
    refine OK.call (m_faces_L41 (s := up (up s 0 0) 18 rs) b0 rr al.2 100000 0 _ w2 h2 (by decide) (by clear hI hI1 hr he; lia) fz (fun x x0 x1 => by clear hI hI1 hr he; lia)) (fun q ⟨le, h3, hl⟩ => ?_)
    have hR : RW (up (up s 0 0) 18 rs) (upR A r) := ⟨b0, b1, hI.1.2, fun j j0 j1 => by
      obtain ⟨z1, z2, z3, z4⟩ := hr j j0 j1
      have y := hI.2.2.2.1 (r j) z1 z2
      have s32 := hI.1.2
      exact ⟨z1, by show r j < 32; have z2' : r j < s 1 := z2; clear hI hI1 hr he y z4; lia, y.2.2.2.2.1, y.2.2.2.2.2.1⟩⟩
    have hW : WB (up (up s 0 0) 18 rs) (upR A r) := ⟨w8, hI.2.2.2.2.2.2⟩
    refine k_gIa h3 (by decide) ?_
    refine OK.call (m_faces_L84 (s := up (up s 0 0) 18 rs) hR hW ha.symm al.1 al.2 100000 (rs - 1) le _ h3 (by clear hI hI1 hr he; lia) (by show rs - 1 < rs; clear hI hI1 hr he; lia) (fd_any (by clear hI hI1 hr he; lia)) ⟨hl, fun i x i0 i1 => by
      have i1' : i < rs := i1
      clear hI hI1 hr he hR hW hl
      exact absurd i1' (by lia)⟩) (fun q ⟨le', h4, hT⟩ => ?_)
    have ab : 0 ≤ a - 1 ∧ a - 1 < 8448 ∧ a - 1 < a := by clear hI hI1 hr he hR hW hl hT; refine ⟨by lia, by lia, by lia⟩
    refine k_gR h4 (by decide) (k_aI h4 (by decide) (by decide) ab.1 ab.2.1 ?_)
    show OK (if le' (a - 1) < 1000000 then _ else _) _
    refine OK.ite (fun d => ?_) (fun d => ?_)
    · refine k_xo h4 ?_
      rw [← upW_id (A := upL (upR A r) le')] at h4
      unfold f_Mod_walk
      have d' : le' (256 * 0 + (a - 1)) < 1000000 := by rw [show 256 * 0 + (a - 1) = a - 1 by grind]; exact d
      refine OK.bind (OK.call (m_walk_L4 (s := up (up s 0 0) 18 rs) hR hW ha.symm al.1 al.2 hT 100000 (a - 1) 0 _ _ _ h4 (by decide) b0 (by decide) ab.1 ab.2.2 d') (fun q ⟨pf, pm, h5⟩ => OK.ret ?_))
      refine k_pF h5 (by decide) (fun w6 h6 => ?_)
      refine k_gR h6 (by decide) (k_aI h6 (by decide) (by decide) ab.1 ab.2.1 ?_)
      exact OK.ret (Or.inr ⟨c1, c2, rs, r, le', pf, pm, hr, he, b0, b1, hT, Or.inr ⟨d, rfl, h6⟩⟩)
    · exact OK.ret (Or.inr ⟨c1, c2, rs, r, le', A 16, A 17, hr, he, b0, b1, hT, Or.inl ⟨by clear hI hI1 hr he hR hW hl hT; lia, rfl, h4⟩⟩)
  · refine OK.J1 (OK.ifP rfl ?_)
    refine k_pF h (by decide) (fun w1 h1 => ?_)
    refine k_gIa h1 (by decide) (OK.ifN (by decide) ?_)
    exact OK.ret (Or.inl ⟨c, h1⟩)
end MPf
