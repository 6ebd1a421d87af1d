/-! the reference's table, row by row -/
def upL (A : Nat → Int32 → Int32) (le : Int32 → Int32) : Nat → Int32 → Int32 := fun j => if j = 20 then le else A j
theorem upL_20 {A : Nat → Int32 → Int32} {le : Int32 → Int32} {i x : Int32} : upA (upL A le) 20 i x = upL A (fun y => if y = i then x else le y) := by
  funext j
  unfold upA upL
  by_cases h : j = 20
  · subst h; rfl
  · simp only [if_neg h]
theorem upL_id {A : Nat → Int32 → Int32} : upL A (A 20) = A := by
  funext j
  unfold upL
  by_cases h : j = 20
  · rw [if_pos h, h]
  · rw [if_neg h]
theorem of_int {n : Nat} (h : n < 1000) : (Int32.ofNat n).toInt = n := Int32.toInt_ofNat_of_lt (by omega)
theorem wsN_b {s : Nat → Int32} {A : Nat → Int32 → Int32} {i : Int32} (hR : RW s A) : ∀ n : Nat, n ≤ 32 → (∀ j, j < n → 0 ≤ i + Int32.ofNat j ∧ i + Int32.ofNat j < s 18) → 0 ≤ wsN A i n ∧ wsN A i n ≤ 12 * Int32.ofNat n := by
  intro n
  induction n with
  | zero => intro _ _; exact ⟨Int32.le_refl _, show (0 : Int32) ≤ 12 * Int32.ofNat 0 by decide⟩
  | succ n ih =>
    intro hn h
    obtain ⟨a, b⟩ := ih (by omega) (fun j hj => h j (by omega))
    obtain ⟨c, d⟩ := h n (by omega)
    obtain ⟨-, -, y1, y2⟩ := hR.2.2.2 _ c d
    rw [wsN]
    have e : Int32.ofNat (n + 1) = Int32.ofNat n + 1 := (of_add1 (by omega)).symm
    have nb : 0 ≤ Int32.ofNat n ∧ Int32.ofNat n ≤ 32 := by
      have := of_int (n := n) (by omega)
      rw [Int32.le_iff_toInt_le, Int32.le_iff_toInt_le, this, show (0 : Int32).toInt = 0 by decide, show (32 : Int32).toInt = 32 by decide]
      omega
    rw [e]
    generalize Int32.ofNat n = k at *
    clear hR ih h e
    constructor <;> lia
theorem ws_b {s : Nat → Int32} {A : Nat → Int32 → Int32} {i m wd : Int32} (hR : RW s A) (i0 : 0 ≤ i) (i1 : i ≤ 32) (h : mm A (s 18) i wd m) : 0 ≤ ws A i m ∧ ws A i m ≤ 384 := by
  rcases h with ⟨a1, a2, a3, a4, a5⟩ | ⟨a1, -⟩
  · have rr : s 18 ≤ 32 := by obtain ⟨a, b, c, -⟩ := hR; clear a5; lia
    have mb : m.toNatClampNeg ≤ 32 := by
      have z := cl_int (i := m) (by clear hR a5 a2; lia)
      rw [Int32.le_iff_toInt_le, show (32 : Int32).toInt = 32 by decide] at a3
      omega
    have := wsN_b (i := i) hR m.toNatClampNeg mb (fun j hj => by
      have o := of_lt (x := m) (by clear hR a5 a2; lia) hj
      have nx := (a5 _ o.1 o.2).1.1
      refine ⟨?_, nx⟩
      generalize Int32.ofNat j = k at *
      clear hR a5 a2
      lia)
    rw [of_cl (by clear hR a5 a2; lia)] at this
    unfold ws
    clear hR a5 a2
    constructor <;> lia
  · rw [a1]; exact ⟨Int32.le_refl _, show (0 : Int32) ≤ 384 by decide⟩
theorem Best_congr {A A' : Nat → Int32 → Int32} {rs wn i set b b0 : Int32} (h : ∀ f v, 0 ≤ f → f < wn → (lw A' rs i set f v ↔ lw A rs i set f v)) (hb : Best A rs wn i set b b0) : Best A' rs wn i set b b0 := by
  obtain ⟨h1, h2, h3⟩ := hb
  refine ⟨h1.imp id (fun ⟨f, a, c, d, e⟩ => ⟨f, a, c, d, (h f b a c).mpr e⟩), h2, fun f v f0 f1 fb fl => h3 f v f0 f1 fb ((h f v f0 f1).mp fl)⟩
section MPe
variable {B : Nat} {w0 : Mp} {s : Nat → Int32} {A : Nat → Int32 → Int32} {w : Mp} {β : Type} {P : β → Prop}
/-- an entry of the table is as it should be, over those behind it -/
def EN (s : Nat → Int32) (A : Nat → Int32 → Int32) (le : Int32 → Int32) (i x : Int32) : Prop := Best (upL A le) (s 18) (s 13) i x (le (256 * i + x)) (le (256 * (i + 1) + x)) ∧ 0 ≤ le (256 * i + x) ∧ le (256 * i + x) ≤ 1000000
def LAST (s : Nat → Int32) (le : Int32 → Int32) (al : Int32) : Prop := ∀ x, 0 ≤ x → x < al → le (256 * s 18 + x) = if x = 0 then 0 else 1000000
def TB (s : Nat → Int32) (A : Nat → Int32 → Int32) (le : Int32 → Int32) (al i0 : Int32) : Prop := LAST s le al ∧ ∀ i x, i0 ≤ i → i < s 18 → 0 ≤ x → x < al → EN s A le i x
theorem EN_up {le : Int32 → Int32} {i x j y v : Int32} (hR : RW s A) (hW : WB s A) (j0 : 0 ≤ j) (ji : j ≤ i) (i1 : i < s 18) (x0 : 0 ≤ x) (x1 : x < 256) (y0 : 0 ≤ y) (y1 : y < 256) (ne : j < i ∨ x ≠ y) (h : EN s A le i x) : EN s A (fun z => if z = 256 * j + y then v else le z) i x := by
  have rr : s 18 ≤ 32 := by obtain ⟨a, b, c, -⟩ := hR; clear h hW; lia
  have w8 := hW.1
  have n1 : 256 * i + x ≠ 256 * j + y := by
    rcases ne with z | z
    · exact ar_y j0 z (by clear hR hW h; lia) x0 x1 y0 y1
    · by_cases e : j = i
      · rw [e]; clear hR hW h; lia
      · exact ar_y j0 (by clear hR hW h; lia) (by clear hR hW h; lia) x0 x1 y0 y1
  have n2 : 256 * (i + 1) + x ≠ 256 * j + y := ar_y j0 (by clear hR hW h n1; lia) (by clear hR hW h n1; lia) x0 x1 y0 y1
  unfold EN
  dsimp only
  rw [if_neg n1, if_neg n2]
  refine ⟨Best_congr (fun f u f0 f1 => ?_) h.1, h.2⟩
  refine lw_congr rfl rfl rfl rfl (by clear hR hW h n1 n2; lia) (by clear hR hW h n1 n2; lia) rr x0 x1 f0 (by clear hR hW h n1 n2; lia) (fun k z k0 k1 z0 z1 => ?_)
  show (if 256 * k + z = 256 * j + y then v else le (256 * k + z)) = le (256 * k + z)
  rw [if_neg (ar_y j0 (by clear hR hW h n1 n2; lia) k1 z0 z1 y0 y1)]
theorem TB_b {le : Int32 → Int32} {al i0 j x : Int32} (hT : TB s A le al i0) (j0 : i0 ≤ j) (j1 : j ≤ s 18) (x0 : 0 ≤ x) (x1 : x < al) : 0 ≤ le (256 * j + x) ∧ le (256 * j + x) ≤ 1000000 := by
  by_cases e : j = s 18
  · rw [e, hT.1 x x0 x1]
    by_cases e0 : x = 0
    · rw [if_pos e0]; decide
    · rw [if_neg e0]; decide
  · exact (hT.2 j x j0 (by clear hT; lia) x0 x1).2
theorem m_faces_L91 {al i : Int32} (hR : RW s A) (hW : WB s A) (hal : al = (1 : Int32) <<< (s 13 &&& 31)) (a0 : 1 ≤ al) (a1 : al ≤ 256) (i0 : 0 ≤ i) (i1 : i < s 18) : ∀ (n : Nat) (y : Int32) (le : Int32 → Int32) (w : Mp), MW B w0 s (upL A le) w → 0 ≤ y → y ≤ al → (al - y).toInt < n → TB s A le al (i + 1) → (∀ x, 0 ≤ x → x < y → EN s A le i x) → OK (f_Mod_faces_L91 (B + 11) al i n y w) (fun q => ∃ le, MW B w0 s (upL A le) q.2.2 ∧ TB s A le al i) := by
  have rr : s 18 ≤ 32 := by obtain ⟨a, b, c, -⟩ := hR; clear hW; lia
  have w8 := hW.1
  have i2 : 0 ≤ i + 1 ∧ i + 1 ≤ 32 ∧ i + 1 ≤ s 18 ∧ i < i + 1 := by clear hR hW; refine ⟨by lia, by lia, by lia, by lia⟩
  have i32 : i ≤ 32 := by clear hR hW; lia
  intro n
  induction n with
  | zero => intro y le w _ b0 b1 hn; exact (fu_zero b0 b1 hn).elim
  | succ n ih =>
    intro y le w h b0 b1 hn hT hy
    rw [f_Mod_faces_L91]
    refine OK.ite (fun c => ?_) (fun c => ?_)
    · have e : y = al := by clear hR hW hT hy ih hn; lia
      subst e
      refine OK.ret ⟨le, h, hT.1, fun j x j0 j1 x0 x1 => ?_⟩
      by_cases e : j = i
      · rw [e]; exact hy x x0 x1
      · exact hT.2 j x (by clear hR hW hT hy ih hn; lia) j1 x0 x1
    · have y1 : y < al := by clear hR hW hT hy ih hn; lia
      have fs := fu_step b0 y1 hn
      have yb : y < 256 := by clear hR hW hT hy ih hn fs; lia
      have x1 := ar_x i2.1 i2.2.1 b0 yb
      have x2 := ar_x i0 i32 b0 yb
      have bb := TB_b hT (Int32.le_refl _) i2.2.2.1 b0 y1
      refine k_gR h (by decide) (k_aI h (by decide) (by decide) x1.1 x1.2 ?_)
      have hB : Best (upL A le) (s 18) 0 i y (le (256 * (i + 1) + y)) (le (256 * (i + 1) + y)) := ⟨Or.inl rfl, Int32.le_refl _, fun f v f0 f1 => by clear hR hW hT hy ih hn fs x1 x2; lia⟩
      have fz : (s 13 - 0).toInt < (100000 : Nat) := fu_any (by clear hR hW hT hy ih hn fs x1 x2; lia) w8.1
      refine OK.call (m_faces_L117 (x2 := al) h hR hW i0 i1 b0 yb 100000 _ 0 (by decide) w8.1 fz hB) (fun q hq => ?_)
      refine k_gR h (by decide) (k_sI h (by decide) (by decide) x2.1 x2.2 (fun w1 h1 => ?_))
      rw [upL_20] at h1
      generalize q.2.1 = b at hq h1
      have hb0 : 0 ≤ b := by
        rcases hq.1 with z | ⟨f, f0, f1, fb, m, hm, hv⟩
        · rw [z]; exact bb.1
        · rw [hv]
          have f8 : f < 8 := by clear hR hW hT hy ih hn fs x1 x2 hv hm hq; lia
          have wb := ws_b (s := s) (A := upL A le) hR i0 i32 hm
          have t := xr_b b0 yb f0 f8
          have wf := hW.2 f f0 f1
          unfold lwv
          rcases id hm with ⟨a1', a2', a3', a4', -⟩ | ⟨a1', -⟩
          · rw [if_neg (by clear hR hW hT hy ih hn fs x1 x2 hv hm hq a2'; lia)]
            have z := ar_m i0 i32 a1' a3' a2' rr
            have tl : tg y f < al := by
              rw [hal] at y1 ⊢
              exact xr_l w8.1 w8.2 b0 y1 f0 f1
            have lb := TB_b hT (j := i + m) (x := tg y f) (by clear hR hW hT hy ih hn fs x1 x2 hv hm hq a4' wb t tl hB h1 bb; lia) a2' t.1 tl
            have e20 : upL A le 20 = le := rfl
            have e14 : upL A le 14 = A 14 := rfl
            rw [e20, e14]
            rw [e14] at a4'
            generalize le (256 * (i + m) + tg y f) = u at lb ⊢
            generalize ws (upL A le) i m = u2 at a4' wb ⊢
            generalize A 14 f = u3 at a4' wf ⊢
            clear hR hW hT hy ih hn fs x1 x2 hv hm hq hB bb t z tl e20 e14 a2' h1 h
            lia
          · rw [if_pos a1']; decide
      have hb1 : b ≤ 1000000 := by have := hq.2.1; clear hR hW hT hy ih hn fs x1 x2 hq; lia
      refine ih (y + 1) _ w1 h1 (by clear hR hW hT hy ih hn fs x1 x2 hq; lia) (by clear hR hW hT hy ih hn fs x1 x2 hq; lia) fs ⟨fun x x0 x1' => ?_, fun j x j0 j1 x0 x1' => ?_⟩ (fun x x0 x1' => ?_)
      · show (if 256 * s 18 + x = 256 * i + y then b else le (256 * s 18 + x)) = _
        rw [if_neg (ar_y i0 i1 rr x0 (by clear hR hW hT hy ih hn fs x1 x2 hq; lia) b0 yb)]
        exact hT.1 x x0 x1'
      · exact EN_up hR hW i0 (by clear hR hW hT hy ih hn fs x1 x2 hq; lia) j1 x0 (by clear hR hW hT hy ih hn fs x1 x2 hq; lia) b0 yb (Or.inl (by clear hR hW hT hy ih hn fs x1 x2 hq; lia)) (hT.2 j x j0 j1 x0 x1')
      · by_cases e : x = y
        · subst e
          unfold EN
          dsimp only
          rw [if_pos rfl, if_neg (ar_y i0 i2.2.2.2 i2.2.1 x0 yb x0 yb)]
          refine ⟨Best_congr (fun f u f0 f1 => ?_) hq, hb0, hb1⟩
          refine lw_congr rfl rfl rfl rfl i0 i32 rr x0 yb f0 (by clear hR hW hT hy ih hn fs x1 x2 hq; lia) (fun k z k0 k1 z0 z1 => ?_)
          show (if 256 * k + z = 256 * i + x then b else le (256 * k + z)) = le (256 * k + z)
          rw [if_neg (ar_y i0 k0 k1 z0 z1 b0 yb)]
        · exact EN_up hR hW i0 (Int32.le_refl _) i1 x0 (by clear hR hW hT hy ih hn fs x1 x2 hq; lia) b0 yb (Or.inr e) (hy x x0 (by clear hR hW hT hy ih hn fs x1 x2 hq; lia))
end MPe
