/-! the reference's table of losses -/
theorem mm_uniq {A : Nat → Int32 → Int32} {rs i wd m m' : Int32} (h : mm A rs i wd m) (h' : mm A rs i wd m') : m = m' := by
  rcases h with ⟨a1, a2, a3, a4, a5⟩ | ⟨a1, k, a2, a3, a4, a5, a6⟩
  · rcases h' with ⟨b1, b2, b3, b4, b5⟩ | ⟨b1, k, b2, b3, b4, b5, b6⟩
    · by_cases c : m < m'
      · have := (b5 m (by lia) c).2
        exact absurd a4 (by lia)
      · by_cases c2 : m' < m
        · have := (a5 m' (by lia) c2).2
          exact absurd b4 (by lia)
        · lia
    · exfalso
      by_cases c : k < m
      · exact b4 (a5 k b2 c).1
      · have := b6 m (by lia) (by lia)
        exact absurd a4 (by lia)
  · rcases h' with ⟨b1, b2, b3, b4, b5⟩ | ⟨b1, k', b2, b3, b4, b5, b6⟩
    · exfalso
      by_cases c : k < m'
      · exact a4 (b5 k a2 c).1
      · have := a6 m' (by lia) (by lia)
        exact absurd b4 (by lia)
    · rw [a1, b1]
theorem ws_congr {A A' : Nat → Int32 → Int32} {i k : Int32} (h4 : A' 4 = A 4) (h19 : A' 19 = A 19) : ws A' i k = ws A i k := by
  unfold ws
  generalize k.toNatClampNeg = n
  induction n with
  | zero => rfl
  | succ n ih => rw [wsN, wsN, ih, h4, h19]
theorem nxt_congr {A A' : Nat → Int32 → Int32} {rs i k : Int32} (h3 : A' 3 = A 3) (h19 : A' 19 = A 19) : nxt A' rs i k = nxt A rs i k := by
  unfold nxt
  rw [h3, h19]
theorem mm_congr {A A' : Nat → Int32 → Int32} {rs i wd m : Int32} (h3 : A' 3 = A 3) (h4 : A' 4 = A 4) (h19 : A' 19 = A 19) : mm A' rs i wd m = mm A rs i wd m := by
  unfold mm
  simp only [ws_congr h4 h19, nxt_congr h3 h19]
def bt (set f : Int32) : Int32 := (set >>> (f &&& 31)) &&& 1
def tg (set f : Int32) : Int32 := set ^^^ ((1 : Int32) <<< (f &&& 31))
def lwv (A : Nat → Int32 → Int32) (i set f m : Int32) : Int32 := if m = 0 then 1000000 else (-(A 14 f) + ws A i m) + A 20 (256 * (i + m) + tg set f)
def lw (A : Nat → Int32 → Int32) (rs i set f v : Int32) : Prop := ∃ m, mm A rs i (A 14 f) m ∧ v = lwv A i set f m
theorem lw_uniq {A : Nat → Int32 → Int32} {rs i set f v v' : Int32} (h : lw A rs i set f v) (h' : lw A rs i set f v') : v = v' := by
  obtain ⟨m, a, b⟩ := h
  obtain ⟨m', a', b'⟩ := h'
  rw [b, b', mm_uniq a a']
theorem ar_x {j x : Int32} (h0 : 0 ≤ j) (h1 : j ≤ 32) (x0 : 0 ≤ x) (x1 : x < 256) : 0 ≤ 256 * j + x ∧ 256 * j + x < 8448 := by
  constructor <;> lia
theorem ar_y {i j x y : Int32} (i0 : 0 ≤ i) (ij : i < j) (h1 : j ≤ 32) (x0 : 0 ≤ x) (x1 : x < 256) (y0 : 0 ≤ y) (y1 : y < 256) : 256 * j + x ≠ 256 * i + y := by
  lia
theorem ar_m {i m rs : Int32} (i0 : 0 ≤ i) (i1 : i ≤ 32) (m0 : 0 < m) (m1 : m ≤ 32) (h : i + m ≤ rs) (r : rs ≤ 32) : i < i + m ∧ 0 ≤ i + m ∧ i + m ≤ 32 := by
  refine ⟨by lia, by lia, by lia⟩
theorem lw_congr {A A' : Nat → Int32 → Int32} {rs i set f v : Int32} (h3 : A' 3 = A 3) (h4 : A' 4 = A 4) (h14 : A' 14 = A 14) (h19 : A' 19 = A 19) (i0 : 0 ≤ i) (i1 : i ≤ 32) (rs1 : rs ≤ 32) (s0 : 0 ≤ set) (s1 : set < 256) (f0 : 0 ≤ f) (f1 : f < 8) (h : ∀ j x, i < j → j ≤ 32 → 0 ≤ x → x < 256 → A' 20 (256 * j + x) = A 20 (256 * j + x)) : lw A' rs i set f v ↔ lw A rs i set f v := by
  have key : ∀ m, mm A rs i (A 14 f) m → lwv A' i set f m = lwv A i set f m := fun m hm => by
    unfold lwv
    rw [h14, ws_congr h4 h19]
    rcases hm with ⟨a1, a2, a3, -⟩ | ⟨a1, -⟩
    · have z := ar_m i0 i1 a1 a3 a2 rs1
      have t := xr_b s0 s1 f0 f1
      rw [show tg set f = set ^^^ ((1 : Int32) <<< (f &&& 31)) from rfl, h (i + m) _ z.1 z.2.2 t.1 t.2]
    · rw [if_pos a1, if_pos a1]
  unfold lw
  rw [h14]
  constructor
  · rintro ⟨m, a, b⟩
    rw [mm_congr h3 h4 h19] at a
    exact ⟨m, a, by rw [b, key m a]⟩
  · rintro ⟨m, a, b⟩
    exact ⟨m, by rw [mm_congr h3 h4 h19]; exact a, by rw [b, key m a]⟩
def Best (A : Nat → Int32 → Int32) (rs wn i set b b0 : Int32) : Prop := (b = b0 ∨ ∃ f, 0 ≤ f ∧ f < wn ∧ bt set f = 1 ∧ lw A rs i set f b) ∧ b ≤ b0 ∧ ∀ f v, 0 ≤ f → f < wn → bt set f = 1 → lw A rs i set f v → b ≤ v
section MPd
variable {B : Nat} {w0 : Mp} {s : Nat → Int32} {A : Nat → Int32 → Int32} {w : Mp} {β : Type} {P : β → Prop}
def WB (s : Nat → Int32) (A : Nat → Int32 → Int32) : Prop := (0 ≤ s 13 ∧ s 13 ≤ 8) ∧ ∀ i, 0 ≤ i → i < s 13 → 1 ≤ A 14 i ∧ A 14 i ≤ 100
theorem m_lossWith {F : Int32 → Option β} {i set f : Int32} (h : MW B w0 s A w) (hR : RW s A) (hW : WB s A) (i0 : 0 ≤ i) (i1 : i < s 18) (s0 : 0 ≤ set) (s1 : set < 256) (f0 : 0 ≤ f) (f1 : f < s 13) (hp : ∀ v, lw A (s 18) i set f v → OK (F v) P) : OK ((f_Mod_lossWith w (B + 11) i set f).bind F) P := by
  refine OK.call (P := fun v => lw A (s 18) i set f v) ?_ (fun v hv => hp v hv)
  have wb := hW.2 f f0 f1
  have f8 : f < 8 := by have := hW.1; clear hR hW; lia
  have rr : s 18 ≤ 32 := by obtain ⟨a, b, c, -⟩ := hR; clear hW; lia
  have i32 : i ≤ 32 := by clear hR hW; lia
  unfold f_Mod_lossWith
  refine k_gR h (by decide) (k_aI h (by decide) (by decide) f0 f8 (k_xo h ?_))
  refine m_manyFrom h hR i0 (by clear hR hW; lia) wb.1 wb.2 (fun m hm => ?_)
  refine OK.ite (fun c => OK.ret ⟨m, hm, by unfold lwv; rw [if_pos c]⟩) (fun c => ?_)
  rcases id hm with ⟨a1, a2, a3, -⟩ | ⟨a1, -⟩
  · have z := ar_m i0 i32 a1 a3 a2 rr
    have t := xr_b s0 s1 f0 f8
    have x := ar_x z.2.1 z.2.2 t.1 t.2
    refine k_gR h (by decide) (k_aI h (by decide) (by decide) f0 f8 (k_xo h ?_))
    refine m_lossFrom h hR i0 i32 (by clear hR hW a2 z; lia) a3 a2 ?_
    refine k_gR h (by decide) (k_aI h (by decide) (by decide) x.1 x.2 ?_)
    exact OK.ret ⟨m, hm, by unfold lwv tg; rw [if_neg c]⟩
  · exact absurd a1 c
theorem m_faces_L117 {x2 i set b0 : Int32} (h : MW B w0 s A w) (hR : RW s A) (hW : WB s A) (i0 : 0 ≤ i) (i1 : i < s 18) (s0 : 0 ≤ set) (s1 : set < 256) : ∀ (n : Nat) (b f : Int32), 0 ≤ f → f ≤ s 13 → (s 13 - f).toInt < n → Best A (s 18) f i set b b0 → OK (f_Mod_faces_L117 w (B + 11) x2 i set n b f) (fun q => Best A (s 18) (s 13) i set q.2.1 b0) := by
  have w8 := hW.1
  intro n
  induction n with
  | zero => intro b f f0 f1 hn; exact (fu_zero f0 f1 hn).elim
  | succ n ih =>
    intro b f f0 f1 hn hb
    rw [f_Mod_faces_L117]
    refine k_gI h (by decide) ?_
    refine OK.ite (fun c => ?_) (fun c => ?_)
    · have e : f = s 13 := by clear hR hW hb ih hn; lia
      rw [e] at hb
      exact OK.ret hb
    · have f1' : f < s 13 := by clear hR hW hb ih hn; lia
      have fs := fu_step f0 f1' hn
      have f2 : 0 ≤ f + 1 ∧ f + 1 ≤ s 13 := by clear hR hW hb ih hn fs; constructor <;> lia
      have lt : ∀ g, g < f + 1 → g < f ∨ g = f := fun g hg => by clear hR hW hb ih hn fs f2; lia
      have sm : ∀ g, g < f → g < f + 1 := fun g hg => by clear hR hW hb ih hn fs f2; lia
      have f3 : f < f + 1 := by clear hR hW hb ih hn fs f2; lia
      obtain ⟨h1, h2, h3⟩ := hb
      have h1' : b = b0 ∨ ∃ g, 0 ≤ g ∧ g < f + 1 ∧ bt set g = 1 ∧ lw A (s 18) i set g b := h1.imp id (fun ⟨g, a, b, c, d⟩ => ⟨g, a, sm g b, c, d⟩)
      refine OK.ite (fun c1 => ?_) (fun c1 => ?_)
      · refine k_xo h (m_lossWith h hR hW i0 i1 s0 s1 f0 f1' (fun v hv => ?_))
        refine OK.ite (fun c2 => ?_) (fun c2 => ?_)
        · refine ih _ _ f2.1 f2.2 fs ⟨h1', h2, fun g u g0 g1 gb gl => ?_⟩
          rcases lt g g1 with z | z
          · exact h3 g u g0 z gb gl
          · subst z
            rw [lw_uniq gl hv]
            exact c2
        · have vb : v ≤ b := by clear hR hW ih hn fs h1 h1' h3 lt sm; lia
          refine ih _ _ f2.1 f2.2 fs ⟨Or.inr ⟨f, f0, f3, c1, hv⟩, by clear hR hW ih hn fs h1 h1' h3 lt sm; lia, fun g u g0 g1 gb gl => ?_⟩
          rcases lt g g1 with z | z
          · have := h3 g u g0 z gb gl
            clear hR hW ih hn fs h1 h1' h3 lt sm
            lia
          · subst z
            rw [lw_uniq gl hv]
            exact Int32.le_refl _
      · refine ih _ _ f2.1 f2.2 fs ⟨h1', h2, fun g u g0 g1 gb gl => ?_⟩
        rcases lt g g1 with z | z
        · exact h3 g u g0 z gb gl
        · subst z
          exact absurd gb c1
end MPd
