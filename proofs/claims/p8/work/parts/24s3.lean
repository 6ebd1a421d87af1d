/-! pixel, reserve, want, clear, on both sides -/
section SM3
variable {B : Nat} {w0 w w' : Mp} {T K : Nat → Nat} {V V' : Nat → Nat → Int32} {R R' : Nat → Nat → Option Nat} {I I' : Nat → Int32 → Int32} {O O' : Nat → Int32 → Option Nat} {N N' : Nat → Int32} {s s' : Nat → Int32} {A A' : Nat → Int32 → Int32} {sz g : Nat} {β : Type} {P : β → Prop}
theorem b01 {c : Prop} [Decidable c] {x : Int64} : OK (if (if c then (0 : Int32) else 1) = 0 then (some (0 : Int64)) else some 1) (fun y => y = if c then 0 else 1) := by
  by_cases h : c
  · simp only [if_pos h]; exact OK.ret rfl
  · simp only [if_neg h]; exact OK.ret rfl
theorem SIM_pixel {i0 xx yy v : Int32} {gg : Nat} (hC : CI B T K V R O N) (hI : MI s A) (hS : SIM B V R I O N s A) (b0 : 0 ≤ i0) (b1 : i0 < s 1) (x0 : 0 ≤ xx) (x1 : xx < A 4 i0) (y0 : 0 ≤ yy) (y1 : yy < A 5 i0) (hg : R (la (O (B + 1)) i0) 5 = some gg) (s1 : s' 1 = s 1) (s9 : s' 9 = s 9) (s13 : s' 13 = s 13) (ak : ∀ k, k < 15 → k ≠ 8 → A' k = A k) (a8 : ∀ z, A' 8 z = if z = 144 * i0 + 12 * yy + xx then v else A 8 z) (v0 : 0 ≤ v) (v1 : v ≤ 255) : SIM B V R (va_up I gg (fun z => if z = yy * V (la (O (B + 1)) i0) 3 + xx then v else I gg z)) O N s' A' := by
  obtain ⟨⟨l1, l2⟩, hSF, ⟨w1, w2⟩, z⟩ := hS
  obtain ⟨⟨t0, t1, t2, t3, t4, t5, t6, t10⟩, -, -, ⟨kw, -, -⟩, -⟩ := hC.1
  obtain ⟨ta0, ea0, va0⟩ := hC.lf b0 (by rw [l1]; exact b1)
  obtain ⟨-, -, g', g1, g2, -, g3⟩ := hC.2.1 _ ta0
  rw [hg] at g1; cases g1
  have ew : V (la (O (B + 1)) i0) 3 = A 4 i0 := (l2 i0 b0 b1).1.2.2.1
  have m0 := hI.2.2.2.1 i0 b0 b1
  have b32 := hI.1.2
  have i32 : i0 < 32 := by clear m0; lia
  have xx12 : xx < 12 := by lia
  have yy12 : yy < 12 := by lia
  refine ⟨⟨by rw [s1]; exact l1, fun i a0 a1 => ?_⟩, ?_, ⟨by rw [s13]; exact w1, fun i a0 a1 => ?_⟩, fun i a0 a1 => ?_, fun zz => ?_⟩
  · rw [s1] at a1
    obtain ⟨ta, ea, va⟩ := hC.lf a0 (by rw [l1]; exact a1)
    obtain ⟨h6, e7⟩ := l2 i a0 a1
    have m1 := hI.2.2.2.1 i a0 a1
    unfold LE
    rw [ak 2 (by decide) (by decide), ak 3 (by decide) (by decide), ak 4 (by decide) (by decide), ak 5 (by decide) (by decide), ak 6 (by decide) (by decide), ak 7 (by decide) (by decide)]
    refine ⟨h6, fun g x y hg' c0 c1 d0 d1 => ?_⟩
    have x12 : x < 12 := by clear m0; lia
    have y12 : y < 12 := by clear m0; lia
    have j32 : i < 32 := by clear m0 m1; lia
    rw [a8]
    by_cases e : i = i0
    · subst e
      rw [hg] at hg'; cases hg'
      rw [vup_s, ew]
      by_cases c : x = xx ∧ y = yy
      · obtain ⟨rfl, rfl⟩ := c
        rw [if_pos rfl, if_pos rfl]
      · rw [if_neg (fun z => c ((px_inj m0.2.2.2.2.1 m0.2.2.2.2.2.1 c0 c1 d0 y12 x0 x1 y0 yy12 z))), if_neg (fun z => c ((px_ref a0 i32 b0 i32 c0 x12 d0 y12 x0 xx12 y0 yy12 z).2))]
        exact e7 gg x y hg c0 c1 d0 d1
    · have ng : g ≠ gg := fun z => by
        obtain ⟨-, -, g', q1, q2, -, q3⟩ := hC.2.1 _ ta
        rw [hg'] at q1; cases q1
        rw [z, g3] at q3
        have : la (O (B + 1)) i0 = la (O (B + 1)) i := by omega
        rw [this, va] at va0
        exact e va0
      rw [vup_n ng, if_neg (fun z => e (px_ref a0 j32 b0 i32 c0 x12 d0 y12 x0 xx12 y0 yy12 z).1)]
      exact e7 g x y hg' c0 c1 d0 d1
  · exact SF_keep hC hI hSF rfl (fun _ _ => ⟨rfl, rfl⟩) (fun _ _ => ⟨rfl, rfl, rfl⟩) rfl (fun _ _ => ⟨rfl, rfl⟩) (fun _ _ _ => rfl) s9 (ak 10 (by decide) (by decide)) (ak 11 (by decide) (by decide)) (ak 12 (by decide) (by decide))
  · rw [s13] at a1
    rw [vup_n (fun z => by rw [← z, kw] at g3; omega), ak 14 (by decide) (by decide)]
    exact w2 i a0 a1
  · rw [s1] at a0
    have q := z.1 i a0 a1
    refine ⟨by rw [ak 6 (by decide) (by decide)]; exact q.1, by rw [ak 7 (by decide) (by decide)]; exact q.2.1, fun x y c0 c1 d0 d1 => ?_⟩
    have p0 : 0 ≤ i := by clear m0; lia
    rw [a8, if_neg (fun z => by have := (px_ref p0 a1 b0 i32 c0 c1 d0 d1 x0 xx12 y0 yy12 z).1; subst this; clear m0 q; lia)]
    exact q.2.2 x y c0 c1 d0 d1
  · rw [a8]
    by_cases e : zz = 144 * i0 + 12 * yy + xx
    · rw [if_pos e]; exact ⟨v0, v1⟩
    · rw [if_neg e]; exact z.2 zz
theorem up_same {f : Int32 → Int32} {i v : Int32} (h : f i = v) : ∀ z, f z = if z = i then v else f z := fun z => by
  by_cases e : z = i
  · rw [if_pos e, e]; exact h
  · rw [if_neg e]
theorem upA_at {k : Nat} {i x : Int32} : ∀ z, upA A k i x k z = if z = i then x else A k z := fun z => by simp [upA]
theorem upA_ne {k j : Nat} {i x : Int32} (h : j ≠ k) : upA A k i x j = A j := by simp [upA, h]
theorem st_pixel {a b c d : Int32} (h : LL B g w sz) : OK (f_Law_pixel w sz (some B) a b c d (some (B + 28))) (fun q => OK ((xo q.2.1 (some (B + 11)) 5).bind fun b_9 => f_Mod_pixel q.2.1 b_9 a b c d) (fun q2 => LL B g q2.2 q.2.2 ∧ CM B q.1 q2.2 (if q2.1 = 0 then 0 else 1))) := by
  obtain ⟨T, K, V, R, I, O, N, a5, a6, a7, s, A, hX⟩ := h.get
  obtain ⟨h1, h2, h3, h4, h5, h6, hM, hI, hO, hS, hQ⟩ := id hX
  have lc := hS.1.1
  have co : (0 ≤ a ∧ a < V B 1 ∧ hld V (la (O (B + 1)) a) b c) ↔ (0 ≤ a ∧ a < s 1 ∧ 0 ≤ b ∧ b < A 4 a ∧ 0 ≤ c ∧ c < A 5 a) := by
    rw [lc]
    constructor
    · rintro ⟨p1, p2, p3, p4, p5, p6⟩
      obtain ⟨⟨-, -, e3, e4, -⟩, -⟩ := hS.1.2 a p1 p2
      exact ⟨p1, p2, p3, by rw [← e3]; exact p4, p5, by rw [← e4]; exact p6⟩
    · rintro ⟨p1, p2, p3, p4, p5, p6⟩
      obtain ⟨⟨-, -, e3, e4, -⟩, -⟩ := hS.1.2 a p1 p2
      exact ⟨p1, p2, p3, by rw [e3]; exact p4, p5, by rw [e4]; exact p6⟩
  unfold f_Law_pixel
  refine c_xo h1 h2.1.1.1 (by decide) (OK.call (n_pixel h1 h2) (fun q hq => ?_))
  rcases hq with ⟨c1, rfl⟩ | ⟨c1, c2, rfl⟩ | ⟨c1, c2, gg, hg, e1, e2, m1⟩
  · refine sw_r (OK.ifP rfl (OK.ret (k_xo hM <| (m_pixel hM hI).mono (fun q2 hq2 => ?_))))
    rcases hq2 with ⟨d1, e⟩ | ⟨d1, -⟩ | ⟨d1, -⟩ | ⟨d1, -⟩
    · exact hX.no e (by first | exact ne1 | exact ne2 | exact ne3)
    · exact absurd (co.mpr d1) c1
    · exact absurd (co.mpr d1) c1
    · exact absurd (co.mpr d1) c1
  · refine sw_r (OK.ifN (by decide) (OK.ifP rfl (OK.ret (k_xo hM <| (m_pixel hM hI).mono (fun q2 hq2 => ?_)))))
    rcases hq2 with ⟨d1, e⟩ | ⟨-, d2, e⟩ | ⟨-, d2, -⟩ | ⟨-, d2, -⟩
    · exact absurd (co.mp c1) d1
    · exact hX.no e (by first | exact ne1 | exact ne2 | exact ne3)
    · exact absurd d2 c2
    · exact absurd d2 c2
  · rw [e1, e2]
    have c1' := co.mp c1
    obtain ⟨p1, p2, p3, p4, p5, p6⟩ := c1'
    obtain ⟨⟨-, -, e3, -⟩, e7⟩ := hS.1.2 a p1 p2
    have ig : I gg (c * V (la (O (B + 1)) a) 3 + b) = A 8 (144 * a + 12 * c + b) := by rw [e3]; exact e7 gg b c hg p3 p4 p5 p6
    rw [ig]
    have fin : ∀ w2, CX B w T V R (va_up I gg (fun z => if z = c * V (la (O (B + 1)) a) 3 + b then d else I gg z)) O N w2 → (∃ f, w2 (B + 28) = some (.inr (5, 1, .inr (.inl f))) ∧ f 0 = if A 8 (144 * a + 12 * c + b) = d then (0 : Int64) else 1) → OK (f_Mod_pixel w2 (B + 11) a b c d) (fun q2 => LL B g q2.2 sz ∧ CM B 0 q2.2 (if q2.1 = 0 then 0 else 1)) := fun w2 hx hf => by
      refine (m_pixel (hx.mod hM) hI).mono (fun q2 hq2 => ?_)
      rcases hq2 with ⟨d1, e⟩ | ⟨-, d2, e⟩ | ⟨-, d2, d3, ev, e⟩ | ⟨-, d2, d3, ev, e⟩
      · exact absurd (co.mp c1) d1
      · exact absurd c2 d2
      · rw [if_pos d3] at hf
        rw [ev, if_pos rfl]
        exact ⟨LL.fin hx h2 h3 h4 h5 h6 e (MI.sc rfl hI) (SIM_pixel h2 hI hS p1 p2 p3 p4 p5 p6 hg rfl rfl rfl (fun _ _ _ => rfl) (up_same d3) c2.1 c2.2) (hQ.ref rfl rfl rfl rfl), CM.yes e rfl hf⟩
      · rw [if_neg d3] at hf
        rw [ev, if_neg (by decide)]
        exact ⟨LL.fin hx h2 h3 h4 h5 h6 e (MI.ar rfl (MI.sc rfl hI)) (SIM_pixel h2 hI hS p1 p2 p3 p4 p5 p6 hg rfl rfl rfl (fun k _ hk => upA_ne hk) upA_at c2.1 c2.2) (hQ.ref rfl rfl rfl rfl), CM.yes e rfl hf⟩
    refine sw_l (OK.ite (fun z => (CX.of m1 hO).put (fun w2 hx hf => OK.ret (k_xo (hx.mod hM) <| fin w2 hx ?_))) (fun z => (CX.of m1 hO).put (fun w2 hx hf => OK.ret (k_xo (hx.mod hM) <| fin w2 hx ?_))))
    · have : A 8 (144 * a + 12 * c + b) = d := by
        by_cases q : A 8 (144 * a + 12 * c + b) = d
        · exact q
        · rw [if_neg q] at z; exact absurd z (by decide)
      rw [if_pos this]; exact hf
    · have : A 8 (144 * a + 12 * c + b) ≠ d := fun q => by rw [if_pos q] at z; exact z rfl
      rw [if_neg this]; exact hf
theorem SIM_res {i0 o : Int32} (hC : CI B T K V R O N) (hI : MI s A) (hS : SIM B V R I O N s A) (b0 : 0 ≤ i0) (b1 : i0 < s 1) (hv : V' (la (O (B + 1)) i0) 6 = o) (hk : ∀ a j, (a ≠ la (O (B + 1)) i0 ∨ j ≠ 6) → (a ≠ B + 3 ∨ j ≠ 2) → V' a j = V a j) (s1 : s' 1 = s 1) (s9 : s' 9 = s 9) (s13 : s' 13 = s 13) (ak : ∀ k, k < 15 → k ≠ 6 → A' k = A k) (a6 : ∀ z, A' 6 z = if z = i0 then o else A 6 z) : SIM B V' R I O N s' A' := by
  obtain ⟨hL, hSF, ⟨w1, w2⟩, z⟩ := hS
  obtain ⟨⟨t0, t1, t2, t3, t4, t5, t6, t10⟩, -, -, ⟨kw, -, -⟩, -⟩ := hC.1
  have l1 := hL.1
  obtain ⟨ta0, ea0, va0⟩ := hC.lf b0 (by rw [l1]; exact b1)
  have n3 : ∀ a, T a ≠ 4 → a ≠ B + 3 := fun a ha e => ha (by rw [e]; exact t3)
  refine ⟨SL_mod hC hL (hk B 1 (Or.inr (by decide)) (Or.inr (by decide))) rfl (fun a j ta j6 j7 => hk a j (Or.inr j6) (Or.inl (n3 a (by rw [ta]; decide)))) (fun _ _ => rfl) (fun _ _ _ => rfl) s1 (ak 2 (by decide) (by decide)) (ak 3 (by decide) (by decide)) (ak 4 (by decide) (by decide)) (ak 5 (by decide) (by decide)) (ak 8 (by decide) (by decide)) (fun i a0 a1 => ?_), SF_keep hC hI hSF (hk B 3 (Or.inr (by decide)) (Or.inr (by decide))) (fun a ta => ⟨hk a 0 (Or.inr (by decide)) (Or.inr (by decide)), rfl⟩) (fun a ta => ⟨hk a 1 (Or.inr (by decide)) (Or.inr (by decide)), hk a 2 (Or.inr (by decide)) (Or.inl (n3 a (by rw [ta]; decide))), rfl⟩) rfl (fun _ _ => ⟨rfl, rfl⟩) (fun _ _ _ => rfl) s9 (ak 10 (by decide) (by decide)) (ak 11 (by decide) (by decide)) (ak 12 (by decide) (by decide)), ⟨by rw [hk (B + 3) 1 (Or.inr (by decide)) (Or.inr (by decide)), s13]; exact w1, fun i a0 a1 => ?_⟩, fun i a0 a1 => ?_, fun zz => by rw [ak 8 (by decide) (by decide)]; exact z.2 zz⟩
  · obtain ⟨ta, ea, va⟩ := hC.lf a0 (by rw [l1]; exact a1)
    obtain ⟨⟨-, -, -, -, e5, e6⟩, -⟩ := hL.2 i a0 a1
    have n7 : V' (la (O (B + 1)) i) 7 = A' 7 i := by rw [hk _ 7 (Or.inr (by decide)) (Or.inr (by decide)), ak 7 (by decide) (by decide)]; exact e6
    by_cases e : i = i0
    · subst e
      exact ⟨by rw [hv, a6, if_pos rfl], n7⟩
    · refine ⟨?_, n7⟩
      rw [hk _ 6 (Or.inl (fun z => e ?_)) (Or.inr (by decide)), a6, if_neg e]
      · exact e5
      · rw [z, va0] at va; exact va.symm
  · rw [s13] at a1
    rw [ak 14 (by decide) (by decide)]; exact w2 i a0 a1
  · rw [s1] at a0
    have q := z.1 i a0 a1
    rw [ak 7 (by decide) (by decide), ak 8 (by decide) (by decide), a6, if_neg (fun e => by subst e; clear q; lia)]
    exact q
theorem st_reserve {a b : Int32} (h : LL B g w sz) : OK (f_Law_reserve w sz (some B) a b (some (B + 28))) (fun q => OK ((xo q.2.1 (some (B + 11)) 5).bind fun b_9 => f_Mod_reserve q.2.1 b_9 a b) (fun q2 => LL B g q2.2 q.2.2 ∧ CM B q.1 q2.2 (if q2.1 = 0 then 0 else 1))) := by
  obtain ⟨T, K, V, R, I, O, N, a5, a6, a7, s, A, hX⟩ := h.get
  obtain ⟨h1, h2, h3, h4, h5, h6, hM, hI, hO, hS, hQ⟩ := id hX
  have lc := hS.1.1
  have c6 : 0 ≤ a → a < s 1 → V (la (O (B + 1)) a) 6 = A 6 a ∧ V (la (O (B + 1)) a) 7 = A 7 a := fun p1 p2 => ⟨(hS.1.2 a p1 p2).1.2.2.2.2.1, (hS.1.2 a p1 p2).1.2.2.2.2.2⟩
  unfold f_Law_reserve
  refine c_xo h1 h2.1.1.1 (by decide) (OK.call (n_reserve h1 h2) (fun q hq => ?_))
  rw [lc] at hq
  rcases hq with ⟨c1, rfl⟩ | ⟨c1, c2, rfl⟩ | ⟨c1, c2, c3, rfl⟩ | ⟨c1, c2, c3, e1, e2, V', m1, m2, m3, m4⟩
  · refine sw_r (OK.ifP rfl (OK.ret (k_xo hM <| (m_reserve hM hI).mono (fun q2 hq2 => ?_))))
    rcases hq2 with ⟨d1, e⟩ | ⟨d1, -⟩ | ⟨d1, -⟩ | ⟨d1, -⟩ | ⟨d1, -⟩
    · exact hX.no e (by first | exact ne1 | exact ne2 | exact ne3)
    · exact absurd d1 c1
    · exact absurd d1 c1
    · exact absurd d1 c1
    · exact absurd d1 c1
  · rw [(c6 c1.1 c1.2).2] at c2
    refine sw_r (OK.ifN (by decide) (OK.ifP rfl (OK.ret (k_xo hM <| (m_reserve hM hI).mono (fun q2 hq2 => ?_)))))
    rcases hq2 with ⟨d1, e⟩ | ⟨-, d2, e⟩ | ⟨-, d2, -⟩ | ⟨-, d2, -⟩ | ⟨-, d2, -⟩
    · exact absurd c1 d1
    · exact hX.no e (by first | exact ne1 | exact ne2 | exact ne3)
    · exact absurd d2 c2
    · exact absurd d2 c2
    · exact absurd d2 c2
  · rw [(c6 c1.1 c1.2).2] at c2
    refine sw_r (OK.ifN (by decide) (OK.ifN (by decide) (OK.ifP rfl (OK.ret (k_xo hM <| (m_reserve hM hI).mono (fun q2 hq2 => ?_))))))
    rcases hq2 with ⟨d1, e⟩ | ⟨-, d2, e⟩ | ⟨-, d2, d3, e⟩ | ⟨-, d2, d3, -⟩ | ⟨-, d2, d3, -⟩
    · exact absurd c1 d1
    · exact absurd c2 d2
    · exact hX.no e (by first | exact ne1 | exact ne2 | exact ne3)
    · exact absurd d3 c3
    · exact absurd d3 c3
  · rw [(c6 c1.1 c1.2).2] at c2
    rw [(c6 c1.1 c1.2).1] at e1
    rw [e1, e2]
    have kq : SX B V' R O s A := SX.keep h2 hS.2.1.1 hQ (fun _ _ => rfl) rfl (fun _ _ => rfl) (fun x tx => ⟨m4 x 3 (Or.inr (by decide)) (Or.inr (by decide)), m4 x 4 (Or.inr (by decide)) (Or.inr (by decide))⟩)
    have fin : ∀ w2, CX B w T V' R I O N w2 → (∃ f, w2 (B + 28) = some (.inr (5, 1, .inr (.inl f))) ∧ f 0 = if A 6 a = b then (0 : Int64) else 1) → OK (f_Mod_reserve w2 (B + 11) a b) (fun q2 => LL B g q2.2 sz ∧ CM B 0 q2.2 (if q2.1 = 0 then 0 else 1)) := fun w2 hx hf => by
      refine (m_reserve (hx.mod hM) hI).mono (fun q2 hq2 => ?_)
      rcases hq2 with ⟨d1, e⟩ | ⟨-, d2, e⟩ | ⟨-, d2, d3, e⟩ | ⟨-, d2, d3, d4, ev, e⟩ | ⟨-, d2, d3, d4, ev, e⟩
      · exact absurd c1 d1
      · exact absurd c2 d2
      · exact absurd c3 d3
      · rw [if_pos d4] at hf
        rw [ev, if_pos rfl]
        exact ⟨LL.fin hx m2 h3 h4 h5 h6 e (MI.sc rfl hI) (SIM_res h2 hI hS c1.1 c1.2 m3 m4 rfl rfl rfl (fun _ _ _ => rfl) (up_same d4)) (kq.ref rfl rfl rfl rfl), CM.yes e rfl hf⟩
      · rw [if_neg d4] at hf
        rw [ev, if_neg (by decide)]
        exact ⟨LL.fin hx m2 h3 h4 h5 h6 e (MI.ar rfl (MI.sc rfl (MI.sc rfl hI))) (SIM_res h2 hI hS c1.1 c1.2 m3 m4 rfl rfl rfl (fun k _ hk => upA_ne hk) upA_at) (kq.ref rfl rfl rfl rfl), CM.yes e rfl hf⟩
    refine sw_l (OK.ite (fun z => (CX.of m1 hO).put (fun w2 hx hf => OK.ret (k_xo (hx.mod hM) <| fin w2 hx ?_))) (fun z => (CX.of m1 hO).put (fun w2 hx hf => OK.ret (k_xo (hx.mod hM) <| fin w2 hx ?_))))
    · have : A 6 a = b := by
        by_cases q : A 6 a = b
        · exact q
        · rw [if_neg q] at z; exact absurd z (by decide)
      rw [if_pos this]; exact hf
    · have : A 6 a ≠ b := fun q => by rw [if_pos q] at z; exact z rfl
      rw [if_neg this]; exact hf
theorem SIM_pl {I' : Nat → Int32 → Int32} (hC : CI B T K V R O N) (hI : MI s A) (hS : SIM B V R I O N s A) (hk : ∀ a j, a ≠ B + 3 → V' a j = V a j) (hi : ∀ g, g ≠ B + 4 → I' g = I g) (s1 : s' 1 = s 1) (s9 : s' 9 = s 9) (ak : ∀ k, k < 14 → A' k = A k) (hw : SW B V' I' s' A') : SIM B V' R I' O N s' A' := by
  obtain ⟨hL, hSF, -, z⟩ := hS
  obtain ⟨⟨t0, t1, t2, t3, t4, t5, t6, t10⟩, -, -, ⟨kw, -, -⟩, -⟩ := hC.1
  have l1 := hL.1
  have n3 : ∀ a, T a ≠ 4 → a ≠ B + 3 := fun a ha e => ha (by rw [e]; exact t3)
  refine ⟨SL_mod hC hL (hk B 1 (by omega)) rfl (fun a j ta j6 j7 => hk a j (n3 a (by rw [ta]; decide))) (fun _ _ => rfl) (fun g tg kg => hi g (fun e => by rw [e, kw] at kg; omega)) s1 (ak 2 (by decide)) (ak 3 (by decide)) (ak 4 (by decide)) (ak 5 (by decide)) (ak 8 (by decide)) (fun i a0 a1 => ?_), SF_keep hC hI hSF (hk B 3 (by omega)) (fun a ta => ⟨hk a 0 (n3 a (by rw [ta]; decide)), rfl⟩) (fun a ta => ⟨hk a 1 (n3 a (by rw [ta]; decide)), hk a 2 (n3 a (by rw [ta]; decide)), rfl⟩) rfl (fun _ _ => ⟨rfl, rfl⟩) (fun _ _ _ => rfl) s9 (ak 10 (by decide)) (ak 11 (by decide)) (ak 12 (by decide)), hw, fun i a0 a1 => ?_, fun zz => by rw [ak 8 (by decide)]; exact z.2 zz⟩
  · obtain ⟨ta, ea, va⟩ := hC.lf a0 (by rw [l1]; exact a1)
    obtain ⟨⟨-, -, -, -, e5, e6⟩, -⟩ := hL.2 i a0 a1
    have na := n3 _ (show T (la (O (B + 1)) i) ≠ 4 by rw [ta]; decide)
    rw [ak 6 (by decide), ak 7 (by decide), hk _ 6 na, hk _ 7 na]
    exact ⟨e5, e6⟩
  · rw [s1] at a0
    rw [ak 6 (by decide), ak 7 (by decide), ak 8 (by decide)]
    exact z.1 i a0 a1
theorem SX_pl (hC : CI B T K V R O N) (hS : SIM B V R I O N s A) (hQ : SX B V R O s A) (hk : ∀ a j, a ≠ B + 3 → V' a j = V a j) : SX B V' R O s A := by
  have t3 := hC.1.1.2.2.2.1
  exact SX.keep hC hS.2.1.1 hQ (fun _ _ => rfl) rfl (fun _ _ => rfl) (fun x tx => ⟨hk x 3 (fun e => by rw [e, t3] at tx; cases tx), hk x 4 (fun e => by rw [e, t3] at tx; cases tx)⟩)
theorem st_want {a : Int32} (h : LL B g w sz) : OK (f_Law_want w sz (some B) a (some (B + 28))) (fun q => OK ((xo q.2.1 (some (B + 11)) 5).bind fun b_9 => f_Mod_want q.2.1 b_9 a) (fun q2 => LL B g q2.2 q.2.2 ∧ CM B q.1 q2.2 q2.1.toInt64)) := by
  obtain ⟨T, K, V, R, I, O, N, a5, a6, a7, s, A, hX⟩ := h.get
  obtain ⟨h1, h2, h3, h4, h5, h6, hM, hI, hO, hS, hQ⟩ := id hX
  have lc := hS.2.2.1.1
  have b8 := hI.2.2.1
  unfold f_Law_want
  refine c_xo h1 h2.1.1.1 (by decide) (OK.call (n_want h1 h2) (fun q hq => ?_))
  rw [lc] at hq
  rcases hq with ⟨c1, rfl⟩ | ⟨c1, c2, rfl⟩ | ⟨c1, c2, c3, e1, e2, V', m1, m2, m3, m4⟩
  · refine sw_r (OK.ifP rfl (OK.ret (k_xo hM <| (m_want hM hI).mono (fun q2 hq2 => ?_))))
    rcases hq2 with ⟨d1, e⟩ | ⟨d1, -⟩ | ⟨d1, -⟩
    · exact hX.no e (by first | exact ne1 | exact ne2 | exact ne3)
    · exact absurd d1 (by lia)
    · exact absurd d1 (by lia)
  · refine sw_r (OK.ifN (by decide) (OK.ifP rfl (OK.ret (k_xo hM <| (m_want hM hI).mono (fun q2 hq2 => ?_)))))
    rcases hq2 with ⟨d1, e⟩ | ⟨d1, d2, e⟩ | ⟨d1, d2, d3, -⟩
    · exact absurd d1 (by lia)
    · exact hX.no e (by first | exact ne1 | exact ne2 | exact ne3)
    · exact absurd ⟨d2, d3⟩ c2
  · rw [e1, e2]
    refine sw_l ((CX.of m1 hO).put (fun w2 hx hf => OK.ret (k_xo (hx.mod hM) <| (m_want (hx.mod hM) hI).mono (fun q2 hq2 => ?_))))
    rcases hq2 with ⟨d1, e⟩ | ⟨d1, d2, e⟩ | ⟨d1, d2, d3, e, ev⟩
    · exact absurd d1 (by lia)
    · exact absurd ⟨c2, c3⟩ d2
    · refine ⟨LL.fin hx m4 h3 h4 h5 h6 e (MI_want hI d1 c2 c3) (SIM_pl h2 hI hS m3 (fun g hg => vup_n hg) rfl rfl (fun k hk => upA_ne (by omega)) ⟨by rw [m2]; rfl, fun i i0 i1 => ?_⟩) (SX.ref (SX_pl h2 hS hQ m3) rfl rfl rfl rfl), CM.yes e rfl (by rw [ev]; exact hf)⟩
      have i1 : i < s 13 + 1 := i1
      rw [vup_s]
      show (if i = s 13 then a else I (B + 4) i) = (if i = s 13 then a else A 14 i)
      by_cases ei : i = s 13
      · rw [if_pos ei, if_pos ei]
      · rw [if_neg ei, if_neg ei]
        exact hS.2.2.1.2 i i0 (by lia)
theorem st_clear (h : LL B g w sz) : OK (f_LM_clear w B) (fun q => OK ((xo q.2 (some (B + 11)) 5).bind fun b_9 => f_Mod_clear q.2 b_9) (fun q2 => LL B g q2.2 sz ∧ q.1 = q2.1)) := by
  obtain ⟨T, K, V, R, I, O, N, a5, a6, a7, s, A, hX⟩ := h.get
  obtain ⟨h1, h2, h3, h4, h5, h6, hM, hI, hO, hS, hQ⟩ := id hX
  refine (n_clear h1 h2).mono (fun q ⟨e1, V', m1, m2, m3, m4⟩ => ?_)
  have hx := CX.of m1 hO
  refine k_xo (hx.mod hM) <| (m_clear (hx.mod hM)).mono (fun q2 ⟨e, ev⟩ => ⟨LL.fin hx m4 h3 h4 h5 h6 e (MI_clear hI) (SIM_pl h2 hI hS m3 (fun _ _ => rfl) rfl rfl (fun _ _ => rfl) ⟨by rw [m2]; rfl, fun i i0 i1 => ?_⟩) (SX.ref (SX_pl h2 hS hQ m3) rfl rfl rfl rfl), ?_⟩)
  · have i1 : i < 0 := i1
    exact absurd i1 (by lia)
  · rw [e1, ev]; exact hS.2.2.1.1
end SM3
