/-! sum, mirrored, seam: the same answers -/
def vse (s : Nat → Int32) (A : Nat → Int32 → Int32) (f k : Int32) : Prop := 0 ≤ f ∧ f < s 9 ∧ 0 ≤ k ∧ k < (if A 10 f = 3 then 2 else A 11 f - 1)
def stp (S : Int32 → Int32) (d : Int32) (p : Int32 × Int32) : Int32 × Int32 := if p.2 ≤ S d then p else (d, S d)
def shA (A : Nat → Int32 → Int32) (f k : Int32) : Int32 := (stp (sumA A f k) 3 (stp (sumA A f k) (-3) (stp (sumA A f k) 2 (stp (sumA A f k) (-2) (stp (sumA A f k) 1 (stp (sumA A f k) (-1) (0, sumA A f k 0))))))).1
section VL2
variable {B : Nat} {w0 w : Mp} {s : Nat → Int32} {A : Nat → Int32 → Int32} {T K : Nat → Nat} {V : Nat → Nat → Int32} {R : Nat → Nat → Option Nat} {I : Nat → Int32 → Int32} {O : Nat → Int32 → Option Nat} {N : Nat → Int32} {sz g : Nat} {β : Type} {P : β → Prop}
theorem c_seam {X : Option Nat → Option β} {e : Option β} {f k : Int32} (h : CW B w0 T V R I O N w) (hC : CI B T K V R O N) (hS : SIM B V R I O N s A) (hn : ¬ vse s A f k → OK e P) (hy : 0 ≤ f → f < s 9 → 0 ≤ k → k < (if A 10 f = 3 then 2 else A 11 f - 1) → T (la (O (B + 2)) f) = 3 → OK (X (some (la (O (B + 2)) f))) P) : OK ((xo w (some B) 0).bind fun b_2 => (f_LM_faceOrNull w b_2 f).bind fun q_1 => if q_1 = none then e else ((xo w q_1 3).bind fun b_4 => (f_Face_hasSeam w b_4 k).bind fun q_3 => if q_3 = 0 then e else X q_1)) P := by
  have fc := hS.2.1.1
  refine c_xo h hC.1.1.1 (by decide) (n_faceOrNull h hC (fun a f0 f1 ea ta => OK.ifN sne ?_) (fun c => OK.ifP rfl (hn (fun z => c ⟨z.1, by rw [fc]; exact z.2.1⟩))))
  obtain ⟨p, pr, hP, pv, p4⟩ := hC.pie ta
  rw [fc] at f1
  obtain ⟨e1, e2, -⟩ := hS.2.1.2 f f0 f1
  rw [fpc_eq ea pr] at e2
  rw [la_eq ea] at e1
  have sme : sms V N a p = (if A 10 f = 3 then 2 else A 11 f - 1) := by unfold sms; rw [e1, e2]
  have n8 := hP.2.1
  refine c_xo h ta (by decide) (n_hasSeam h ta pr hP.1 n8.1 n8.2 (fun k0 k1 => OK.ifN (by decide) ?_) (fun c => OK.ifP rfl (hn (fun z => c ⟨z.2.2.1, by rw [sme]; exact z.2.2.2⟩))))
  rw [sme] at k1
  rw [la_eq ea] at hy
  exact hy f0 f1 k0 k1 ta
theorem u_sum {f k d : Int32} (h : CW B w0 T V R I O N w) (hC : CI B T K V R O N) (hI : MI s A) (hS : SIM B V R I O N s A) : OK (f_LM_sum w sz B f k d) (fun q => (¬ vse s A f k ∧ q = (.inr 2, w, sz + 1)) ∨ (vse s A f k ∧ ¬ (-3 ≤ d ∧ d ≤ 3) ∧ q = (.inr 1, w, sz + 1)) ∨ (vse s A f k ∧ (-3 ≤ d ∧ d ≤ 3) ∧ q = (.inl (sumA A f k d).toInt64, w, sz))) := by
  unfold f_LM_sum
  refine c_seam h hC hS (fun c => OK.ret (Or.inl ⟨c, rfl⟩)) (fun f0 f1 k0 k1 ta => ?_)
  refine n_isWithin (fun a1 a2 => OK.ifN (by decide) ?_) (fun c => OK.ifP rfl (OK.ret (Or.inr (Or.inl ⟨⟨f0, f1, k0, k1⟩, c, rfl⟩))))
  exact c_xo h ta (by decide) (v_diff h hC hI hS f0 f1 k0 k1 a1 a2 (OK.ret (Or.inr (Or.inr ⟨⟨f0, f1, k0, k1⟩, ⟨a1, a2⟩, rfl⟩))))
theorem u_msum {f k d : Int32} (h : MW B w0 s A w) (hI : MI s A) : OK (f_Mod_sum w (B + 11) f k d) (fun q => (¬ vse s A f k ∧ MW B w0 (up s 0 1) A q.2) ∨ (vse s A f k ∧ ¬ (-3 ≤ d ∧ d ≤ 3) ∧ MW B w0 (up s 0 2) A q.2) ∨ (vse s A f k ∧ (-3 ≤ d ∧ d ≤ 3) ∧ q.1 = (sumA A f k d).toInt64 ∧ MW B w0 (up s 0 0) A q.2)) := by
  unfold f_Mod_sum
  refine k_xo h (m_noSeam h hI (fun w1 f0 f1 k0 k1 h1 => OK.ifP rfl ?_) (fun w1 c h1 => OK.ifN ne1 (OK.ret (Or.inl ⟨c, h1⟩))))
  refine m_isIn (fun a1 a2 => ?_) (fun c => ?_)
  · exact OK.J1 (OK.ifN (by decide) (k_pF2 h1 (by decide) (fun w2 h2 => k_gIa h2 (by decide) (OK.ifP (by decide) (k_xo h2 (v_sumAt h2 (MI.sc rfl hI) f0 f1 k0 k1 a1 a2 (OK.ret (Or.inr (Or.inr ⟨⟨f0, f1, k0, k1⟩, ⟨a1, a2⟩, rfl, h2⟩)))))))))
  · exact OK.J1 (OK.ifP rfl (k_pF2 h1 (by decide) (fun w2 h2 => k_gIa h2 (by decide) (OK.ifN (by decide) (OK.ret (Or.inr (Or.inl ⟨⟨f0, f1, k0, k1⟩, c, h2⟩)))))))
theorem st_sum {a b c : Int32} (h : LL B g w sz) : OK (f_Law_sum w sz (some B) a b c (some (B + 28))) (fun q => OK ((xo q.2.1 (some (B + 11)) 5).bind fun b_9 => f_Mod_sum q.2.1 b_9 a b c) (fun q2 => LL B g q2.2 q.2.2 ∧ CM B q.1 q2.2 q2.1)) := by
  obtain ⟨T, K, V, R, I, O, N, a5, a6, a7, s, A, hX⟩ := h.get
  obtain ⟨h1, h2, h3, h4, h5, h6, hM, hI, hO, hS, hQ⟩ := id hX
  unfold f_Law_sum
  refine c_xo h1 h2.1.1.1 (by decide) (OK.call (u_sum h1 h2 hI hS) (fun q hq => ?_))
  rcases hq with ⟨c1, rfl⟩ | ⟨c1, c2, rfl⟩ | ⟨c1, c2, rfl⟩
  · refine sw_r (OK.ifP rfl (OK.ret (k_xo hM <| (u_msum hM hI).mono (fun q2 hq2 => ?_))))
    rcases hq2 with ⟨d1, e⟩ | ⟨d1, -⟩ | ⟨d1, -⟩
    · exact hX.no e (by first | exact ne1 | exact ne2 | exact ne3)
    · exact absurd d1 c1
    · exact absurd d1 c1
  · refine sw_r (OK.ifN (by decide) (OK.ifP rfl (OK.ret (k_xo hM <| (u_msum hM hI).mono (fun q2 hq2 => ?_)))))
    rcases hq2 with ⟨d1, e⟩ | ⟨d1, d2, e⟩ | ⟨d1, d2, -⟩
    · exact absurd c1 d1
    · exact hX.no e (by first | exact ne1 | exact ne2 | exact ne3)
    · exact absurd d2 c2
  · refine sw_l ((CX.of h1 hO).put (fun w2 hx hf => OK.ret (k_xo (hx.mod hM) <| (u_msum (hx.mod hM) hI).mono (fun q2 hq2 => ?_))))
    rcases hq2 with ⟨d1, e⟩ | ⟨d1, d2, e⟩ | ⟨d1, d2, ev, e⟩
    · exact absurd c1 d1
    · exact absurd c2 d2
    · exact ⟨LL.fin hx h2 h3 h4 h5 h6 e (MI.sc rfl hI) (hS.code 0) (hQ.code 0), CM.yes e rfl (by rw [ev]; exact hf)⟩
theorem u_mirrored {f k : Int32} (h : CW B w0 T V R I O N w) (hC : CI B T K V R O N) (hI : MI s A) (hS : SIM B V R I O N s A) : OK (f_LM_mirrored w sz B f k) (fun q => (¬ vse s A f k ∧ q = (.inr 2, w, sz + 1)) ∨ (vse s A f k ∧ q = (.inl (if sumA A f k 0 = 0 then 1 else 0), w, sz))) := by
  unfold f_LM_mirrored
  refine c_seam h hC hS (fun c => OK.ret (Or.inl ⟨c, rfl⟩)) (fun f0 f1 k0 k1 ta => ?_)
  refine c_xo h ta (by decide) (v_diff h hC hI hS f0 f1 k0 k1 (by decide) (by decide) (OK.ite (fun c => OK.ret (Or.inr ⟨⟨f0, f1, k0, k1⟩, by rw [if_pos c]⟩)) (fun c => OK.ret (Or.inr ⟨⟨f0, f1, k0, k1⟩, by rw [if_neg c]⟩))))
theorem u_mmirrored {f k : Int32} (h : MW B w0 s A w) (hI : MI s A) : OK (f_Mod_mirrored w (B + 11) f k) (fun q => (¬ vse s A f k ∧ MW B w0 (up s 0 1) A q.2) ∨ (vse s A f k ∧ q.1 = (if sumA A f k 0 = 0 then 1 else 0) ∧ MW B w0 (up s 0 0) A q.2)) := by
  unfold f_Mod_mirrored
  refine k_xo h (m_noSeam h hI (fun w1 f0 f1 k0 k1 h1 => OK.ifP rfl ?_) (fun w1 c h1 => OK.ifN ne1 (OK.ret (Or.inl ⟨c, h1⟩))))
  exact k_xo h1 (v_sumAt h1 (MI.sc rfl hI) f0 f1 k0 k1 (by decide) (by decide) (OK.ite (fun c => OK.ret (Or.inr ⟨⟨f0, f1, k0, k1⟩, by rw [if_pos c], h1⟩)) (fun c => OK.ret (Or.inr ⟨⟨f0, f1, k0, k1⟩, by rw [if_neg c], h1⟩))))
theorem st_mirrored {a b : Int32} (h : LL B g w sz) : OK (f_Law_mirrored w sz (some B) a b (some (B + 28))) (fun q => OK ((xo q.2.1 (some (B + 11)) 5).bind fun b_9 => f_Mod_mirrored q.2.1 b_9 a b) (fun q2 => LL B g q2.2 q.2.2 ∧ CM B q.1 q2.2 (if q2.1 = 0 then 0 else 1))) := by
  obtain ⟨T, K, V, R, I, O, N, a5, a6, a7, s, A, hX⟩ := h.get
  obtain ⟨h1, h2, h3, h4, h5, h6, hM, hI, hO, hS, hQ⟩ := id hX
  unfold f_Law_mirrored
  refine c_xo h1 h2.1.1.1 (by decide) (OK.call (u_mirrored h1 h2 hI hS) (fun q hq => ?_))
  rcases hq with ⟨c1, rfl⟩ | ⟨c1, rfl⟩
  · refine sw_r (OK.ifP rfl (OK.ret (k_xo hM <| (u_mmirrored hM hI).mono (fun q2 hq2 => ?_))))
    rcases hq2 with ⟨d1, e⟩ | ⟨d1, -⟩
    · exact hX.no e (by first | exact ne1 | exact ne2 | exact ne3)
    · exact absurd d1 c1
  · have fin : ∀ w2 (x : Int64), CX B w T V R I O N w2 → (∃ f, w2 (B + 28) = some (.inr (5, 1, .inr (.inl f))) ∧ f 0 = x) → x = (if sumA A a b 0 = 0 then 1 else 0) → OK (f_Mod_mirrored w2 (B + 11) a b) (fun q2 => LL B g q2.2 sz ∧ CM B 0 q2.2 (if q2.1 = 0 then 0 else 1)) := fun w2 x hx hf ex => by
      refine (u_mmirrored (hx.mod hM) hI).mono (fun q2 hq2 => ?_)
      rcases hq2 with ⟨d1, e⟩ | ⟨-, ev, e⟩
      · exact absurd c1 d1
      · refine ⟨LL.fin hx h2 h3 h4 h5 h6 e (MI.sc rfl hI) (hS.code 0) (hQ.code 0), ?_⟩
        rw [ex] at hf
        rw [ev]
        by_cases z : sumA A a b 0 = 0
        · rw [if_pos z] at hf ⊢
          exact CM.yes e rfl hf
        · rw [if_neg z] at hf ⊢
          exact CM.yes e rfl hf
    refine sw_l (OK.ite (fun z => (CX.of h1 hO).put (fun w2 hx hf => OK.ret (k_xo (hx.mod hM) <| fin w2 _ hx hf ?_))) (fun z => (CX.of h1 hO).put (fun w2 hx hf => OK.ret (k_xo (hx.mod hM) <| fin w2 _ hx hf ?_))))
    · by_cases q : sumA A a b 0 = 0
      · rw [if_pos q] at z; exact absurd z (by decide)
      · rw [if_neg q]
    · by_cases q : sumA A a b 0 = 0
      · rw [if_pos q]
      · rw [if_neg q] at z; exact absurd rfl z
theorem v_sh1 {f k x5 x6 d : Int32} {n : Nat} {x3 x4 : Int32} {Q : Nat × Int32 × Int32 × Int32 → Prop} (h : MW B w0 s A w) (hI : MI s A) (hv : vse s A f k) (hd : (x6 = 0 ∧ d = -x5) ∨ (x6 = 1 ∧ d = x5)) (d0 : -3 ≤ d) (d1 : d ≤ 3) (hp : OK (f_Mod_shiftOf_L23 w (B + 11) f k x5 n (stp (sumA A f k) d (x3, x4)).1 (stp (sumA A f k) d (x3, x4)).2 (x6 + 1)) Q) : OK (f_Mod_shiftOf_L23 w (B + 11) f k x5 (n + 1) x3 x4 x6) Q := by
  have go : OK ((xo w (some (B + 11)) 5).bind fun b_6 => (f_Mod_sumAt w b_6 f k d).bind fun q_5 => xJ1 (fun (x_7 : Int32) => if x4 ≤ q_5 then (f_Mod_shiftOf_L23 w (B + 11) f k x5 n x_7 x4 (x6 + 1)) else (f_Mod_shiftOf_L23 w (B + 11) f k x5 n x_7 q_5 (x6 + 1))) fun J_8 => if x4 ≤ q_5 then (J_8 x3) else (J_8 d)) Q := by
    refine k_xo h (v_sumAt h hI hv.1 hv.2.1 hv.2.2.1 hv.2.2.2 d0 d1 (OK.J1 ?_))
    unfold stp at hp
    by_cases c : x4 ≤ sumA A f k d
    · rw [if_pos c] at hp
      exact OK.ifP c (OK.ifP c hp)
    · rw [if_neg c] at hp
      exact OK.ifN c (OK.ifN c hp)
  rw [f_Mod_shiftOf_L23]
  rcases hd with ⟨rfl, rfl⟩ | ⟨rfl, rfl⟩
  · exact OK.ifN (by decide) (OK.J1 (OK.ifP rfl go))
  · exact OK.ifN (by decide) (OK.J1 (OK.ifN (by decide) go))
theorem v_sh23 {f k x5 : Int32} {m : Nat} {p : Int32 × Int32} (h : MW B w0 s A w) (hI : MI s A) (hv : vse s A f k) (x0 : 1 ≤ x5) (x1 : x5 ≤ 3) : OK (f_Mod_shiftOf_L23 w (B + 11) f k x5 (m + 3) p.1 p.2 0) (fun q => q.2.1 = (stp (sumA A f k) x5 (stp (sumA A f k) (-x5) p)).1 ∧ q.2.2.1 = (stp (sumA A f k) x5 (stp (sumA A f k) (-x5) p)).2) := by
  refine v_sh1 (n := m + 2) h hI hv (Or.inl ⟨rfl, rfl⟩) (by lia) (by lia) ?_
  refine v_sh1 (n := m + 1) (d := x5) h hI hv (Or.inr ⟨by decide, rfl⟩) (by lia) x1 ?_
  rw [f_Mod_shiftOf_L23]
  exact OK.ifP (by decide) (OK.ret ⟨rfl, rfl⟩)
theorem v_shiftOf {F : Int32 → Option β} {f k : Int32} (h : MW B w0 s A w) (hI : MI s A) (hv : vse s A f k) (hp : OK (F (shA A f k)) P) : OK ((f_Mod_shiftOf w (B + 11) f k).bind F) P := by
  refine OK.call (P := fun v => v = shA A f k) ?_ (fun v e => by rw [e]; exact hp)
  unfold f_Mod_shiftOf
  refine k_xo h (v_sumAt h hI hv.1 hv.2.1 hv.2.2.1 hv.2.2.2 (by decide) (by decide) ?_)
  refine OK.call (P := fun q => q.2.1 = shA A f k) ?_ (fun q hq => OK.ret hq)
  show OK (f_Mod_shiftOf_L14 w (B + 11) f k ((99996 + 3) + 1) ((0 : Int32), sumA A f k 0).1 ((0 : Int32), sumA A f k 0).2 1) _
  rw [f_Mod_shiftOf_L14]
  refine OK.ifN (by decide) (OK.call (v_sh23 (m := 99997) (p := (0, sumA A f k 0)) h hI hv (by decide) (by decide)) (fun q ⟨e1, e2⟩ => ?_))
  rw [e1, e2, show (1 : Int32) + 1 = 2 by decide]
  show OK (f_Mod_shiftOf_L14 w (B + 11) f k ((99996 + 2) + 1) _ _ 2) _
  rw [f_Mod_shiftOf_L14]
  refine OK.ifN (by decide) (OK.call (v_sh23 (m := 99997) h hI hv (by decide) (by decide)) (fun q ⟨e1, e2⟩ => ?_))
  rw [e1, e2, show (2 : Int32) + 1 = 3 by decide]
  show OK (f_Mod_shiftOf_L14 w (B + 11) f k ((99996 + 1) + 1) _ _ 3) _
  rw [f_Mod_shiftOf_L14]
  refine OK.ifN (by decide) (OK.call (v_sh23 (m := 99997) h hI hv (by decide) (by decide)) (fun q ⟨e1, e2⟩ => ?_))
  rw [e1, e2, show (3 : Int32) + 1 = 4 by decide]
  show OK (f_Mod_shiftOf_L14 w (B + 11) f k (99996 + 1) _ _ 4) _
  rw [f_Mod_shiftOf_L14]
  exact OK.ifP (by decide) (OK.ret rfl)
theorem v_bs1 {f k i d : Int32} {n : Nat} {p : Int32 × Int32} {Q : Nat × Int32 × Int32 × Int32 → Prop} (h : CW B w0 T V R I O N w) (hC : CI B T K V R O N) (hI : MI s A) (hS : SIM B V R I O N s A) (hv : vse s A f k) (ta : T (la (O (B + 2)) f) = 3) (hd : xtab i = some d) (i7 : i < 7) (d0 : -3 ≤ d) (d1 : d ≤ 3) (hp : OK (f_Face_bestShift_L16 w (la (O (B + 2)) f) k n (stp (sumA A f k) d p).1 (stp (sumA A f k) d p).2 (i + 1)) Q) : OK (f_Face_bestShift_L16 w (la (O (B + 2)) f) k (n + 1) p.1 p.2 i) Q := by
  rw [f_Face_bestShift_L16]
  refine OK.ifN (by lia) (OK.eq hd (c_xo h ta (by decide) (v_diff h hC hI hS hv.1 hv.2.1 hv.2.2.1 hv.2.2.2 d0 d1 ?_)))
  unfold stp at hp
  by_cases c : p.2 ≤ sumA A f k d
  · rw [if_pos c] at hp
    exact OK.ifP c hp
  · rw [if_neg c] at hp
    exact OK.ifN c (OK.eq hd hp)
theorem v_best {F : Int32 → Option β} {f k : Int32} (h : CW B w0 T V R I O N w) (hC : CI B T K V R O N) (hI : MI s A) (hS : SIM B V R I O N s A) (hv : vse s A f k) (ta : T (la (O (B + 2)) f) = 3) (hp : OK (F (shA A f k)) P) : OK ((f_Face_bestShift w (la (O (B + 2)) f) k).bind F) P := by
  refine OK.call (P := fun v => v = shA A f k) ?_ (fun v e => by rw [e]; exact hp)
  unfold f_Face_bestShift
  refine OK.eq (show xtab 0 = some 0 from rfl) (c_xo h ta (by decide) (v_diff h hC hI hS hv.1 hv.2.1 hv.2.2.1 hv.2.2.2 (by decide) (by decide) ?_))
  refine OK.call (P := fun q => q.2.1 = shA A f k) ?_ (fun q hq => OK.ret hq)
  refine v_bs1 (n := 99999) (p := (0, sumA A f k 0)) (d := -1) h hC hI hS hv ta rfl (by decide) (by decide) (by decide) ?_
  rw [show (1 : Int32) + 1 = 2 by decide]
  refine v_bs1 (n := 99998) (d := 1) h hC hI hS hv ta rfl (by decide) (by decide) (by decide) ?_
  rw [show (2 : Int32) + 1 = 3 by decide]
  refine v_bs1 (n := 99997) (d := -2) h hC hI hS hv ta rfl (by decide) (by decide) (by decide) ?_
  rw [show (3 : Int32) + 1 = 4 by decide]
  refine v_bs1 (n := 99996) (d := 2) h hC hI hS hv ta rfl (by decide) (by decide) (by decide) ?_
  rw [show (4 : Int32) + 1 = 5 by decide]
  refine v_bs1 (n := 99995) (d := -3) h hC hI hS hv ta rfl (by decide) (by decide) (by decide) ?_
  rw [show (5 : Int32) + 1 = 6 by decide]
  refine v_bs1 (n := 99994) (d := 3) h hC hI hS hv ta rfl (by decide) (by decide) (by decide) ?_
  rw [show (6 : Int32) + 1 = 7 by decide]
  show OK (f_Face_bestShift_L16 w (la (O (B + 2)) f) k (99993 + 1) _ _ 7) _
  rw [f_Face_bestShift_L16]
  exact OK.ifP (by decide) (OK.ret rfl)
theorem u_seam {f k : Int32} (h : CW B w0 T V R I O N w) (hC : CI B T K V R O N) (hI : MI s A) (hS : SIM B V R I O N s A) : OK (f_LM_seam w sz B f k) (fun q => (¬ vse s A f k ∧ q = (.inr 2, w, sz + 1)) ∨ (vse s A f k ∧ q = (.inl (shA A f k), w, sz))) := by
  unfold f_LM_seam
  refine c_seam h hC hS (fun c => OK.ret (Or.inl ⟨c, rfl⟩)) (fun f0 f1 k0 k1 ta => ?_)
  exact c_xo h ta (by decide) (v_best h hC hI hS ⟨f0, f1, k0, k1⟩ ta (OK.ret (Or.inr ⟨⟨f0, f1, k0, k1⟩, rfl⟩)))
theorem u_mseam {f k : Int32} (h : MW B w0 s A w) (hI : MI s A) : OK (f_Mod_seam w (B + 11) f k) (fun q => (¬ vse s A f k ∧ MW B w0 (up s 0 1) A q.2) ∨ (vse s A f k ∧ q.1 = shA A f k ∧ MW B w0 (up s 0 0) A q.2)) := by
  unfold f_Mod_seam
  refine k_xo h (m_noSeam h hI (fun w1 f0 f1 k0 k1 h1 => OK.ifP rfl ?_) (fun w1 c h1 => OK.ifN ne1 (OK.ret (Or.inl ⟨c, h1⟩))))
  exact k_xo h1 (v_shiftOf h1 (MI.sc rfl hI) ⟨f0, f1, k0, k1⟩ (OK.ret (Or.inr ⟨⟨f0, f1, k0, k1⟩, rfl, h1⟩)))
theorem st_seam {a b : Int32} (h : LL B g w sz) : OK (f_Law_seam w sz (some B) a b (some (B + 28))) (fun q => OK ((xo q.2.1 (some (B + 11)) 5).bind fun b_9 => f_Mod_seam q.2.1 b_9 a b) (fun q2 => LL B g q2.2 q.2.2 ∧ CM B q.1 q2.2 q2.1.toInt64)) := by
  obtain ⟨T, K, V, R, I, O, N, a5, a6, a7, s, A, hX⟩ := h.get
  obtain ⟨h1, h2, h3, h4, h5, h6, hM, hI, hO, hS, hQ⟩ := id hX
  unfold f_Law_seam
  refine c_xo h1 h2.1.1.1 (by decide) (OK.call (u_seam h1 h2 hI hS) (fun q hq => ?_))
  rcases hq with ⟨c1, rfl⟩ | ⟨c1, rfl⟩
  · refine sw_r (OK.ifP rfl (OK.ret (k_xo hM <| (u_mseam hM hI).mono (fun q2 hq2 => ?_))))
    rcases hq2 with ⟨d1, e⟩ | ⟨d1, -⟩
    · exact hX.no e (by first | exact ne1 | exact ne2 | exact ne3)
    · exact absurd d1 c1
  · refine sw_l ((CX.of h1 hO).put (fun w2 hx hf => OK.ret (k_xo (hx.mod hM) <| (u_mseam (hx.mod hM) hI).mono (fun q2 hq2 => ?_))))
    rcases hq2 with ⟨d1, e⟩ | ⟨d1, ev, e⟩
    · exact absurd c1 d1
    · exact ⟨LL.fin hx h2 h3 h4 h5 h6 e (MI.sc rfl hI) (hS.code 0) (hQ.code 0), CM.yes e rfl (by rw [ev]; exact hf)⟩
end VL2
