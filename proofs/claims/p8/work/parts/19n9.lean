/-! the class: want, clear, pixel, reserve, apart -/
section CP9
variable {B : Nat} {w0 : Mp} {T K : Nat → Nat} {V : Nat → Nat → Int32} {R : Nat → Nat → Option Nat} {I : Nat → Int32 → Int32} {O : Nat → Int32 → Option Nat} {N : Nat → Int32} {w : Mp} {sz : Nat}
theorem CI_pl3 {V' : Nat → Nat → Int32} (hC : CI B T K V R O N) (h : ∀ a j, a ≠ B + 3 → V' a j = V a j) (hW : 0 ≤ V' (B + 3) 1 ∧ V' (B + 3) 1 ≤ 8) : CI B T K V' R O N := by
  have t3 := hC.1.1.2.2.2.1
  refine CI_V hC (fun a j ta _ => h a j ?_) (fun a ta => h a 0 ?_) (h B 1 (by omega)) (h B 3 (by omega)) hW
  · intro e; rw [e, t3] at ta; omega
  · intro e; rw [e, t3] at ta; omega
theorem n_want {x : Int32} (h : CW B w0 T V R I O N w) (hC : CI B T K V R O N) : OK (f_LM_want w sz B x) (fun q => (¬ V (B + 3) 1 < 8 ∧ q = (.inr 0, w, sz + 1)) ∨ (V (B + 3) 1 < 8 ∧ ¬ (1 ≤ x ∧ x ≤ 100) ∧ q = (.inr 1, w, sz + 1)) ∨ (V (B + 3) 1 < 8 ∧ 1 ≤ x ∧ x ≤ 100 ∧ q.1 = .inl (V (B + 3) 1 + 1) ∧ q.2.2 = sz ∧ ∃ V', CW B w0 T V' R (va_up I (B + 4) (fun z => if z = V (B + 3) 1 then x else I (B + 4) z)) O N q.2.1 ∧ V' (B + 3) 1 = V (B + 3) 1 + 1 ∧ (∀ a j, a ≠ B + 3 → V' a j = V a j) ∧ CI B T K V' R O N)) := by
  obtain ⟨⟨t0, t1, t2, t3, t4, t5, t6, t10⟩, ⟨m1, m2, m4, m5, m6, m10⟩, ⟨r0, r2, r4, r5, p0, p3, p4⟩, -, -⟩ := hC.1
  have c7 := hC.2.2.2.2.2.2
  unfold f_LM_want
  refine c_gRs h t0 r4 (by decide) (c_gI h t3 (by decide) (OK.ite (fun c => ?_) (fun c => OK.ret (Or.inl ⟨c, rfl⟩))))
  refine n_isWithin (fun a1 a2 => OK.ifN (by decide) ?_) (fun d => OK.ifP rfl (OK.ret (Or.inr (Or.inl ⟨c, d, rfl⟩))))
  refine c_gRs h t0 r4 (by decide) (c_xo h t3 (by decide) (n_addWanted h hC.1 c7.1 c (fun w' V' h' e hv => ?_)))
  refine c_gRs h' t0 r4 (by decide) (c_gI h' t3 (by decide) (OK.ret (Or.inr (Or.inr ⟨c, a1, a2, by rw [e], rfl, V', h', e, hv, CI_pl3 hC hv ?_⟩))))
  rw [e]
  constructor <;> lia
theorem n_clear (h : CW B w0 T V R I O N w) (hC : CI B T K V R O N) : OK (f_LM_clear w B) (fun q => q.1 = V (B + 3) 1 ∧ ∃ V', CW B w0 T V' R I O N q.2 ∧ V' (B + 3) 1 = 0 ∧ (∀ a j, a ≠ B + 3 → V' a j = V a j) ∧ CI B T K V' R O N) := by
  obtain ⟨⟨t0, t1, t2, t3, t4, t5, t6, t10⟩, ⟨m1, m2, m4, m5, m6, m10⟩, ⟨r0, r2, r4, r5, p0, p3, p4⟩, -, -⟩ := hC.1
  unfold f_LM_clear
  refine c_gRs h t0 r4 (by decide) (c_gI h t3 (by decide) (c_gRs h t0 r4 (by decide) (c_xo h t3 (by decide) (n_dropWanted h t3 (fun w' V' h' e hv => OK.ret ⟨rfl, V', h', e, hv, CI_pl3 hC hv ?_⟩)))))
  rw [e]
  decide
theorem n_pixel {i x y v : Int32} (h : CW B w0 T V R I O N w) (hC : CI B T K V R O N) : OK (f_LM_pixel w sz B i x y v) (fun q =>
    (¬ (0 ≤ i ∧ i < V B 1 ∧ hld V (la (O (B + 1)) i) x y) ∧ q = (.inr 2, w, sz + 1)) ∨
    ((0 ≤ i ∧ i < V B 1 ∧ hld V (la (O (B + 1)) i) x y) ∧ ¬ (0 ≤ v ∧ v ≤ 255) ∧ q = (.inr 1, w, sz + 1)) ∨
    ((0 ≤ i ∧ i < V B 1 ∧ hld V (la (O (B + 1)) i) x y) ∧ (0 ≤ v ∧ v ≤ 255) ∧ ∃ g, R (la (O (B + 1)) i) 5 = some g ∧ q.1 = .inl (if I g (y * V (la (O (B + 1)) i) 3 + x) = v then 0 else 1) ∧ q.2.2 = sz ∧ CW B w0 T V R (va_up I g (fun z => if z = y * V (la (O (B + 1)) i) 3 + x then v else I g z)) O N q.2.1)) := by
  have t0 := hC.1.1.1
  unfold f_LM_pixel
  refine c_xo h t0 (by decide) (n_leafOrNull h hC (fun a i0 i1 ea ta va => OK.ifN sne ?_) (fun c => OK.ifP rfl (OK.ret (Or.inl ⟨fun z => c ⟨z.1, z.2.1⟩, rfl⟩))))
  rw [la_eq ea]
  obtain ⟨l1, l2, g, l3, l4, l5, l6⟩ := hC.2.1 a ta
  refine c_xo h ta (by decide) (n_holds h ta (fun c => OK.ifN (by decide) ?_) (fun c => OK.ifP rfl (OK.ret (Or.inl ⟨fun z => c z.2.2, rfl⟩))))
  refine n_isWithin (fun a1 a2 => OK.ifN (by decide) ?_) (fun d => OK.ifP rfl (OK.ret (Or.inr (Or.inl ⟨⟨i0, i1, c⟩, d, rfl⟩))))
  refine c_xo h ta (by decide) (n_paint h ta c l1.2 l2.2 l3 l4 l5 (fun w' h' => ?_))
  refine OK.ifP (bool_01 ?_) (OK.ret (Or.inr (Or.inr ⟨⟨i0, i1, c⟩, ⟨a1, a2⟩, g, l3, rfl, rfl, h'⟩)))
  by_cases e : I g (y * V a 3 + x) = v
  · exact Or.inl (if_pos e)
  · exact Or.inr (if_neg e)
theorem n_reserve {i o : Int32} (h : CW B w0 T V R I O N w) (hC : CI B T K V R O N) : OK (f_LM_reserve w sz B i o) (fun q =>
    (¬ (0 ≤ i ∧ i < V B 1) ∧ q = (.inr 2, w, sz + 1)) ∨
    ((0 ≤ i ∧ i < V B 1) ∧ V (la (O (B + 1)) i) 7 ≠ 0 ∧ q = (.inr 0, w, sz + 1)) ∨
    ((0 ≤ i ∧ i < V B 1) ∧ V (la (O (B + 1)) i) 7 = 0 ∧ ¬ (0 ≤ o ∧ o ≤ 1000) ∧ q = (.inr 1, w, sz + 1)) ∨
    ((0 ≤ i ∧ i < V B 1) ∧ V (la (O (B + 1)) i) 7 = 0 ∧ (0 ≤ o ∧ o ≤ 1000) ∧ q.1 = .inl (if V (la (O (B + 1)) i) 6 = o then 0 else 1) ∧ q.2.2 = sz ∧ ∃ V', CW B w0 T V' R I O N q.2.1 ∧ CI B T K V' R O N ∧ V' (la (O (B + 1)) i) 6 = o ∧ (∀ a j, (a ≠ la (O (B + 1)) i ∨ j ≠ 6) → (a ≠ B + 3 ∨ j ≠ 2) → V' a j = V a j))) := by
  obtain ⟨⟨t0, t1, t2, t3, t4, t5, t6, t10⟩, ⟨m1, m2, m4, m5, m6, m10⟩, ⟨r0, r2, r4, r5, p0, p3, p4⟩, -, -⟩ := hC.1
  unfold f_LM_reserve
  refine c_xo h t0 (by decide) (n_leafOrNull h hC (fun a i0 i1 ea ta va => OK.ifN sne ?_) (fun c => OK.ifP rfl (OK.ret (Or.inl ⟨c, rfl⟩))))
  rw [la_eq ea]
  refine c_gI h ta (by decide) (OK.ite (fun c => ?_) (fun c => OK.ret (Or.inr (Or.inl ⟨⟨i0, i1⟩, c, rfl⟩))))
  refine n_isWithin (fun a1 a2 => OK.ifN (by decide) ?_) (fun d => OK.ifP rfl (OK.ret (Or.inr (Or.inr (Or.inl ⟨⟨i0, i1⟩, c, d, rfl⟩)))))
  refine c_gI h ta (by decide) (OK.J1 ?_)
  have a3 : a ≠ B + 3 := fun e => by rw [e, t3] at ta; omega
  have go : ∀ x, (x = 0 ∨ x = 1) → x = (if V a 6 = o then 0 else 1) → OK ((pF w (some a) 1 6 (.int o)).bind fun w_8 => (gR w_8 (some B) 0 4).bind fun v_9 => (xo w_8 v_9 4).bind fun b_11 => (f_Plan_forgetPlan w_8 b_11).bind fun q_10 => if vp_nar .boolean x = x then some (.inl x, q_10.2, sz) else none) (fun q : (Int32 ⊕ Nat) × Mp × Nat => q.1 = .inl (if V a 6 = o then 0 else 1) ∧ q.2.2 = sz ∧ ∃ V', CW B w0 T V' R I O N q.2.1 ∧ CI B T K V' R O N ∧ V' a 6 = o ∧ (∀ b j, (b ≠ a ∨ j ≠ 6) → (b ≠ B + 3 ∨ j ≠ 2) → V' b j = V b j)) := fun x hx ex => by
    refine c_pI h ta (by decide) (fun w1 h1 => c_gRs h1 t0 r4 (by decide) (c_xo h1 t3 (by decide) (n_forget h1 t3 (fun w2 h2 => OK.ifP (bool_01 hx) (OK.ret ⟨by rw [ex], rfl, _, h2, CI_up (CI_up hC (Or.inl ⟨ta, by decide⟩)) (Or.inr (Or.inr ⟨rfl, by decide⟩)), ?_, fun b j hb hb2 => ?_⟩)))))
    · rw [vupV (Or.inl a3), vupVs]
    · rw [vupV hb2, vupV hb]
  refine OK.ite (fun e => (go 0 (Or.inl rfl) (by rw [if_pos e])).mono (fun q hq => Or.inr (Or.inr (Or.inr ⟨⟨i0, i1⟩, c, ⟨a1, a2⟩, hq⟩)))) (fun e => (go 1 (Or.inr rfl) (by rw [if_neg e])).mono (fun q hq => Or.inr (Or.inr (Or.inr ⟨⟨i0, i1⟩, c, ⟨a1, a2⟩, hq⟩))))
/-- the places lo .. hi - 1 of an array of references hold what stood one behind -/
def shr (a0 a : Int32 → Option Nat) (lo hi : Int32) : Prop := ∀ i, a i = if lo ≤ i ∧ i < hi then a0 (i + 1) else a0 i
theorem shr_step {a0 a : Int32 → Option Nat} {lo hi : Int32} (h : shr a0 a lo hi) (h0 : 0 ≤ lo) (h1 : lo ≤ hi) (h2 : hi < 1000) : shr a0 (fun y => if y = hi then a (hi + 1) else a y) lo (hi + 1) := by
  intro i
  show (if i = hi then a (hi + 1) else a i) = _
  by_cases e : i = hi
  · rw [if_pos e, e, if_pos (by lia), h (hi + 1), if_neg (by lia)]
  · rw [if_neg e, h i]
    by_cases c : lo ≤ i ∧ i < hi
    · rw [if_pos c, if_pos (by lia)]
    · rw [if_neg c, if_neg (by lia)]
theorem n2_10 {b : Nat} {c d : Int32 → Option Nat} : va_up (va_up O b c) b d = va_up O b d := by
  funext z
  by_cases ez : z = b
  · rw [ez, vup_s, vup_s]
  · rw [vup_n ez, vup_n ez, vup_n ez]
theorem n_apart_L {f : Int32} (hC : CI B T K V R O N) (f0 : 0 ≤ f) (f1 : f < V B 3) : ∀ (n : Nat) (x : Int32) (c : Int32 → Option Nat) (w : Mp), CW B w0 T V R I (va_up O (B + 2) c) N w → f ≤ x → x ≤ V B 3 - 1 → (V B 3 - 1 - x).toInt < n → shr (O (B + 2)) c f x → OK (f_LM_apart_L27 B n x w) (fun q => ∃ c, CW B w0 T V R I (va_up O (B + 2) c) N q.2.2 ∧ shr (O (B + 2)) c f (V B 3 - 1)) := by
  obtain ⟨⟨t0, t1, t2, t3, t4, t5, t6, t10⟩, ⟨m1, m2, m4, m5, m6, m10⟩, ⟨r0, r2, r4, r5, p0, p3, p4⟩, -, -⟩ := hC.1
  have c6 := hC.2.2.2.2.2.1
  intro n
  induction n with
  | zero => intro x c w _ b0 b1 hn; exact (fu_zero (by clear hn c6; lia) b1 hn).elim
  | succ n ih =>
    intro x c w h b0 b1 hn hs
    rw [f_LM_apart_L27]
    refine c_gI h t0 (by decide) (OK.ite (fun d => ?_) (fun d => ?_))
    · have e : x = V B 3 - 1 := by clear hn c6 ih hs; lia
      rw [e] at hs
      exact OK.ret ⟨c, h, hs⟩
    · have c61 := c6.1
      have y : 0 ≤ x ∧ x < V B 3 - 1 ∧ 0 ≤ x + 1 ∧ x + 1 < V B 3 ∧ x + 1 < 8 ∧ x < 8 ∧ x + 1 ≤ V B 3 - 1 := by clear hn c6 ih hs; refine ⟨by lia, by lia, by lia, by lia, by lia, by lia, by lia⟩
      have fs := fu_step y.1 y.2.1 hn
      obtain ⟨b, eb, tb⟩ := c6.2 (x + 1) y.2.2.1 y.2.2.2.1
      have ec : c (x + 1) = some b := by rw [hs (x + 1), if_neg (by clear hn c6 ih hs fs; lia)]; exact eb
      have ec' : va_up O (B + 2) c (B + 2) (x + 1) = some b := by rw [vup_s]; exact ec
      refine c_gRs h t0 r2 (by decide) (c_gRs h t0 r2 (by decide) (c_aRs h t2 (by decide) y.2.2.1 (by rw [m2]; exact y.2.2.2.2.1) ec' (c_sR h t2 (by decide) y.1 (by rw [m2]; exact y.2.2.2.2.2.1) (fun z hz => by cases hz; exact tb) (fun w1 h1 => ?_))))
      rw [n2_10, vup_s, ← ec] at h1
      exact ih _ _ w1 h1 (by clear hn c6 ih hs fs; lia) y.2.2.2.2.2.2 fs (shr_step hs f0 b0 (by clear hn c6 ih hs fs; lia))
end CP9
