/-! the class: apart; new cells -/
section CPa
variable {B : Nat} {w0 : Mp} {T K : Nat → Nat} {V : Nat → Nat → Int32} {R : Nat → Nat → Option Nat} {I : Nat → Int32 → Int32} {O : Nat → Int32 → Option Nat} {N : Nat → Int32} {w : Mp} {sz : Nat}
theorem CI_free {c : Int32 → Option Nat} (hC : CI B T K V R O N) : CI B T K V R (va_up O (B + 10) c) N := by
  obtain ⟨c1, c2, c3, c4, c5, c6, c7⟩ := hC
  refine ⟨c1, c2, c3, fun a ha => ?_, ?_, ?_, c7⟩
  · obtain ⟨p, p1, p2, p3, p4, p5, p6⟩ := c4 a ha
    refine ⟨p, p1, p2, p3, p4, p5, fun k k0 k1 => ?_⟩
    have e : p ≠ B + 10 := fun e => by rw [e, c1.1.2.2.2.2.2.2.2] at p2; exact absurd p2 (by decide)
    rw [vup_n e]
    exact p6 k k0 k1
  · rw [vup_n n10]; exact c5
  · rw [vup_n (by omega)]; exact c6
theorem CI_faces {c : Int32 → Option Nat} {m : Int32} (hC : CI B T K V R O N) (m0 : 0 ≤ m) (m8 : m ≤ 8) (hc : ∀ f, 0 ≤ f → f < m → ∃ a, c f = some a ∧ T a = 3) : CI B T K (va_up V B (up (V B) 3 m)) R (va_up O (B + 2) c) N := by
  obtain ⟨c1, c2, c3, c4, c5, c6, c7⟩ := hC
  have t0 := c1.1.1
  have ne : ∀ a, T a = 1 ∨ T a = 3 → a ≠ B := fun a h e => by rw [e, t0] at h; omega
  refine ⟨c1, fun a ha => LOK_V (vupV (Or.inl (ne a (Or.inl ha)))) (vupV (Or.inl (ne a (Or.inl ha)))) (c2 a ha), c3, fun a ha => ?_, ?_, ?_, ?_⟩
  · obtain ⟨p, p1, p2, p3, p4, p5, p6⟩ := c4 a ha
    unfold FOK
    rw [vupV (Or.inl (ne a (Or.inr ha)))]
    refine ⟨p, p1, p2, p3, p4, p5, fun k k0 k1 => ?_⟩
    have e : p ≠ B + 2 := fun e => by rw [e, c1.1.2.2.1] at p2; exact absurd p2 (by decide)
    rw [vup_n e]
    exact p6 k k0 k1
  · rw [vupV (Or.inr (by decide)), vup_n (by omega)]
    refine ⟨c5.1, fun i i0 i1 => ?_⟩
    obtain ⟨a, e, ta, va⟩ := c5.2 i i0 i1
    exact ⟨a, e, ta, by rw [vupV (Or.inl (ne a (Or.inl ta)))]; exact va⟩
  · rw [vupVs, vup_s]
    exact ⟨⟨m0, m8⟩, hc⟩
  · rw [vupV (Or.inl (by omega))]; exact c7
theorem CI_leaves {c : Int32 → Option Nat} {m : Int32} (hC : CI B T K V R O N) (m0 : 0 ≤ m) (m8 : m ≤ 32) (hc : ∀ f, 0 ≤ f → f < m → ∃ a, c f = some a ∧ T a = 1 ∧ V a 0 = f) : CI B T K (va_up V B (up (V B) 1 m)) R (va_up O (B + 1) c) N := by
  obtain ⟨c1, c2, c3, c4, c5, c6, c7⟩ := hC
  have t0 := c1.1.1
  have ne : ∀ a, T a = 1 ∨ T a = 3 → a ≠ B := fun a h e => by rw [e, t0] at h; omega
  refine ⟨c1, fun a ha => LOK_V (vupV (Or.inl (ne a (Or.inl ha)))) (vupV (Or.inl (ne a (Or.inl ha)))) (c2 a ha), c3, fun a ha => ?_, ?_, ?_, ?_⟩
  · obtain ⟨p, p1, p2, p3, p4, p5, p6⟩ := c4 a ha
    unfold FOK
    rw [vupV (Or.inl (ne a (Or.inr ha)))]
    refine ⟨p, p1, p2, p3, p4, p5, fun k k0 k1 => ?_⟩
    have e : p ≠ B + 1 := fun e => by rw [e, c1.1.2.1] at p2; exact absurd p2 (by decide)
    rw [vup_n e]
    exact p6 k k0 k1
  · rw [vupVs, vup_s]
    refine ⟨⟨m0, m8⟩, fun i i0 i1 => ?_⟩
    obtain ⟨a, e, ta, va⟩ := hc i i0 i1
    exact ⟨a, e, ta, by rw [vupV (Or.inl (ne a (Or.inl ta)))]; exact va⟩
  · rw [vupV (Or.inr (by decide)), vup_n (by omega)]
    exact c6
  · rw [vupV (Or.inl (by omega))]; exact c7
theorem n_apart {f : Int32} (h : CW B w0 T V R I O N w) (hC : CI B T K V R O N) : OK (f_LM_apart w sz B f) (fun q => (¬ (0 ≤ f ∧ f < V B 3) ∧ q = (.inr 2, w, sz + 1)) ∨ (0 ≤ f ∧ f < V B 3 ∧ q.1 = .inl (V B 3 - 1) ∧ q.2.2 = sz ∧ ∃ V1 V' c, MK T R O (fpc B R O f) 0 (N (fpc B R O f)) V V1 ∧ (∀ a j, (a ≠ B ∨ j ≠ 3) → (a ≠ B + 3 ∨ j ≠ 2) → V' a j = V1 a j) ∧ V' B 3 = V B 3 - 1 ∧ (∀ g, 0 ≤ g → g < V B 3 - 1 → c g = if f ≤ g then O (B + 2) (g + 1) else O (B + 2) g) ∧ CW B w0 T V' R I (va_up O (B + 2) c) N q.2.1 ∧ CI B T K V' R (va_up O (B + 2) c) N)) := by
  obtain ⟨⟨t0, t1, t2, t3, t4, t5, t6, t10⟩, ⟨m1, m2, m4, m5, m6, m10⟩, ⟨r0, r2, r4, r5, p0, p3, p4⟩, -, -⟩ := hC.1
  unfold f_LM_apart
  refine c_xo h t0 (by decide) (n_faceOrNull h hC (fun a f0 f1 ea ta => OK.ifN sne ?_) (fun c => OK.ifP rfl (OK.ret (Or.inl ⟨c, rfl⟩))))
  obtain ⟨p, pr, hP, pv, pf4⟩ := hC.pie ta
  rw [fpc_eq ea pr]
  refine c_xo h ta (by decide) (n_mark h ta pr hP (Or.inl rfl) (fun w1 V1 h1 hm => ?_))
  have hC1 := CI_MK hC hm
  have e3 : V1 B 3 = V B 3 := hm.1 B 3 (Or.inr (by decide))
  have c6 := hC.2.2.2.2.2.1
  have b6 := c6.1
  rw [← vup_id (f := O) (k := B + 2)] at h1
  have y : f ≤ V1 B 3 - 1 ∧ 0 ≤ V B 3 - 1 ∧ V B 3 - 1 < 8 ∧ V B 3 - 1 ≤ 8 := by rw [e3]; clear c6 hC hC1; refine ⟨by lia, by lia, by lia, by lia⟩
  have fz : (V1 B 3 - 1 - f).toInt < (100000 : Nat) := by
    rw [e3]
    have z := fu_any (k := V B 3 - 1 - f) (by clear c6 hC hC1; lia) (by clear c6 hC hC1; lia)
    rw [Int32.sub_zero] at z
    exact z
  refine OK.call (n_apart_L hC1 f0 (by rw [e3]; exact f1) 100000 f _ w1 h1 (Int32.le_refl _) y.1 fz (fun i => by rw [if_neg (by clear c6 hC hC1; lia)])) (fun q ⟨c, h2, hs⟩ => ?_)
  rw [e3] at hs
  refine c_gI h2 t0 (by decide) (c_pI h2 t0 (by decide) (fun w3 h3 => ?_))
  rw [e3] at h3
  refine c_gRs h3 t0 r2 (by decide) (c_gI h3 t0 (by decide) ?_)
  rw [vupVs]
  refine c_sR h3 t2 (by decide) y.2.1 (by rw [m2]; exact y.2.2.1) (fun z hz => by cases hz) (fun w4 h4 => ?_)
  rw [n2_10, vup_s] at h4
  refine c_gRs h4 t0 r4 (by decide) (c_xo h4 t3 (by decide) (n_forget h4 t3 (fun w5 h5 => c_gI h5 t0 (by decide) (OK.ret (Or.inr ⟨f0, f1, ?_, rfl, V1, _, _, hm, ?_, ?_, ?_, h5, ?_⟩)))))
  · rw [vupV (Or.inl (by omega)), vupVs]
  · intro b j hb hb2
    rw [vupV hb2, vupV hb]
  · rw [vupV (Or.inl (by omega)), vupVs]
  · intro g g0 g1
    show (if g = V B 3 - 1 then none else c g) = _
    rw [if_neg (by clear c6 hC hC1 hs; lia), hs g]
    by_cases z : f ≤ g
    · rw [if_pos ⟨z, g1⟩, if_pos z]
    · rw [if_neg (fun u => z u.1), if_neg z]
  · refine CI_up (CI_faces hC1 y.2.1 y.2.2.2 (fun g g0 g1 => ?_)) (Or.inr (Or.inr ⟨rfl, by decide⟩))
    show ∃ a, (if g = V B 3 - 1 then none else c g) = some a ∧ T a = 3
    rw [if_neg (by clear c6 hC hC1 hs; lia), hs g]
    by_cases z : f ≤ g
    · rw [if_pos ⟨z, g1⟩]
      exact c6.2 (g + 1) (by clear c6 hC hC1 hs; lia) (by clear c6 hC hC1 hs; lia)
    · rw [if_neg (fun u => z u.1)]
      exact c6.2 g g0 (by clear c6 hC hC1 hs; lia)
theorem CW.newO {z ci : Nat} (h : CW B w0 T V R I O N w) (hz : T z = 10) (hb : B + 29 ≤ z) (hc : ci < 5) (v : Nat → Int32) (r : Nat → Option Nat) : CW B w0 (va_up T z ci) (va_up V z v) (va_up R z r) I O N (va_up w z (some (.inl (ci, cfs ci v r)))) := by
  obtain ⟨h1, h2, h3, h4⟩ := h
  refine ⟨fun b cj hb hj => ?_, fun b hb => ?_, fun b t hb t1 t2 => ?_, fun b b1 b2 => ?_⟩
  · by_cases e : b = z
    · rw [e, vup_s] at hb
      rw [e, vup_s, vup_s, vup_s, hb]
    · rw [vup_n e] at hb
      rw [vup_n e, vup_n e, vup_n e]
      exact h1 b cj hb hj
  · have e : b ≠ z := fun e => by rw [e, vup_s] at hb; omega
    rw [vup_n e] at hb ⊢
    exact h2 b hb
  · have e : b ≠ z := fun e => by rw [e, vup_s] at hb; unfold tr at hb; omega
    rw [vup_n e] at hb
    rw [vup_n e]
    exact h3 b t hb t1 t2
  · have e : b ≠ z := by omega
    rw [vup_n e, vup_n e]
    exact h4 b b1 b2
theorem CW.newI {z : Nat} (h : CW B w0 T V R I O N w) (hz : T z = 10) (hb : B + 29 ≤ z) (n : Int32) : CW B w0 (va_up T z 5) V R (va_up I z (fun _ => 0)) O (va_up N z n) (va_up w z (some (.inr (0, n.toNatClampNeg, .inl (fun _ => 0))))) := by
  obtain ⟨h1, h2, h3, h4⟩ := h
  refine ⟨fun b cj hb hj => ?_, fun b hb => ?_, fun b t hb t1 t2 => ?_, fun b b1 b2 => ?_⟩
  · have e : b ≠ z := fun e => by rw [e, vup_s] at hb; omega
    rw [vup_n e] at hb ⊢
    exact h1 b cj hb hj
  · by_cases e : b = z
    · rw [e, vup_s, vup_s, vup_s]
      exact ⟨_, rfl, fun _ _ => rfl⟩
    · rw [vup_n e] at hb
      rw [vup_n e, vup_n e, vup_n e]
      exact h2 b hb
  · have e : b ≠ z := fun e => by rw [e, vup_s] at hb; unfold tr at hb; omega
    rw [vup_n e] at hb
    rw [vup_n e, vup_n e]
    exact h3 b t hb t1 t2
  · have e : b ≠ z := by omega
    rw [vup_n e, vup_n e]
    exact h4 b b1 b2
theorem CW.newR {z t : Nat} (h : CW B w0 T V R I O N w) (hz : T z = 10) (hb : B + 29 ≤ z) (t1 : 1 ≤ t) (t2 : t ≤ 3) (n : Int32) : CW B w0 (va_up T z (tr t)) V R I (va_up O z (fun _ => none)) (va_up N z n) (va_up w z (some (.inr (t, n.toNatClampNeg, .inr (.inr (.inr (.inr (fun _ => none)))))))) := by
  obtain ⟨h1, h2, h3, h4⟩ := h
  refine ⟨fun b cj hb hj => ?_, fun b hb => ?_, fun b u hb u1 u2 => ?_, fun b b1 b2 => ?_⟩
  · have e : b ≠ z := fun e => by rw [e, vup_s] at hb; unfold tr at hb; omega
    rw [vup_n e] at hb ⊢
    exact h1 b cj hb hj
  · have e : b ≠ z := fun e => by rw [e, vup_s] at hb; unfold tr at hb; omega
    rw [vup_n e] at hb
    rw [vup_n e, vup_n e]
    exact h2 b hb
  · by_cases e : b = z
    · rw [e, vup_s] at hb
      have : t = u := by unfold tr at hb; omega
      subst this
      rw [e, vup_s, vup_s, vup_s]
      exact ⟨_, rfl, fun _ _ => rfl⟩
    · rw [vup_n e] at hb
      rw [vup_n e, vup_n e, vup_n e]
      exact h3 b u hb u1 u2
  · have e : b ≠ z := by omega
    rw [vup_n e, vup_n e]
    exact h4 b b1 b2
end CPa
