/-! the class: leaf -/
def lv0 (i fl nu wd hg : Int32) : Nat → Int32 := up (up (up (up (up (up (up (fun _ => 0) 6 0) 7 0) 0 i) 1 fl) 2 nu) 3 wd) 4 hg
section CPc
variable {B : Nat} {w0 : Mp} {T K : Nat → Nat} {V : Nat → Nat → Int32} {R : Nat → Nat → Option Nat} {I : Nat → Int32 → Int32} {O : Nat → Int32 → Option Nat} {N : Nat → Int32} {w : Mp} {sz : Nat} {β : Type} {P : β → Prop}
theorem n_leaf {fl nu wd hg : Int32} (h : CW B w0 T V R I O N w) (hC : CI B T K V R O N) (hF : FR T sz) (hz : B + 29 ≤ sz) : OK (f_LM_leaf w sz B fl nu wd hg) (fun q =>
    ((¬ V B 1 < 32 ∨ csame B V O fl nu) ∧ q = (.inr 0, w, sz + 1)) ∨
    (V B 1 < 32 ∧ ¬ csame B V O fl nu ∧ ¬ (0 ≤ fl ∧ fl ≤ 3 ∧ 0 ≤ nu ∧ nu ≤ 1000 ∧ 1 ≤ wd ∧ wd ≤ 12 ∧ 1 ≤ hg ∧ hg ≤ 12) ∧ q = (.inr 1, w, sz + 1)) ∨
    (V B 1 < 32 ∧ ¬ csame B V O fl nu ∧ (0 ≤ fl ∧ fl ≤ 3 ∧ 0 ≤ nu ∧ nu ≤ 1000 ∧ 1 ≤ wd ∧ wd ≤ 12 ∧ 1 ≤ hg ∧ hg ≤ 12) ∧ q.1 = .inl (V B 1) ∧ q.2.2 = sz + 2 ∧ ∃ V',
      CW B w0 (va_up (va_up T sz 1) (sz + 1) 5) V' (va_up R sz (upr (fun _ => none) 5 (some (sz + 1)))) (va_up I (sz + 1) (fun _ => 0)) (va_up O (B + 1) (fun y => if y = V B 1 then some sz else O (B + 1) y)) (va_up N (sz + 1) (wd * hg)) q.2.1 ∧
      CI B (va_up (va_up T sz 1) (sz + 1) 5) (va_up K (sz + 1) (sz + 10)) V' (va_up R sz (upr (fun _ => none) 5 (some (sz + 1)))) (va_up O (B + 1) (fun y => if y = V B 1 then some sz else O (B + 1) y)) (va_up N (sz + 1) (wd * hg)) ∧
      V' sz = lv0 (V B 1) fl nu wd hg ∧ V' B 1 = V B 1 + 1 ∧ (∀ a j, a ≠ sz → (a ≠ B ∨ j ≠ 1) → (a ≠ B + 3 ∨ j ≠ 2) → V' a j = V a j))) := by
  obtain ⟨⟨t0, t1, t2, t3, t4, t5, t6, t10⟩, ⟨m1, m2, m4, m5, m6, m10⟩, ⟨r0, r2, r4, r5, p0, p3, p4⟩, -, -⟩ := hC.1
  have c5 := hC.2.2.2.2.1
  have b5 := c5.1
  have hS : ∀ a, a < B + 29 → a ≠ sz ∧ a ≠ sz + 1 := fun a ha => by omega
  unfold f_LM_leaf
  refine c_gI h t0 (by decide) (OK.ite (fun c => ?_) (fun c => OK.ret (Or.inl ⟨Or.inl c, rfl⟩)))
  refine c_xo h t0 (by decide) (n_taken h hC (fun d => OK.ifN (by decide) (OK.ret (Or.inl ⟨Or.inr d, rfl⟩))) (fun d => OK.ifP rfl ?_))
  refine n_isWithin (fun a1 a2 => OK.ifN (by decide) ?_) (fun e => OK.ifP rfl (OK.ret (Or.inr (Or.inl ⟨c, d, fun z => e ⟨z.1, z.2.1⟩, rfl⟩))))
  refine n_isWithin (fun a3 a4 => OK.ifN (by decide) ?_) (fun e => OK.ifP rfl (OK.ret (Or.inr (Or.inl ⟨c, d, fun z => e ⟨z.2.2.1, z.2.2.2.1⟩, rfl⟩))))
  refine n_isWithin (fun a5 a6 => OK.ifN (by decide) ?_) (fun e => OK.ifP rfl (OK.ret (Or.inr (Or.inl ⟨c, d, fun z => e ⟨z.2.2.2.2.1, z.2.2.2.2.2.1⟩, rfl⟩))))
  refine n_isWithin (fun a7 a8 => OK.ifN (by decide) ?_) (fun e => OK.ifP rfl (OK.ret (Or.inr (Or.inl ⟨c, d, fun z => e ⟨z.2.2.2.2.2.2.1, z.2.2.2.2.2.2.2⟩, rfl⟩))))
  refine c_gRs h t0 r0 (by decide) (c_gI h t0 (by decide) ?_)
  refine c_xnO (v := fun _ => 0) (r := fun _ => none) h (hF sz (Nat.le_refl _)) hz (by decide) rfl (fun w1 h1 => ?_)
  have u0 : va_up T sz 1 B = 0 := by rw [vup_n (by omega)]; exact t0
  have uz : va_up T sz 1 sz = 1 := vup_s
  refine c_gI h1 u0 (by decide) ?_
  rw [vup_n (show B ≠ sz by omega)]
  refine c_xo h1 uz (by decide) ?_
  have wh := ar_wh a5 a6 a7 a8
  unfold f_Leaf_init
  refine OK.bind ?_
  refine c_pIz h1 uz (by decide) (fun w2 h2 => c_pIz h2 uz (by decide) (fun w3 h3 => c_pIz h3 uz (by decide) (fun w4 h4 => c_pIz h4 uz (by decide) (fun w5 h5 => c_pIz h5 uz (by decide) (fun w6 h6 => c_pIz h6 uz (by decide) (fun w7 h7 => c_pIz h7 uz (by decide) (fun w8 h8 => ?_)))))))
  clear h1 h2 h3 h4 h5 h6 h7
  have e10 : va_up T sz 1 (sz + 1) = 10 := by rw [vup_n (by omega)]; exact hF _ (by omega)
  refine c_xnI h8 e10 (by omega) wh.1 wh.2.1 wh.2.2 (fun w9 h9 => ?_)
  have vz : va_up (va_up T sz 1) (sz + 1) 5 sz = 1 := by rw [vup_n (by omega)]; exact vup_s
  refine c_pRz h9 vz (by decide) (fun w10 h10 => OK.ret ?_)
  clear h8 h9
  have nT : ∀ a, a < B + 29 → va_up (va_up T sz 1) (sz + 1) 5 a = T a := fun a ha => by rw [vup_n (hS a ha).2, vup_n (hS a ha).1]
  have nR : ∀ a, a < B + 29 → va_up R sz (upr (fun _ => none) 5 (some (sz + 1))) a = R a := fun a ha => vup_n (hS a ha).1
  have nV : ∀ a, a < B + 29 → va_up V sz (lv0 (V B 1) fl nu wd hg) a = V a := fun a ha => vup_n (hS a ha).1
  have nN : ∀ a, a < B + 29 → va_up N (sz + 1) (wd * hg) a = N a := fun a ha => vup_n (hS a ha).2
  have h10 : CW B w0 (va_up (va_up T sz 1) (sz + 1) 5) (va_up V sz (lv0 (V B 1) fl nu wd hg)) (va_up R sz (upr (fun _ => none) 5 (some (sz + 1)))) (va_up I (sz + 1) (fun _ => 0)) O (va_up N (sz + 1) (wd * hg)) w10 := h10
  have c32 : V B 1 < 32 := c
  refine c_sR h10 (by rw [nT _ (by omega)]; exact t1) (by decide) b5.1 (by rw [nN _ (by omega), m1]; exact c32) (fun b hb => by cases hb; exact vz) (fun w11 h11 => ?_)
  refine c_gRs h11 (by rw [nT _ (by omega)]; exact t0) (by rw [nR _ (by omega)]; exact r4) (by decide) (c_xo h11 (by rw [nT _ (by omega)]; exact t3) (by decide) (n_forget h11 (by rw [nT _ (by omega)]; exact t3) (fun w12 h12 => ?_)))
  have vB : va_up (va_up V sz (lv0 (V B 1) fl nu wd hg)) (B + 3) (up (va_up V sz (lv0 (V B 1) fl nu wd hg) (B + 3)) 2 0) B 1 = V B 1 := by
    rw [vupV (Or.inl (by omega)), nV _ (by omega)]
  refine c_gI h12 (by rw [nT _ (by omega)]; exact t0) (by decide) ?_
  rw [vB]
  refine c_pI h12 (by rw [nT _ (by omega)]; exact t0) (by decide) (fun w13 h13 => OK.ret (Or.inr (Or.inr ⟨c, d, ⟨a1, a2, a3, a4, a5, a6, a7, a8⟩, rfl, rfl, _, h13, ?_, ?_, ?_, ?_⟩)))
  · have hE : CI B (va_up (va_up T sz 1) (sz + 1) 5) (va_up K (sz + 1) (sz + 10)) (va_up V sz (lv0 (V B 1) fl nu wd hg)) (va_up R sz (upr (fun _ => none) 5 (some (sz + 1)))) O (va_up N (sz + 1) (wd * hg)) := by
      refine CI_ext hC (fun a ha => ?_) (fun a ha h1 => ?_) (fun a ha h2 => ?_) (fun a ha h3 => ?_)
      · have ne : a ≠ sz ∧ a ≠ sz + 1 := ⟨fun e => ha (by rw [e]; exact hF _ (Nat.le_refl _)), fun e => ha (by rw [e]; exact hF _ (by omega))⟩
        exact ⟨by rw [vup_n ne.2, vup_n ne.1], vup_n ne.2, vup_n ne.1, vup_n ne.1, rfl, vup_n ne.2⟩
      · by_cases e2 : a = sz + 1
        · rw [e2, vup_s] at h1; omega
        · by_cases e1 : a = sz
          · subst e1
            unfold LOK
            rw [vup_s, vup_s]
            exact ⟨⟨a5, a6⟩, ⟨a7, a8⟩, a + 1, rfl, vup_s, vup_s, vup_s⟩
          · rw [vup_n e2, vup_n e1] at h1; omega
      · by_cases e2 : a = sz + 1
        · rw [e2, vup_s] at h2; omega
        · by_cases e1 : a = sz
          · rw [vup_n e2, e1, vup_s] at h2; omega
          · rw [vup_n e2, vup_n e1] at h2; omega
      · by_cases e2 : a = sz + 1
        · rw [e2, vup_s] at h3; omega
        · by_cases e1 : a = sz
          · rw [vup_n e2, e1, vup_s] at h3; omega
          · rw [vup_n e2, vup_n e1] at h3; omega
    refine CI_leaves (CI_up hE (Or.inr (Or.inr ⟨rfl, by decide⟩))) (by clear hE hC c5; lia) (by clear hE hC c5; lia) (fun i i0 i1 => ?_)
    by_cases e : i = V B 1
    · refine ⟨sz, if_pos e, vz, ?_⟩
      rw [vupV (Or.inl (by omega)), vup_s, e]
      rfl
    · obtain ⟨a, ea, ta, va⟩ := c5.2 i i0 (by clear hE hC c5; lia)
      have ne : a ≠ sz ∧ a ≠ sz + 1 := ⟨fun e => by rw [e, hF _ (Nat.le_refl _)] at ta; omega, fun e => by rw [e, hF _ (by omega)] at ta; omega⟩
      have n3 : a ≠ B + 3 := fun e => by rw [e, t3] at ta; omega
      refine ⟨a, by rw [if_neg e]; exact ea, by rw [vup_n ne.2, vup_n ne.1]; exact ta, ?_⟩
      rw [vupV (Or.inl n3), vup_n ne.1]
      exact va
  · funext j
    rw [vupV (Or.inl (by omega)), vupV (Or.inl (by omega)), vup_s]
  · rw [vupVs]
  · intro a j ha hb hb3
    rw [vupV hb, vupV hb3, vup_n ha]
end CPc
