/-! the class: match -/
section CPe
variable {B : Nat} {w0 : Mp} {T K : Nat → Nat} {V : Nat → Nat → Int32} {R : Nat → Nat → Option Nat} {I : Nat → Int32 → Int32} {O : Nat → Int32 → Option Nat} {N : Nat → Int32} {w : Mp} {sz : Nat} {β : Type} {P : β → Prop}
def cgood (kd n : Int32) : Prop := 0 ≤ kd ∧ kd ≤ 3 ∧ 2 ≤ n ∧ n ≤ 8 ∧ (kd = 3 → n = 4)
/-- a face has been made of the first n that were gathered -/
def MD (B : Nat) (w0 : Mp) (T K : Nat → Nat) (V : Nat → Nat → Int32) (R : Nat → Nat → Option Nat) (I : Nat → Int32 → Int32) (O : Nat → Int32 → Option Nat) (N : Nat → Int32) (c : Int32 → Option Nat) (kd n : Int32) (sz : Nat) (w' : Mp) : Prop := ∃ T' V1 V' R' O', CW B w0 T' V' R' I O' (va_up N (sz + 1) n) w' ∧ CI B T' K V' R' O' (va_up N (sz + 1) n) ∧ FR T' (sz + 2 + n.toNatClampNeg) ∧
  (∀ a, a < sz → T' a = T a ∧ R' a = R a) ∧ T' sz = 3 ∧ R' sz 1 = some (sz + 1) ∧ PM T T' V1 R' O' c kd sz n.toNatClampNeg ∧ (∀ a, a < sz → V1 a = V a) ∧ V1 sz 0 = kd ∧
  (∃ V2, MK T' R' O' (sz + 1) 1 n V1 V2 ∧ ∀ a j, (a ≠ B ∨ j ≠ 3) → (a ≠ B + 3 ∨ j ≠ 2) → V' a j = V2 a j) ∧ V' B 3 = V B 3 + 1 ∧
  (∀ a, a ≠ sz + 1 → a ≠ B + 2 → a ≠ B + 10 → O' a = O a) ∧ O' (B + 10) = c ∧ O' (B + 2) = (fun y => if y = V B 3 then some sz else O (B + 2) y)
theorem n_match_t {kd n : Int32} {c : Int32 → Option Nat} (h : CW B w0 T V R I (va_up O (B + 10) c) N w) (hC : CI B T K V R O N) (hF : FR T sz) (hz : B + 29 ≤ sz) (f8 : V B 3 < 8) (hg : cgood kd n) (hl : ∀ j, 0 ≤ j → j < n → ∃ b, c j = some b ∧ T b = 1) : OK ((xnO w sz 3 [.int 0, .null]).bind fun w_11 => (gR w_11 (some B) 0 5).bind fun v_12 => (xo w_11 (some sz) 3).bind fun b_14 => (f_Face_init w_11 (sz + 1) b_14 kd v_12 n).bind fun q_13 => (xo q_13.2.1 (some sz) 3).bind fun b_16 => (f_Face_markUsed q_13.2.1 b_16 (1 : Int32)).bind fun q_15 => (gR q_15.2 (some B) 0 2).bind fun v_17 => (gI q_15.2 (some B) 0 3).bind fun v_18 => (sR q_15.2 v_17 2 3 v_18 (some sz)).bind fun w_19 => (gR w_19 (some B) 0 4).bind fun v_20 => (xo w_19 v_20 4).bind fun b_22 => (f_Plan_forgetPlan w_19 b_22).bind fun q_21 => (gI q_21.2 (some B) 0 3).bind fun v_23 => (pF q_21.2 (some B) 0 3 (.int (v_23 + (1 : Int32)))).bind fun w_24 => (some (.inl v_23, w_24, q_13.2.2) : Option ((Int32 ⊕ Nat) × Mp × Nat))) (fun q => q.1 = .inl (V B 3) ∧ q.2.2 = sz + 2 + n.toNatClampNeg ∧ MD B w0 T K V R I O N c kd n sz q.2.1) := by
  obtain ⟨g1, g2, g3, g4, g5⟩ := hg
  obtain ⟨⟨t0, t1, t2, t3, t4, t5, t6, t10⟩, ⟨m1, m2, m4, m5, m6, m10⟩, ⟨r0, r2, r4, r5, p0, p3, p4⟩, -, -⟩ := hC.1
  have c6 := hC.2.2.2.2.2.1
  have b6 := c6.1
  have lt : ∀ b, T b ≠ 10 → b < sz := fun b hb => by
    by_cases e : sz ≤ b
    · exact absurd (hF b e) hb
    · omega
  refine c_xnO (v := fun _ => 0) (r := fun _ => none) h (hF sz (Nat.le_refl _)) hz (by decide) rfl (fun w1 h1 => ?_)
  refine c_gRs h1 (by rw [vup_n (by omega)]; exact t0) (by rw [vup_n (by omega)]; exact r5) (by decide) (c_xo h1 vup_s (by decide) ?_)
  unfold f_Face_init
  refine OK.bind (c_pIz h1 vup_s (by decide) (fun w2 h2 => ?_))
  have e10 : va_up T sz 3 (sz + 1) = 10 := by rw [vup_n (by omega)]; exact hF _ (by omega)
  have n0 : 0 ≤ n ∧ n ≤ 100000 := by clear c6 hl hC; constructor <;> lia
  have nN : n.toNatClampNeg ≤ 8 := by
    have z := cl_int n0.1
    have u := g4
    rw [Int32.le_iff_toInt_le, show (8 : Int32).toInt = 8 by decide] at u
    omega
  refine c_xnR h2 e10 (by omega) (by decide) (by decide) n0.1 nN n0.2 (fun w3 h3 => ?_)
  have uz : va_up (va_up T sz 3) (sz + 1) (tr 3) sz = 3 := by rw [vup_n (by omega)]; exact vup_s
  refine c_pRz h3 uz (by decide) (fun w4 h4 => ?_)
  clear h1 h2 h3
  have nT : ∀ a, a < sz → va_up (va_up T sz 3) (sz + 1) (tr 3) a = T a := fun a ha => by rw [vup_n (by omega), vup_n (by omega)]
  have z0 : sz + 1 + 1 = sz + 2 + (0 : Int32).toNatClampNeg := rfl
  rw [z0]
  have fz : (n - 0).toInt < (9 : Nat) := by
    have z := cl_int n0.1
    rw [Int32.sub_zero]
    omega
  refine OK.call (n_finit_L (B := B) (w0 := w0) (I := I) (sz := sz) (kd := kd) (n := n) (c := c) (T := va_up (va_up T sz 3) (sz + 1) (tr 3)) (V := va_up V sz (up (fun _ => 0) 0 kd)) (R := va_up R sz (upr (fun _ => none) 1 (some (sz + 1)))) (O := va_up (va_up O (B + 10) c) (sz + 1) (fun _ => none)) (N := va_up N (sz + 1) n) hz g4 (by rw [vup_n (by omega)]; exact m10) vup_s (by rw [nT _ (by omega)]; exact t10) (by rw [vup_n (by omega), vup_s]) (fun j j0 j1 => ?_) uz vup_s (by rw [vup_s]; rfl) (fun b hb => ?_) 9 0 _ _ _ _ w4 h4 (by decide) n0.1 fz (fun a ha => ⟨rfl, rfl, rfl⟩) (fun a ha => rfl) (fun a ha => ?_) (fun j hj => absurd hj (by show ¬ j < 0; omega))) (fun q ⟨T', V1, R', O', h5, i1, i2, i3, i4, i5⟩ => ?_)
  · obtain ⟨b, eb, tb⟩ := hl j j0 j1
    exact ⟨b, eb, by rw [nT _ (lt b (by rw [tb]; decide))]; exact tb⟩
  · by_cases e : b = sz + 1
    · rw [e, vup_s] at hb; exact absurd hb (by decide)
    · by_cases e2 : b = sz
      · rw [vup_n e, e2, vup_s] at hb; omega
      · rw [vup_n e, vup_n e2] at hb
        exact lt b (by rw [hb]; decide)
  · have z : sz + 2 ≤ a := ha
    rw [vup_n (by omega), vup_n (by omega)]
    exact hF a (by omega)
  have ol : ∀ a, a < sz → T' a = T a ∧ V1 a = V a ∧ R' a = R a := fun a ha => by
    have z := i1 a (by omega)
    rw [nT a ha, vup_n (by omega), vup_n (by omega)] at z
    exact z
  have sT := (i1 sz (by omega)).1.trans uz
  have sT1 : T' (sz + 1) = tr 3 := (i1 (sz + 1) (by omega)).1.trans vup_s
  have sR : R' sz = upr (fun _ => none) 1 (some (sz + 1)) := (i1 sz (by omega)).2.2.trans vup_s
  have sR1 : R' sz 1 = some (sz + 1) := by rw [sR]; rfl
  have sV : V1 sz = up (fun _ => 0) 0 kd := (i1 sz (by omega)).2.1.trans vup_s
  have sV0 : V1 sz 0 = kd := by rw [sV]; rfl
  have pm : ∀ j, 0 ≤ j → j < n → ∃ x : Nat, x < n.toNatClampNeg ∧ Int32.ofNat x = j := fun j j0 j1 => ⟨j.toNatClampNeg, cl_mono j0 j1, of_cl j0⟩
  have hE : CI B T' K V1 R' O' (va_up N (sz + 1) n) := by
    refine CI_ext (CI_free (c := c) hC) (fun a ha => ?_) (fun a ha z1 => ?_) (fun a ha z1 => ?_) (fun a ha z1 => ?_)
    · have l := lt a ha
      have z := ol a l
      exact ⟨z.1, rfl, z.2.1, z.2.2, by rw [i2 a (by omega), vup_n (by omega)], vup_n (by omega)⟩
    · exfalso
      by_cases l : a < sz
      · rw [(ol a l).1, ha] at z1; omega
      · by_cases e : a = sz
        · rw [e, sT] at z1; omega
        · by_cases e2 : a = sz + 1
          · rw [e2, sT1] at z1; exact absurd z1 (by decide)
          · by_cases e3 : a < sz + 2 + n.toNatClampNeg
            · have z := (i4 (a - (sz + 2)) (by omega)).2.1
              rw [show sz + 2 + (a - (sz + 2)) = a by omega, z1] at z
              omega
            · rw [i3 a (by omega)] at z1; omega
    · by_cases l : a < sz
      · rw [(ol a l).1, ha] at z1; omega
      · by_cases e : a = sz
        · rw [e, sT] at z1; omega
        · by_cases e2 : a = sz + 1
          · rw [e2, sT1] at z1; exact absurd z1 (by decide)
          · by_cases e3 : a < sz + 2 + n.toNatClampNeg
            · have z := (i4 (a - (sz + 2)) (by omega)).2.2.1
              rw [show sz + 2 + (a - (sz + 2)) = a by omega] at z
              obtain ⟨l, l1, l2, l3⟩ := z
              refine ⟨l, l1, ?_⟩
              have ll : l < sz := by
                by_cases e : l = sz + 1
                · rw [e, vup_s] at l2; exact absurd l2 (by decide)
                · by_cases e2 : l = sz
                  · rw [vup_n e, e2, vup_s] at l2; omega
                  · rw [vup_n e, vup_n e2] at l2
                    exact lt l (by rw [l2]; decide)
              rw [nT l ll] at l2
              rw [(ol l ll).1]
              exact l2
            · rw [i3 a (by omega)] at z1; omega
    · have ea : a = sz := by
        by_cases l : a < sz
        · rw [(ol a l).1, ha] at z1; omega
        · by_cases e : a = sz
          · exact e
          · by_cases e2 : a = sz + 1
            · rw [e2, sT1] at z1; exact absurd z1 (by decide)
            · by_cases e3 : a < sz + 2 + n.toNatClampNeg
              · have z := (i4 (a - (sz + 2)) (by omega)).2.1
                rw [show sz + 2 + (a - (sz + 2)) = a by omega, z1] at z
                omega
              · rw [i3 a (by omega)] at z1; omega
      subst ea
      refine ⟨a + 1, sR1, sT1, by rw [vup_s]; exact ⟨g3, g4⟩, by rw [sV0]; exact ⟨g1, g2⟩, fun z => by rw [sV0] at z; rw [vup_s]; exact g5 z, fun k k0 k1 => ?_⟩
      rw [vup_s] at k1
      obtain ⟨x, x1, x2⟩ := pm k k0 k1
      have z := i4 x x1
      rw [x2] at z
      exact ⟨_, z.1, z.2.1⟩
  obtain ⟨p, pr, hP, pv, pf4⟩ := hE.pie sT
  rw [sR1] at pr
  cases pr
  refine OK.ret ?_
  refine c_xo h5 sT (by decide) (n_mark h5 sT sR1 hP (Or.inr rfl) (fun w6 V2 h6 hm => ?_))
  rw [vup_s] at hm
  have s0 := ol B (by omega)
  have s2 := ol (B + 2) (by omega)
  have s3 := ol (B + 3) (by omega)
  have vB : V2 B 3 = V B 3 := by rw [hm.1 B 3 (Or.inr (by decide)), s0.2.1]
  have hE2 := CI_MK hE hm
  refine c_gRs h6 (by rw [s0.1]; exact t0) (by rw [s0.2.2]; exact r2) (by decide) (c_gI h6 (by rw [s0.1]; exact t0) (by decide) ?_)
  rw [vB]
  refine c_sR h6 (by rw [s2.1]; exact t2) (by decide) b6.1 (by rw [vup_n (by omega), m2]; exact f8) (fun b hb => by cases hb; exact sT) (fun w7 h7 => ?_)
  have o2 : O' (B + 2) = O (B + 2) := by rw [i2 _ (by omega), vup_n (by omega), vup_n (by omega)]
  rw [o2] at h7
  refine c_gRs h7 (by rw [s0.1]; exact t0) (by rw [s0.2.2]; exact r4) (by decide) (c_xo h7 (by rw [s3.1]; exact t3) (by decide) (n_forget h7 (by rw [s3.1]; exact t3) (fun w8 h8 => ?_)))
  refine c_gI h8 (by rw [s0.1]; exact t0) (by decide) ?_
  rw [vupV (Or.inl (by omega)), vB]
  refine c_pI h8 (by rw [s0.1]; exact t0) (by decide) (fun w9 h9 => OK.ret ⟨rfl, i5, T', V1, _, R', _, h9, ?_, i3, fun a ha => ⟨(ol a ha).1, (ol a ha).2.2⟩, sT, sR1, fun j hj => ?_, fun a ha => (ol a ha).2.1, sV0, ⟨V2, ?_, fun a j hb hb3 => ?_⟩, ?_, fun a ha hb hc => ?_, ?_, vup_s⟩)
  · refine CI_faces (CI_up hE2 (Or.inr (Or.inr ⟨rfl, by decide⟩))) (by clear c6 hl hC hE hE2; lia) (by clear c6 hl hC hE hE2; lia) (fun f f0 f1 => ?_)
    by_cases e : f = V B 3
    · exact ⟨sz, if_pos e, sT⟩
    · obtain ⟨a, ea, ta⟩ := c6.2 f f0 (by clear c6 hl hC hE hE2; lia)
      exact ⟨a, by rw [if_neg e]; exact ea, by rw [(ol a (lt a (by rw [ta]; decide))).1]; exact ta⟩
  · obtain ⟨q1, q2, ⟨l, q3, q4, q5⟩, q6, q7⟩ := i4 j hj
    refine ⟨by rw [vup_n (by omega)]; exact q1, q2, ⟨l, q3, ?_, q5⟩, q6, q7⟩
    by_cases e : l = sz + 1
    · rw [e, vup_s] at q4; exact absurd q4 (by decide)
    · by_cases e2 : l = sz
      · rw [vup_n e, e2, vup_s] at q4; omega
      · rw [vup_n e, vup_n e2] at q4; exact q4
  · have e : ∀ k, lfp R' (va_up O' (B + 2) (fun y => if y = V B 3 then some sz else O (B + 2) y)) (sz + 1) k = lfp R' O' (sz + 1) k := fun k => by
      unfold lfp
      rw [vup_n (by omega)]
    exact ⟨hm.1, fun k k0 k1 => by rw [e]; exact hm.2.1 k k0 k1, fun a ha => hm.2.2 a (fun k k0 k1 => by rw [← e]; exact ha k k0 k1)⟩
  · rw [vupV hb, vupV hb3]
  · rw [vupVs]
  · rw [vup_n hb, i2 a ha, vup_n ha, vup_n hc]
  · rw [vup_n (by omega), i2 _ (by omega), vup_n (by omega), vup_s]
theorem n_match {kd n : Int32} (h : CW B w0 T V R I O N w) (hC : CI B T K V R O N) (hF : FR T sz) (hz : B + 29 ≤ sz) : OK (f_LM_match w sz B kd n) (fun q =>
    ((¬ V B 3 < 8 ∨ ∀ g, 0 ≤ g → g < 4 → cntC B V O g < n) ∧ q = (.inr 0, w, sz + 1)) ∨
    ∃ fl, (V B 3 < 8 ∧ 0 ≤ fl ∧ fl < 4 ∧ n ≤ cntC B V O fl ∧ ∀ g, 0 ≤ g → g < fl → cntC B V O g < n) ∧
    ((¬ cgood kd n ∧ q = (.inr 1, w, sz + 1)) ∨
     ∃ c, GA B T V O fl c ∧ ((cgood kd n ∧ cbrk V c n ∧ q.1 = .inl (-1) ∧ q.2.2 = sz ∧ CW B w0 T V R I (va_up O (B + 10) c) N q.2.1) ∨
      (cgood kd n ∧ ¬ cbrk V c n ∧ q.1 = .inl (V B 3) ∧ q.2.2 = sz + 2 + n.toNatClampNeg ∧ MD B w0 T K V R I O N c kd n sz q.2.1)))) := by
  have t0 := hC.1.1.1
  unfold f_LM_match
  refine c_gI h t0 (by decide) (OK.ite (fun f8 => ?_) (fun c => OK.ret (Or.inl ⟨Or.inl c, rfl⟩)))
  refine c_xo h t0 (by decide) (n_least h hC (fun c => OK.ifP rfl (OK.ret (Or.inl ⟨Or.inr c, rfl⟩))) (fun fl f0 f4 fn fg => ?_))
  refine OK.ifN (fun z => by rw [z] at f0; exact absurd f0 (by decide)) ?_
  have fac : V B 3 < 8 ∧ 0 ≤ fl ∧ fl < 4 ∧ n ≤ cntC B V O fl ∧ ∀ g, 0 ≤ g → g < fl → cntC B V O g < n := ⟨f8, f0, f4, fn, fg⟩
  refine n_isWithin (fun a1 a2 => OK.ifN (by decide) ?_) (fun e => OK.ifP rfl (OK.ret (Or.inr ⟨fl, fac, Or.inl ⟨fun z => e ⟨z.1, z.2.1⟩, rfl⟩⟩)))
  refine n_isWithin (fun a3 a4 => OK.ifN (by decide) ?_) (fun e => OK.ifP rfl (OK.ret (Or.inr ⟨fl, fac, Or.inl ⟨fun z => e ⟨z.2.2.1, z.2.2.2.1⟩, rfl⟩⟩)))
  refine OK.J1 ?_
  have go : cgood kd n → OK ((xo w (some B) 0).bind fun b_8 => (f_LM_gatherFree w b_8 fl).bind fun q_7 => (xo q_7.2 (some B) 0).bind fun b_10 => (f_LM_isBroken q_7.2 b_10 n).bind fun q_9 => if q_9 = 0 then ((xnO q_7.2 sz 3 [.int 0, .null]).bind fun w_11 => (gR w_11 (some B) 0 5).bind fun v_12 => (xo w_11 (some sz) 3).bind fun b_14 => (f_Face_init w_11 (sz + 1) b_14 kd v_12 n).bind fun q_13 => (xo q_13.2.1 (some sz) 3).bind fun b_16 => (f_Face_markUsed q_13.2.1 b_16 (1 : Int32)).bind fun q_15 => (gR q_15.2 (some B) 0 2).bind fun v_17 => (gI q_15.2 (some B) 0 3).bind fun v_18 => (sR q_15.2 v_17 2 3 v_18 (some sz)).bind fun w_19 => (gR w_19 (some B) 0 4).bind fun v_20 => (xo w_19 v_20 4).bind fun b_22 => (f_Plan_forgetPlan w_19 b_22).bind fun q_21 => (gI q_21.2 (some B) 0 3).bind fun v_23 => (pF q_21.2 (some B) 0 3 (.int (v_23 + (1 : Int32)))).bind fun w_24 => some (.inl v_23, w_24, q_13.2.2)) else (some (.inl (-1 : Int32), q_7.2, sz))) (fun q : (Int32 ⊕ Nat) × Mp × Nat => ∃ c, GA B T V O fl c ∧ ((cgood kd n ∧ cbrk V c n ∧ q.1 = .inl (-1) ∧ q.2.2 = sz ∧ CW B w0 T V R I (va_up O (B + 10) c) N q.2.1) ∨ (cgood kd n ∧ ¬ cbrk V c n ∧ q.1 = .inl (V B 3) ∧ q.2.2 = sz + 2 + n.toNatClampNeg ∧ MD B w0 T K V R I O N c kd n sz q.2.1))) := fun hg => by
    refine c_xo h t0 (by decide) (n_gather h hC (fun w1 c h1 hc => c_xo h1 t0 (by decide) ?_))
    have hl : ∀ j, 0 ≤ j → j < n → ∃ b, c j = some b ∧ T b = 1 := fun j j0 j1 => hc.2.2 j j0 (by clear hC; lia)
    refine n_broken hC.1 h1 a3 a4 hl (fun d => OK.ifN (by decide) (OK.ret ⟨c, hc, Or.inl ⟨hg, d, rfl, rfl, h1⟩⟩)) (fun d => OK.ifP rfl ?_)
    exact (n_match_t h1 hC hF hz f8 hg hl).mono (fun q hq => ⟨c, hc, Or.inr ⟨hg, d, hq.1, hq.2.1, hq.2.2⟩⟩)
  refine OK.ite (fun d => OK.ite (fun e => ?_) (fun e => ?_)) (fun d => ?_)
  · exact (go ⟨a1, a2, a3, a4, fun _ => e⟩).mono (fun q hq => Or.inr ⟨fl, fac, Or.inr hq⟩)
  · exact OK.ret (Or.inr ⟨fl, fac, Or.inl ⟨fun z => e (z.2.2.2.2 d), rfl⟩⟩)
  · exact (go ⟨a1, a2, a3, a4, fun z => absurd z d⟩).mono (fun q hq => Or.inr ⟨fl, fac, Or.inr hq⟩)
end CPe
