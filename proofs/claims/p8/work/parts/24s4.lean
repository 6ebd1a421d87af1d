/-! the questions, number and faces, on both sides: what stands between the calls -/
section SM4
variable {B : Nat} {w0 w w' : Mp} {T K : Nat → Nat} {V V' : Nat → Nat → Int32} {R R' : Nat → Nat → Option Nat} {I I' : Nat → Int32 → Int32} {O O' : Nat → Int32 → Option Nat} {N N' : Nat → Int32} {s s' : Nat → Int32} {A A' : Nat → Int32 → Int32} {sz g : Nat} {β : Type} {P : β → Prop}
theorem sw_c {α : Type} {r : α ⊕ Nat} {ks : List Nat} {f : α → Option β} {gg : Nat → Option β} (h : CE ks r) (hf : ∀ v, r = .inl v → OK (f v) P) (hg : ∀ k, k ∈ ks → OK (gg k) P) : OK (xsw r f gg) P := by
  rcases h with ⟨v, rfl⟩ | ⟨k, hk, rfl⟩
  · exact hf v rfl
  · exact hg k hk
theorem KP_PL (hC : CI B T K V R O N) (h : PL T V V') : KP B T K V V' R R I I O O N N := by
  have t0 := hC.1.1.1
  have t3 := hC.1.1.2.2.2.1
  exact ⟨fun a j ta => h a j (Or.inl (by rw [ta]; decide)), fun a j ta hj => h a j (Or.inr hj), fun a ta => h a 0 (Or.inl (by rw [ta]; decide)), ⟨h B 1 (Or.inl (by rw [t0]; decide)), h B 3 (Or.inl (by rw [t0]; decide)), h (B + 3) 1 (Or.inl (by rw [t3]; decide))⟩, fun _ _ _ => rfl, fun _ _ _ => rfl, fun _ _ _ => rfl, fun _ _ => rfl⟩

theorem sl_number {a b c : Int32} (h : LL B g w sz) : OK (f_Law_number w sz (some B) a b c (some (B + 28))) (fun q => OK ((xo q.2.1 (some (B + 11)) 5).bind fun b_9 => f_Mod_number q.2.1 b_9 a b c) (fun q2 => LL B g q2.2 q.2.2)) := by
  obtain ⟨T, K, V, R, I, O, N, a5, a6, a7, s, A, hX⟩ := h.get
  obtain ⟨h1, h2, h3, h4, h5, h6, hM, hI, hO, hS, hQ⟩ := id hX
  unfold f_Law_number
  refine c_xo h1 h2.1.1.1 (by decide) (OK.call (n_number h1 h2 h3 h4) (fun q ⟨v1, z, hq⟩ => ?_))
  have hx := CX.of v1 hO
  have fin : ∀ w2, CX B w T V R I O N w2 → OK (f_Mod_number w2 (B + 11) a b c) (fun q2 => LL B g q2.2 q.2.2) := fun w2 hx2 => (m_number (hx2.mod hM) hI).mono (fun q2 ⟨d, A', e, ea, _⟩ => LL.fin hx2 h2 (h3.le z) (by omega) h5 h6 e (MI_congr hI rfl rfl rfl (ea 2 (by decide)) (ea 3 (by decide)) (ea 4 (by decide)) (ea 5 (by decide)) (ea 10 (by decide)) (ea 11 (by decide)) (ea 12 (by decide)) (ea 14 (by decide))) (hS.ref rfl rfl rfl (fun k hk => ea k (by omega))) (hQ.ref rfl (ea 7 (by decide)) (ea 11 (by decide)) (ea 12 (by decide))))
  rcases hq with ⟨v, e⟩ | e | e
  · rw [e]
    exact sw_l (hx.put (fun w2 hx2 _ => OK.ret (k_xo (hx2.mod hM) <| fin w2 hx2)))
  · rw [e]
    exact sw_r (OK.ifP rfl (OK.ret (k_xo (hx.mod hM) <| fin _ hx)))
  · rw [e]
    exact sw_r (OK.ifN (by decide) (OK.ifP rfl (OK.ret (k_xo (hx.mod hM) <| fin _ hx))))
theorem x_faces {x a5 a6 a7 : Int32} (h1 : CW B w T V R I O N w) (h2 : CI B T K V R O N) (h3 : FR T sz) (h4 : B + 29 ≤ sz) (h5 : EL B R N a5 a6 a7) (h6 : LB a5 a6 a7 g) : g + (xk5 w (some B) x + xk6 w (some B) x + xk7 w (some B) x) ≤ 40000 ∧ OK (f_LM_faces (xk5 w (some B) x) (xk6 w (some B) x) (xk7 w (some B) x) w sz B x) (fun q => (¬ (0 ≤ x ∧ x ≤ 3) ∧ q = (.inr 1, w, sz + 1) ∧ LB a5 a6 a7 (g + (xk5 w (some B) x + xk6 w (some B) x + xk7 w (some B) x))) ∨ (0 ≤ x ∧ x ≤ 3 ∧ (∃ v, q.1 = .inl v) ∧ sz ≤ q.2.2 ∧ ∃ T' K' V' R' I' N' c n5 n6 n7, CW B w T' V' R' I' (va_up O (B + 10) c) N' q.2.1 ∧ CI B T' K' V' R' (va_up O (B + 10) c) N' ∧ (∀ a, T a ≠ 10 → T' a = T a ∧ N' a = N a) ∧ (∀ a, T a ≠ 10 → a ≠ B + 3 → R' a = R a) ∧ (∀ a, T a ≠ 10 → K a ≠ 5 → K a ≠ 6 → K a ≠ 7 → K a ≠ 2 → K a ≠ 3 → I' a = I a) ∧ PLV B V V' ∧ FR T' q.2.2 ∧ EL B R' N' n5 n6 n7 ∧ LB n5 n6 n7 (g + (xk5 w (some B) x + xk6 w (some B) x + xk7 w (some B) x)))) := by
  have h6' := h6
  obtain ⟨l5, l6, l7, lg⟩ := h6
  obtain ⟨⟨t0, t1, t2, t3, t4, t5, t6, t10⟩, ⟨m1, m2, m4, m5, m6, m10⟩, ⟨r0, r2, r4, r5, p0, p3, p4⟩, -, e5, e6, e7, ⟨q5, u5, v5, -⟩, ⟨q6, u6, v6, -⟩, ⟨q7, u7, v7, -⟩⟩ := h2.1
  obtain ⟨x5, x6, x7, ⟨s5, y5⟩, ⟨s6, y6⟩, ⟨s7, y7⟩⟩ := id h5
  rw [q5] at s5; cases s5
  rw [q6] at s6; cases s6
  rw [q7] at s7; cases s7
  have c7 := h2.2.2.2.2.2.2
  have al := al_b c7.1 c7.2
  have kp : xkp w (some B) = some (B + 3) := by unfold xkp; rw [e_gR h1 t0 (by decide), r4]; rfl
  have k5 : xkn w (some (B + 3)) 5 = a5 := by unfold xkn; rw [e_gR h1 t3 (by decide), q5]; show (aL w (some e5) 0).getD 0 = a5; rw [e_aL h1 u5 v5]; exact y5
  have k6 : xkn w (some (B + 3)) 6 = a6 := by unfold xkn; rw [e_gR h1 t3 (by decide), q6]; show (aL w (some e6) 0).getD 0 = a6; rw [e_aL h1 u6 v6]; exact y6
  have k7 : xkn w (some (B + 3)) 7 = a7 := by unfold xkn; rw [e_gR h1 t3 (by decide), q7]; show (aL w (some e7) 0).getD 0 = a7; rw [e_aL h1 u7 v7]; exact y7
  have cc : xkc w (some B) x = cntC B V O x ∧ 0 ≤ cntC B V O x ∧ cntC B V O x ≤ 32 := by
    obtain ⟨q, eq, pq⟩ := OK.got (n_gather (F := fun q => some q) (P := fun q => q.1 = cntC B V O x ∧ 0 ≤ cntC B V O x ∧ cntC B V O x ≤ V B 1) (fl := x) h1 h2 (fun w' c hw hc => OK.ret ⟨rfl, hc.2.1⟩))
    have b := h2.2.2.2.2.1.1.2
    refine ⟨?_, pq.2.1, by have := pq.2.2; clear pq c7 al lg; lia⟩
    show (match f_LM_gatherFree w B x with | some q => q.1 | none => 0) = _
    rw [eq]
    exact pq.1
  have g1 : (gI w (some (B + 3)) 4 1).getD 0 = V (B + 3) 1 := by rw [e_gI h1 t3 (by decide)]; rfl
  have L5 := gw_lim (n := a5) (len := 8 * cntC B V O x) (m := 256) l5.1 (by clear lg; lia) (by clear lg; lia) (by decide) (by clear lg; lia)
  have L6 := gw_lim (n := a6) (len := 8 * cntC B V O x) (m := 256) l6.1 (by clear lg; lia) (by clear lg; lia) (by decide) (by clear lg; lia)
  have m7 := ar_m7 cc.2.1 cc.2.2 al.1 al.2
  have L7 := gw_lim (n := a7) (len := (cntC B V O x + 1) * ((1 : Int32) <<< (V (B + 3) 1 &&& 31))) (m := 8448) l7.1 m7.1 m7.2 (by decide) l7.2
  have G5 := cl_le (m := 512) L5.1.1 L5.1.2 (by decide)
  have G6 := cl_le (m := 512) L6.1.1 L6.1.2 (by decide)
  have G7 := cl_le (m := 16896) L7.1.1 L7.1.2 (by decide)
  have A5 := cl_le (m := 512) l5.1 l5.2 (by decide)
  have A6 := cl_le (m := 512) l6.1 l6.2 (by decide)
  have A7 := cl_le (m := 16896) l7.1 l7.2 (by decide)
  by_cases c : 0 ≤ x ∧ x ≤ 3
  · have X5 : xk5 w (some B) x = (gw a5 (8 * cntC B V O x)).toNatClampNeg := by unfold xk5; rw [if_pos c, kp, k5, cc.1]
    have X6 : xk6 w (some B) x = (gw a6 (8 * cntC B V O x)).toNatClampNeg := by unfold xk6; rw [if_pos c, kp, k6, cc.1]
    have X7 : xk7 w (some B) x = (gw a7 ((cntC B V O x + 1) * ((1 : Int32) <<< (V (B + 3) 1 &&& 31)))).toNatClampNeg := by unfold xk7; rw [if_pos c, kp, k7, cc.1, g1]
    rw [X5, X6, X7]
    have Z5 : ∀ n', grw a5 (8 * cntC B V O x) n' → n'.toNatClampNeg ≤ 512 := fun n' hg => cl_le (m := 512) (L5.2 n' hg).1.1 (L5.2 n' hg).1.2 (by decide)
    have Z6 : ∀ n', grw a6 (8 * cntC B V O x) n' → n'.toNatClampNeg ≤ 512 := fun n' hg => cl_le (m := 512) (L6.2 n' hg).1.1 (L6.2 n' hg).1.2 (by decide)
    have Z7 : ∀ n', grw a7 ((cntC B V O x + 1) * ((1 : Int32) <<< (V (B + 3) 1 &&& 31))) n' → n'.toNatClampNeg ≤ 16896 := fun n' hg => cl_le (m := 16896) (L7.2 n' hg).1.1 (L7.2 n' hg).1.2 (by decide)
    refine ⟨?_, (n_faces (k1 := (gw a5 (8 * cntC B V O x)).toNatClampNeg) (k2 := (gw a6 (8 * cntC B V O x)).toNatClampNeg) (k3 := (gw a7 ((cntC B V O x + 1) * ((1 : Int32) <<< (V (B + 3) 1 &&& 31)))).toNatClampNeg) h1 h2 h3 h4 rfl h5 (by clear lg; lia) (by clear lg; lia) (by clear lg; lia) (Nat.le_refl _) (Nat.le_refl _) (Nat.le_refl _)).mono (fun q hq => ?_)⟩
    · have y5 : ∃ n', grw a5 (8 * cntC B V O x) n' := by
        by_cases d : a5 < 8 * cntC B V O x
        · exact ⟨_, Or.inr ⟨d, rfl⟩⟩
        · exact ⟨_, Or.inl ⟨d, rfl⟩⟩
      have y6 : ∃ n', grw a6 (8 * cntC B V O x) n' := by
        by_cases d : a6 < 8 * cntC B V O x
        · exact ⟨_, Or.inr ⟨d, rfl⟩⟩
        · exact ⟨_, Or.inl ⟨d, rfl⟩⟩
      have y7 : ∃ n', grw a7 ((cntC B V O x + 1) * ((1 : Int32) <<< (V (B + 3) 1 &&& 31))) n' := by
        by_cases d : a7 < (cntC B V O x + 1) * ((1 : Int32) <<< (V (B + 3) 1 &&& 31))
        · exact ⟨_, Or.inr ⟨d, rfl⟩⟩
        · exact ⟨_, Or.inl ⟨d, rfl⟩⟩
      obtain ⟨n5, hn5⟩ := y5
      obtain ⟨n6, hn6⟩ := y6
      obtain ⟨n7, hn7⟩ := y7
      have a1 := (L5.2 n5 hn5).2
      have a2 := (L6.2 n6 hn6).2
      have a3 := (L7.2 n7 hn7).2
      have b1 := Z5 n5 hn5
      have b2 := Z6 n6 hn6
      have b3 := Z7 n7 hn7
      omega
    · rcases hq with ⟨d, -⟩ | ⟨-, -, ⟨v, d⟩, z1, z2, T', K', V', R', I', N', c', n5, n6, n7, f1, f2, f3, f4, f5, f6, f7, f8, f9, f10, f11⟩
      · exact absurd c d
      have a1 := L5.2 n5 f9
      have a2 := L6.2 n6 f10
      have a3 := L7.2 n7 f11
      refine Or.inr ⟨c.1, c.2, ⟨v, d⟩, z1, T', K', V', R', I', N', c', n5, n6, n7, f1, f2, f3, f4, f5, f6, f7, f8, ⟨a1.1, a2.1, a3.1, ?_⟩⟩
      have b1 := a1.2
      have b2 := a2.2
      have b3 := a3.2
      omega
  · have X5 : xk5 w (some B) x = 0 := by unfold xk5; rw [if_neg c]
    have X6 : xk6 w (some B) x = 0 := by unfold xk6; rw [if_neg c]
    have X7 : xk7 w (some B) x = 0 := by unfold xk7; rw [if_neg c]
    rw [X5, X6, X7]
    refine ⟨by omega, ?_⟩
    unfold f_LM_faces
    refine n_isWithin (fun a1 a2 => absurd ⟨a1, a2⟩ c) (fun _ => OK.ifP rfl (OK.ret ?_))
    exact Or.inl ⟨c, rfl, h6'⟩
theorem sl_faces {a : Int32} (h : LL B g w sz) : g + (xk5 w (some B) a + xk6 w (some B) a + xk7 w (some B) a) ≤ 40000 ∧ OK (f_Law_faces (xk5 w (some B) a) (xk6 w (some B) a) (xk7 w (some B) a) w sz (some B) a (some (B + 28))) (fun q => OK ((xo q.2.1 (some (B + 11)) 5).bind fun b_9 => f_Mod_faces q.2.1 b_9 a) (fun q2 => LL B (g + (xk5 w (some B) a + xk6 w (some B) a + xk7 w (some B) a)) q2.2 q.2.2)) := by
  obtain ⟨T, K, V, R, I, O, N, a5, a6, a7, s, A, hX⟩ := h.get
  obtain ⟨h1, h2, h3, h4, h5, h6, hM, hI, hO, hS, hQ⟩ := id hX
  obtain ⟨z1, z2⟩ := x_faces (x := a) h1 h2 h3 h4 h5 h6
  refine ⟨z1, ?_⟩
  generalize hg : g + (xk5 w (some B) a + xk6 w (some B) a + xk7 w (some B) a) = g' at z1 z2 ⊢
  unfold f_Law_faces
  refine c_xo h1 h2.1.1.1 (by decide) (OK.call z2 (fun q hq => ?_))
  have fin : ∀ (T' K' : Nat → Nat) (V' : Nat → Nat → Int32) (R' : Nat → Nat → Option Nat) (I' : Nat → Int32 → Int32) (O' : Nat → Int32 → Option Nat) (N' : Nat → Int32) (n5 n6 n7 : Int32) (z : Nat) (w2 : Mp), CX B w T' V' R' I' O' N' w2 → CI B T' K' V' R' O' N' → FR T' z → B + 29 ≤ z → EL B R' N' n5 n6 n7 → LB n5 n6 n7 g' → SIM B V' R' I' O' N' s A → SX B V' R' O' s A → OK (f_Mod_faces w2 (B + 11) a) (fun q2 => LL B g' q2.2 z) := fun T' K' V' R' I' O' N' n5 n6 n7 z w2 hx c1 c2 c3 c4 c5 c6 c7 => by
    refine (m_faces (hx.mod hM) hI).mono (fun q2 hq2 => ?_)
    rcases hq2 with ⟨-, e⟩ | ⟨-, -, rs, r, le, pf, pm, -, -, -, -, -, ⟨-, -, e⟩ | ⟨-, -, e⟩⟩
    · exact LL.fin hx c1 c2 c3 c4 c5 e (MI.sc rfl hI) (c6.code 1) (c7.code 1)
    · exact LL.fin hx c1 c2 c3 c4 c5 e (MI_congr hI rfl rfl rfl rfl rfl rfl rfl rfl rfl rfl rfl) (c6.ref rfl rfl rfl (fun k hk => by simp [upL, upR, Nat.ne_of_lt (Nat.lt_of_lt_of_le hk (by decide : 15 ≤ 20)), Nat.ne_of_lt (Nat.lt_of_lt_of_le hk (by decide : 15 ≤ 19))])) (c7.ref rfl rfl rfl rfl)
    · exact LL.fin hx c1 c2 c3 c4 c5 e (MI_congr hI rfl rfl rfl rfl rfl rfl rfl rfl rfl rfl rfl) (c6.ref rfl rfl rfl (fun k hk => by simp [upW, upL, upR, Nat.ne_of_lt (Nat.lt_of_lt_of_le hk (by decide : 15 ≤ 16)), Nat.ne_of_lt (Nat.lt_of_lt_of_le hk (by decide : 15 ≤ 17)), Nat.ne_of_lt (Nat.lt_of_lt_of_le hk (by decide : 15 ≤ 20)), Nat.ne_of_lt (Nat.lt_of_lt_of_le hk (by decide : 15 ≤ 19))])) (c7.ref rfl rfl rfl rfl)
  rcases hq with ⟨c1, rfl, c2⟩ | ⟨c1, c2, ⟨v, e1⟩, z3, T', K', V', R', I', N', c', n5, n6, n7, f1, f2, f3, f4, f5, f6, f7, f8, f9⟩
  · exact sw_r (OK.ifP rfl (OK.ret (k_xo hM <| fin T K V R I O N a5 a6 a7 _ _ (CX.of h1 hO) h2 (h3.le (by show sz ≤ sz + 1; omega)) (by show B + 29 ≤ sz + 1; omega) h5 c2 hS hQ)))
  · rw [e1]
    refine sw_l ((CX.of f1 hO).put (fun w2 hx2 _ => OK.ret (k_xo (hx2.mod hM) <| fin _ _ _ _ _ _ _ _ _ _ _ _ hx2 f2 f7 (by show B + 29 ≤ q.2.2; omega) f8 f9 (hS.keep h2 ?_) (SX.keep h2 hS.2.1.1 hQ (fun x tx => f4 x (by rw [tx]; decide) (fun z => by rw [z, h2.1.1.2.2.2.1] at tx; cases tx)) (vup_n (by omega)) (fun x tx => vup_n (fun z => by rw [z, h2.1.1.2.2.2.2.2.2.2] at tx; cases tx)) (fun x tx => ⟨f6 x 3 (Or.inl (fun z => by rw [z, h2.1.1.2.2.2.1] at tx; cases tx)), f6 x 4 (Or.inl (fun z => by rw [z, h2.1.1.2.2.2.1] at tx; cases tx))⟩)))))
    have t0 := h2.1.1.1
    have t3 := h2.1.1.2.2.2.1
    refine ⟨fun a j ta => f6 a j (Or.inl (fun z => by rw [z, t3] at ta; cases ta)), fun a j ta hj => f6 a j (Or.inl (fun z => by rw [z, t3] at ta; cases ta)), fun a ta => f6 a 0 (Or.inl (fun z => by rw [z, t3] at ta; cases ta)), ⟨f6 B 1 (Or.inl (by omega)), f6 B 3 (Or.inl (by omega)), f6 (B + 3) 1 (Or.inr ⟨by decide, by decide⟩)⟩, f4, fun g tg kg => f5 g (by rw [tg]; decide) (by omega) (by omega) (by omega) (by omega) (by omega), fun a ta na => vup_n na, fun a ta => (f3 a ta).2⟩
end SM4
