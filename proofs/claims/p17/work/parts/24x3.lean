/-! faces: the same answer on both sides -/
def fvl (le : Int32 → Int32) (S : Int32) : Int32 := if le (S - 1) < 1000000 then le (S - 1) else -1
section CPz
variable {B : Nat} {w0 : Mp} {T K : Nat → Nat} {V : Nat → Nat → Int32} {R : Nat → Nat → Option Nat} {I : Nat → Int32 → Int32} {O : Nat → Int32 → Option Nat} {N : Nat → Int32} {w : Mp} {sz g : Nat} {s : Nat → Int32} {A : Nat → Int32 → Int32} {le : Int32 → Int32}
theorem n_plan_v {k1 k2 k3 : Nat} {cnt a5 a6 a7 S : Int32} (h : CW B w0 T V R I O N w) (hC : CI B T K V R O N) (hF : FR T sz) (hz : B + 29 ≤ sz) (c0 : 0 ≤ cnt) (c1 : cnt ≤ 32) (hl : RA A T V O (B + 10) cnt) (hw : ∀ f, 0 ≤ f → f < V (B + 3) 1 → I (B + 4) f = A 14 f ∧ 1 ≤ A 14 f) (hT : TB s A le S 0) (e18 : s 18 = cnt) (e13 : s 13 = V (B + 3) 1) (hS : S = (1 : Int32) <<< (V (B + 3) 1 &&& 31)) (hL : EL B R N a5 a6 a7) (b5 : a5 ≤ 20000) (b6 : a6 ≤ 20000) (b7 : a7 ≤ 20000) (g5 : (gw a5 (8 * cnt)).toNatClampNeg ≤ k1) (g6 : (gw a6 (8 * cnt)).toNatClampNeg ≤ k2) (g7 : (gw a7 ((cnt + 1) * S)).toNatClampNeg ≤ k3) : OK (f_Plan_planFrom k1 k2 k3 w sz (B + 3) (some (B + 10)) cnt) (fun q => q.1 = fvl le S) := by
  have c7 := hC.2.2.2.2.2.2
  have t3 := hC.1.1.2.2.2.1
  have tw := hC.1.1.2.2.2.2.1
  have al := al_b c7.1 c7.2
  rw [← hS] at al
  unfold f_Plan_planFrom
  refine c_gI h t3 (by decide) ?_
  rw [← hS]
  refine c_pI h t3 (by decide) (fun w1 h1 => c_xo h1 t3 (by decide) ?_)
  have hC1 : CI B T K (va_up V (B + 3) (up (V (B + 3)) 8 S)) R O N := CI_up hC (Or.inr (Or.inr ⟨rfl, by decide⟩))
  have e8 : va_up V (B + 3) (up (V (B + 3)) 8 S) (B + 3) 8 = S := vupVs
  have e1 : va_up V (B + 3) (up (V (B + 3)) 8 S) (B + 3) 1 = V (B + 3) 1 := vupV (Or.inr (by decide))
  refine n_room h1 hC1 hF hz c0 c1 (by rw [e8]; exact al.1) (by rw [e8]; exact al.2) hL b5 b6 b7 g5 g6 (by rw [e8]; exact g7) (fun w2 T2 K2 R2 I2 N2 e5 e6 e7 z n5 n6 n7 h2 hC2 X hF2 za zb y5 y6 y7 hL2 r5 r6 r7 => ?_)
  rw [e8] at y7 r7
  obtain ⟨⟨t0, t1, t2, t3', t4, t5, t6, t10⟩, ⟨m1, m2, m4, m5, m6, m10⟩, ⟨r0, r2, r4, r5', p0, p3, p4⟩, ⟨k4, k5, k6⟩, -⟩ := hC2.1
  have hP : PC B T2 K2 (va_up V (B + 3) (up (V (B + 3)) 8 S)) R2 N2 e5 e6 e7 cnt := ⟨t3', ⟨t4, m4, p0⟩, ⟨t5, m5, p3, k5⟩, ⟨t6, m6, p4, k6⟩, y5, y6, ⟨y7.1, y7.2.1, by rw [e8]; exact y7.2.2.1, y7.2.2.2⟩, by rw [e1]; exact c7, by rw [e8, e1]; exact hS, c0, c1⟩
  have hl2 : RA A T2 (va_up V (B + 3) (up (V (B + 3)) 8 S)) O (B + 10) cnt := fun j j0 j1 => by
    obtain ⟨b, eb, tb, v2, v3⟩ := hl j j0 j1
    have nb : b ≠ B + 3 := fun e => by rw [e, t3] at tb; cases tb
    exact ⟨b, eb, by rw [(X.1 b (by rw [tb]; decide)).1]; exact tb, by rw [vupV (Or.inl nb)]; exact v2, by rw [vupV (Or.inl nb)]; exact v3⟩
  have n4 : B + 4 ≠ e5 ∧ B + 4 ≠ e6 := ⟨fun e => by
    have q := y5.2.2.2
    rw [← e, k4] at q; omega, fun e => by
    have q := y6.2.2.2
    rw [← e, k4] at q; omega⟩
  have hw2 : ∀ f, 0 ≤ f → f < va_up V (B + 3) (up (V (B + 3)) 8 S) (B + 3) 1 → I2 (B + 4) f = A 14 f ∧ 1 ≤ A 14 f := fun f f0 f1 => by
    rw [e1] at f1
    rw [(X.1 (B + 4) (by rw [tw]; decide)).2.2.1]
    exact hw f f0 f1
  refine c_xo h2 t3' (by decide) (n_rxs h2 hP t10 m10 hl2 hw2 n4 (fun w3 I3 h3 i3 hr => ?_))
  refine c_xo h3 t3' (by decide) (n_lx (s := s) (le := le) h3 hP hr (by rw [e8]; exact hT) e18 (by rw [e1]; exact e13) (fun w4 I4 h4 i4 hE => ?_))
  have hr4 := (RX_7 hP hr i4).rb c0 c1 (Int32.le_refl _)
  have S0 : 0 < S := by clear hl hw hT g5 g6 g7 hr hr4 hE hS; lia
  have ix := hP.ix (a := 0) (x := 0) (by decide) c0 (by decide) (by rw [e8]; exact S0)
  have v0 := hE 0 0 (by decide) c0 (by decide) (by rw [e8]; exact S0)
  rw [e8, show (0 : Int32) * S + 0 = 0 by grind] at ix
  rw [e8, show (0 : Int32) * S + 0 = 0 by grind, show 256 * (0 : Int32) + (S - 1 - 0) = S - 1 by grind] at v0
  refine c_gRs h4 t3' y7.1 (by decide) (c_aI h4 y7.2.1 ix.1 ix.2 ?_)
  rw [v0]
  refine OK.ite (fun d => ?_) (fun d => OK.ret (by unfold fvl; rw [if_neg d]))
  have hl3 : ∀ j, 0 ≤ j → j < cnt → ∃ b, O (B + 10) j = some b ∧ T2 b = 1 := fun j j0 j1 => by
    obtain ⟨b, eb, tb, -⟩ := hl2 j j0 j1
    exact ⟨b, eb, tb⟩
  exact c_xo h4 t3' (by decide) (n_keep h4 hP hr4 t10 m10 hl3 (fun w5 I5 h5 i5 => c_pI h5 t3' (by decide) (fun w6 h6 => OK.ret (by unfold fvl; rw [if_pos d]))))
theorem n_faces_v {fl rs a5 a6 a7 : Int32} {r : Int32 → Int32} {k1 k2 k3 : Nat} (h : CW B w0 T V R I O N w) (hC : CI B T K V R O N) (hF : FR T sz) (hz : B + 29 ≤ sz) (hI : MI s A) (hS : SIM B V R I O N s A) (f0 : 0 ≤ fl) (f1 : fl ≤ 3) (hR : RI s A fl rs r) (he : rs = cntf s A fl) (hT : TB (up (up s 0 0) 18 rs) (upR A r) le ((1 : Int32) <<< (s 13 &&& 31)) 0) (hL : EL B R N a5 a6 a7) (b5 : a5 ≤ 20000) (b6 : a6 ≤ 20000) (b7 : a7 ≤ 20000) (g5 : (gw a5 (8 * cntC B V O fl)).toNatClampNeg ≤ k1) (g6 : (gw a6 (8 * cntC B V O fl)).toNatClampNeg ≤ k2) (g7 : (gw a7 ((cntC B V O fl + 1) * ((1 : Int32) <<< (V (B + 3) 1 &&& 31)))).toNatClampNeg ≤ k3) : OK (f_LM_faces k1 k2 k3 w sz B fl) (fun q => q.1 = .inl (fvl le ((1 : Int32) <<< (s 13 &&& 31)))) := by
  obtain ⟨⟨t0, t1, t2, t3, t4, t5, t6, t10⟩, ⟨m1, m2, m4, m5, m6, m10⟩, ⟨r0, r2, r4, r5, p0, p3, p4⟩, -, -⟩ := hC.1
  have c51 := hC.2.2.2.2.1.1
  have ce := cnt_eq hS.1 fl
  have sw := hS.2.2.1
  have e13 : s 13 = V (B + 3) 1 := sw.1.symm
  unfold f_LM_faces
  refine n_isWithin (fun a1 a2 => OK.ifN (by decide) ?_) (fun c => absurd ⟨f0, f1⟩ c)
  refine c_xo h t0 (by decide) (n_gather h hC (fun w1 c h1 hc => ?_))
  refine c_gRs h1 t0 r4 (by decide) (c_gRs h1 t0 r5 (by decide) (c_xo h1 t3 (by decide) ?_))
  have hl : RA (upR A r) T V (va_up O (B + 10) c) (B + 10) (cntC B V O fl) := fun j j0 j1 => by
    obtain ⟨b, eb, tb⟩ := hc.2.2 j j0 j1
    obtain ⟨x1, x2, x3⟩ := gat_eq hI hS.1 hc hR he j0 (by rw [he, ← ce]; exact j1)
    obtain ⟨⟨-, v2, v3, -⟩, -⟩ := hS.1.2 (r j) x2 x3
    have x4 : O (B + 1) (r j) = some b := by rw [← x1]; exact eb
    rw [la_eq x4] at v2 v3
    exact ⟨b, by rw [vup_s]; exact eb, tb, v2, v3⟩
  rw [e13] at hT
  refine OK.call (n_plan_v (A := upR A r) (s := up (up s 0 0) 18 rs) (le := le) h1 (CI_free hC) hF hz hc.2.1.1 (by have := hc.2.1.2; clear hC g5 g6 g7 hc hT hl hS hI hR; lia) hl (fun f z0 z1 => ?_) hT (by show rs = _; rw [he, ce]) e13 rfl hL b5 b6 b7 g5 g6 g7) (fun q hq => OK.ret (by rw [e13]; exact congrArg Sum.inl hq))
  rw [← e13] at z1
  exact ⟨sw.2 f z0 z1, (hI.2.2.2.2.2.2 f z0 z1).1⟩
theorem x_fk {x a5 a6 a7 : Int32} (h1 : CW B w T V R I O N w) (h2 : CI B T K V R O N) (h5 : EL B R N a5 a6 a7) (c : 0 ≤ x ∧ x ≤ 3) : xk5 w (some B) x = (gw a5 (8 * cntC B V O x)).toNatClampNeg ∧ xk6 w (some B) x = (gw a6 (8 * cntC B V O x)).toNatClampNeg ∧ xk7 w (some B) x = (gw a7 ((cntC B V O x + 1) * ((1 : Int32) <<< (V (B + 3) 1 &&& 31)))).toNatClampNeg := by
  obtain ⟨⟨t0, t1, t2, t3, t4, t5, t6, t10⟩, ⟨m1, m2, m4, m5, m6, m10⟩, ⟨r0, r2, r4, r5, p0, p3, p4⟩, -, e5, e6, e7, ⟨q5, u5, v5, -⟩, ⟨q6, u6, v6, -⟩, ⟨q7, u7, v7, -⟩⟩ := h2.1
  obtain ⟨x5, x6, x7, ⟨s5, y5⟩, ⟨s6, y6⟩, ⟨s7, y7⟩⟩ := id h5
  rw [q5] at s5; cases s5
  rw [q6] at s6; cases s6
  rw [q7] at s7; cases s7
  have kp : xkp w (some B) = some (B + 3) := by unfold xkp; rw [e_gR h1 t0 (by decide), r4]; rfl
  have k5 : xkn w (some (B + 3)) 5 = a5 := by unfold xkn; rw [e_gR h1 t3 (by decide), q5]; show (aL w (some e5) 0).getD 0 = a5; rw [e_aL h1 u5 v5]; exact y5
  have k6 : xkn w (some (B + 3)) 6 = a6 := by unfold xkn; rw [e_gR h1 t3 (by decide), q6]; show (aL w (some e6) 0).getD 0 = a6; rw [e_aL h1 u6 v6]; exact y6
  have k7 : xkn w (some (B + 3)) 7 = a7 := by unfold xkn; rw [e_gR h1 t3 (by decide), q7]; show (aL w (some e7) 0).getD 0 = a7; rw [e_aL h1 u7 v7]; exact y7
  have cc : xkc w (some B) x = cntC B V O x := by
    obtain ⟨q, eq, pq⟩ := OK.got (n_gather (F := fun q => some q) (P := fun q => q.1 = cntC B V O x) (fl := x) h1 h2 (fun w' c hw hc => OK.ret rfl))
    show (match f_LM_gatherFree w B x with | some q => q.1 | none => 0) = _
    rw [eq]
    exact pq
  have g1 : (gI w (some (B + 3)) 4 1).getD 0 = V (B + 3) 1 := by rw [e_gI h1 t3 (by decide)]; rfl
  exact ⟨by unfold xk5; rw [if_pos c, kp, k5, cc], by unfold xk6; rw [if_pos c, kp, k6, cc], by unfold xk7; rw [if_pos c, kp, k7, cc, g1]⟩
theorem st_faces {a : Int32} (h : LL B g w sz) : OK (f_Law_faces (xk5 w (some B) a) (xk6 w (some B) a) (xk7 w (some B) a) w sz (some B) a (some (B + 28))) (fun q => OK ((xo q.2.1 (some (B + 11)) 5).bind fun b_9 => f_Mod_faces q.2.1 b_9 a) (fun q2 => LL B (g + (xk5 w (some B) a + xk6 w (some B) a + xk7 w (some B) a)) q2.2 q.2.2 ∧ CM B q.1 q2.2 q2.1.toInt64)) := by
  obtain ⟨T, K, V, R, I, O, N, a5, a6, a7, s, A, hX⟩ := h.get
  obtain ⟨h1, h2, h3, h4, h5, h6, hM, hI, hO, hS⟩ := id hX
  obtain ⟨z1, z2⟩ := x_faces (x := a) h1 h2 h3 h4 h5 h6
  obtain ⟨q, eq, hq⟩ := z2
  have hv : 0 ≤ a → a ≤ 3 → ∀ rs r le, RI s A a rs r → rs = cntf s A a → TB (up (up s 0 0) 18 rs) (upR A r) le ((1 : Int32) <<< (s 13 &&& 31)) 0 → q.1 = .inl (fvl le ((1 : Int32) <<< (s 13 &&& 31))) := fun c1 c2 rs r le hR he hT => by
    obtain ⟨j5, j6, j7⟩ := x_fk (x := a) h1 h2 h5 ⟨c1, c2⟩
    obtain ⟨l5, l6, l7, lg⟩ := id h6
    obtain ⟨q', eq', hv⟩ := n_faces_v (k1 := xk5 w (some B) a) (k2 := xk6 w (some B) a) (k3 := xk7 w (some B) a) h1 h2 h3 h4 hI hS c1 c2 hR he hT h5 (by clear lg; lia) (by clear lg; lia) (by clear lg; lia) (by rw [j5]; exact Nat.le_refl _) (by rw [j6]; exact Nat.le_refl _) (by rw [j7]; exact Nat.le_refl _)
    rw [eq] at eq'
    cases eq'
    exact hv
  generalize hg : g + (xk5 w (some B) a + xk6 w (some B) a + xk7 w (some B) a) = g' at z1 hq ⊢
  unfold f_Law_faces
  refine c_xo h1 h2.1.1.1 (by decide) (OK.eq eq ?_)
  rcases hq with ⟨c1, rfl, c2⟩ | ⟨c1, c2, ⟨v, e1⟩, z3, T', K', V', R', I', N', c', n5, n6, n7, f1, f2, f3, f4, f5, f6, f7, f8, f9⟩
  · refine sw_r (OK.ifP rfl (OK.ret (k_xo hM <| (m_faces hM hI).mono (fun q2 hq2 => ?_))))
    rcases hq2 with ⟨-, e⟩ | ⟨d1, d2, -⟩
    · exact ⟨LL.fin (CX.of h1 hO) h2 (h3.le (by show sz ≤ sz + 1; omega)) (by show B + 29 ≤ sz + 1; omega) h5 c2 e (MI.sc rfl hI) (hS.code 1), CM.no e rfl ne1⟩
    · exact absurd ⟨d1, d2⟩ c1
  · have t0 := h2.1.1.1
    have t3 := h2.1.1.2.2.2.1
    have hS' : SIM B V' R' I' (va_up O (B + 10) c') N' s A := hS.keep h2 ⟨fun a j ta => f6 a j (Or.inl (fun z => by rw [z, t3] at ta; cases ta)), fun a j ta hj => f6 a j (Or.inl (fun z => by rw [z, t3] at ta; cases ta)), fun a ta => f6 a 0 (Or.inl (fun z => by rw [z, t3] at ta; cases ta)), ⟨f6 B 1 (Or.inl (by omega)), f6 B 3 (Or.inl (by omega)), f6 (B + 3) 1 (Or.inr ⟨by decide, by decide⟩)⟩, f4, fun g tg kg => f5 g (by rw [tg]; decide) (by omega) (by omega) (by omega) (by omega) (by omega), fun a ta na => vup_n na, fun a ta => (f3 a ta).2⟩
    rw [e1]
    refine sw_l ((CX.of f1 hO).put (fun w2 hx2 hf => OK.ret (k_xo (hx2.mod hM) <| (m_faces (hx2.mod hM) hI).mono (fun q2 hq2 => ?_))))
    have zz : B + 29 ≤ q.2.2 := by omega
    rcases hq2 with ⟨d, -⟩ | ⟨-, -, rs, r, le, pf, pm, hR, he, -, -, hT, ⟨d, e2, e⟩ | ⟨d, e2, e⟩⟩
    · exact absurd ⟨c1, c2⟩ d
    · have ev := hv c1 c2 rs r le hR he hT
      rw [e1] at ev
      have ev2 : v = -1 := by
        have := Sum.inl.inj ev
        rw [this]
        unfold fvl
        rw [if_neg (Int32.not_lt.mpr d)]
      refine ⟨LL.fin hx2 f2 f7 zz f8 f9 e (MI_congr hI rfl rfl rfl rfl rfl rfl rfl rfl rfl rfl rfl) (hS'.ref rfl rfl rfl (fun k hk => by simp [upL, upR, Nat.ne_of_lt (Nat.lt_of_lt_of_le hk (by decide : 15 ≤ 20)), Nat.ne_of_lt (Nat.lt_of_lt_of_le hk (by decide : 15 ≤ 19))])), ?_⟩
      rw [e2, ← ev2]
      exact CM.yes e rfl hf
    · have ev := hv c1 c2 rs r le hR he hT
      rw [e1] at ev
      have ev2 : v = le ((1 : Int32) <<< (s 13 &&& 31) - 1) := by
        have := Sum.inl.inj ev
        rw [this]
        unfold fvl
        rw [if_pos d]
      refine ⟨LL.fin hx2 f2 f7 zz f8 f9 e (MI_congr hI rfl rfl rfl rfl rfl rfl rfl rfl rfl rfl rfl) (hS'.ref rfl rfl rfl (fun k hk => by simp [upW, upL, upR, Nat.ne_of_lt (Nat.lt_of_lt_of_le hk (by decide : 15 ≤ 16)), Nat.ne_of_lt (Nat.lt_of_lt_of_le hk (by decide : 15 ≤ 17)), Nat.ne_of_lt (Nat.lt_of_lt_of_le hk (by decide : 15 ≤ 20)), Nat.ne_of_lt (Nat.lt_of_lt_of_le hk (by decide : 15 ≤ 19))])), ?_⟩
      rw [e2, ← ev2]
      exact CM.yes e rfl hf
end CPz
