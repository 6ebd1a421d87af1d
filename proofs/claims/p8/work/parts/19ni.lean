/-! the class: faces -/
section CPi
variable {B : Nat} {w0 : Mp} {T K : Nat → Nat} {V : Nat → Nat → Int32} {R : Nat → Nat → Option Nat} {I : Nat → Int32 → Int32} {O : Nat → Int32 → Option Nat} {N : Nat → Int32} {w : Mp} {sz : Nat} {β : Type} {P : β → Prop}
/-- the lengths of the planner's three arrays, and how they grow to the lengths wanted -/
def EL (B : Nat) (R : Nat → Nat → Option Nat) (N : Nat → Int32) (a5 a6 a7 : Int32) : Prop := ∃ e5 e6 e7, (R (B + 3) 5 = some e5 ∧ N e5 = a5) ∧ (R (B + 3) 6 = some e6 ∧ N e6 = a6) ∧ (R (B + 3) 7 = some e7 ∧ N e7 = a7)
def grw (n len n' : Int32) : Prop := (¬ n < len ∧ n' = n) ∨ (n < len ∧ n' = gw n len)
theorem ar_c1 {c S : Int32} (c0 : 0 ≤ c) (c1 : c ≤ 32) (S0 : 1 ≤ S) (S1 : S ≤ 256) : 0 ≤ (c + 1) * S ∧ (c + 1) * S ≤ 10000 := by
  have z := ar_sx (a := 0) (c := c) (x := 0) (S := S) (by decide) c0 c1 (by decide) (by lia) S1
  have z2 := ar_sx (a := c) (c := 32) (x := S - 1) (S := S) c0 c1 (by decide) (by lia) (by lia) S1
  have e : c * S + (S - 1) + 1 = (c + 1) * S := by grind
  have z3 : (32 + 1) * S ≤ 9000 := by clear z z2 e; lia
  constructor
  · lia
  · rw [← e]; clear e z; lia
theorem n_room {F : Unit × Mp × Nat → Option β} {k1 k2 k3 : Nat} {cnt a5 a6 a7 : Int32} (h : CW B w0 T V R I O N w) (hC : CI B T K V R O N) (hF : FR T sz) (hz : B + 29 ≤ sz) (c0 : 0 ≤ cnt) (c1 : cnt ≤ 32) (S0 : 1 ≤ V (B + 3) 8) (S1 : V (B + 3) 8 ≤ 256) (hL : EL B R N a5 a6 a7) (b5 : a5 ≤ 20000) (b6 : a6 ≤ 20000) (b7 : a7 ≤ 20000) (g5 : (gw a5 (8 * cnt)).toNatClampNeg ≤ k1) (g6 : (gw a6 (8 * cnt)).toNatClampNeg ≤ k2) (g7 : (gw a7 ((cnt + 1) * V (B + 3) 8)).toNatClampNeg ≤ k3) (hp : ∀ w' T' K' R' I' N' e5 e6 e7 z n5 n6 n7, CW B w0 T' V R' I' O N' w' → CI B T' K' V R' O N' → GX B T T' K K' R R' I I' N N' → FR T' z → sz ≤ z → z ≤ sz + 3 → (R' (B + 3) 5 = some e5 ∧ T' e5 = 5 ∧ 8 * cnt ≤ N' e5 ∧ K' e5 = 5) → (R' (B + 3) 6 = some e6 ∧ T' e6 = 5 ∧ 8 * cnt ≤ N' e6 ∧ K' e6 = 6) → (R' (B + 3) 7 = some e7 ∧ T' e7 = 5 ∧ (cnt + 1) * V (B + 3) 8 ≤ N' e7 ∧ K' e7 = 7) → EL B R' N' n5 n6 n7 → grw a5 (8 * cnt) n5 → grw a6 (8 * cnt) n6 → grw a7 ((cnt + 1) * V (B + 3) 8) n7 → OK (F ((), w', z)) P) : OK ((f_Plan_makeRoom k1 k2 k3 w sz (B + 3) cnt).bind F) P := by
  obtain ⟨-, -, -, -, e5, e6, e7, ⟨r5, u5, m5, q5⟩, ⟨r6, u6, m6, q6⟩, ⟨r7, u7, m7, q7⟩⟩ := hC.1
  obtain ⟨e5', e6', e7', ⟨s5, v5⟩, ⟨s6, v6⟩, ⟨s7, v7⟩⟩ := hL
  rw [r5] at s5; cases s5
  rw [r6] at s6; cases s6
  rw [r7] at s7; cases s7
  subst v5 v6 v7
  have t3 := hC.1.1.2.2.2.1
  have l8 : 0 ≤ 8 * cnt ∧ 8 * cnt ≤ 10000 := by constructor <;> lia
  have lS := ar_c1 c0 c1 S0 S1
  unfold f_Plan_makeRoom
  rw [show cnt * 8 = 8 * cnt from Int32.mul_comm _ _]
  refine OK.bind (c_gRs h t3 r5 (by decide) ?_)
  refine n_grow h hC hF hz (Or.inl rfl) r5 u5 q5 m5 b5 l8.1 l8.2 g5 (fun w1 T1 K1 R1 I1 N1 x5 z1 h1 hC1 X1 hF1 z1a z1b y1 y2 y3 y4 y5 y6 y7 => ?_)
  have f6 := X1.1 e6 (by rw [u6]; decide)
  have f7 := X1.1 e7 (by rw [u7]; decide)
  refine c_gRs h1 (hC1.1.1.2.2.2.1) (by rw [y7 6 (by decide)]; exact r6) (by decide) ?_
  refine n_grow h1 hC1 hF1 (by omega) (Or.inr (Or.inl rfl)) (by rw [y7 6 (by decide)]; exact r6) (by rw [f6.1]; exact u6) (by rw [f6.2.1]; exact q6) (by rw [f6.2.2.2]; exact m6) (by rw [f6.2.2.2]; exact b6) l8.1 l8.2 (by rw [f6.2.2.2]; exact g6) (fun w2 T2 K2 R2 I2 N2 x6 z2 h2 hC2 X2 hF2 z2a z2b p1 p2 p3 p4 p5 p6 p7 => ?_)
  have X12 := X1.tr X2
  have f7' := X12.1 e7 (by rw [u7]; decide)
  have fx5 := X2.1 x5 (by rw [y2]; decide)
  refine c_gRs h2 (hC2.1.1.2.2.2.1) (by rw [p7 7 (by decide), y7 7 (by decide)]; exact r7) (by decide) (c_gI h2 (hC2.1.1.2.2.2.1) (by decide) ?_)
  refine n_grow h2 hC2 hF2 (by omega) (Or.inr (Or.inr rfl)) (by rw [p7 7 (by decide), y7 7 (by decide)]; exact r7) (by rw [f7'.1]; exact u7) (by rw [f7'.2.1]; exact q7) (by rw [f7'.2.2.2]; exact m7) (by rw [f7'.2.2.2]; exact b7) lS.1 lS.2 (by rw [f7'.2.2.2]; exact g7) (fun w3 T3 K3 R3 I3 N3 x7 z3 h3 hC3 X3 hF3 z3a z3b d1 d2 d3 d4 d5 d6 d7 => OK.ret ?_)
  have gx5 := X3.1 x5 (by rw [fx5.1, y2]; decide)
  have gx6 := X3.1 x6 (by rw [p2]; decide)
  rw [f6.2.2.2] at p6
  rw [f7'.2.2.2] at d6
  have a5 : R3 (B + 3) 5 = some x5 := by rw [d7 5 (by decide), p7 5 (by decide)]; exact y1
  have a6 : R3 (B + 3) 6 = some x6 := by rw [d7 6 (by decide)]; exact p1
  refine hp w3 T3 K3 R3 I3 N3 x5 x6 x7 z3.2.2 (N3 x5) (N3 x6) (N3 x7) h3 hC3 (X12.tr X3) hF3 (by omega) (by omega) ⟨a5, ?_, ?_, ?_⟩ ⟨a6, ?_, ?_, ?_⟩ ⟨d1, d2, d4, d3⟩ ⟨x5, x6, x7, ⟨a5, rfl⟩, ⟨a6, rfl⟩, ⟨d1, rfl⟩⟩ ?_ ?_ d6
  · rw [gx5.1, fx5.1]; exact y2
  · rw [gx5.2.2.2, fx5.2.2.2]; exact y4
  · rw [gx5.2.1, fx5.2.1]; exact y3
  · rw [gx6.1]; exact p2
  · rw [gx6.2.2.2]; exact p4
  · rw [gx6.2.1]; exact p3
  · rw [gx5.2.2.2, fx5.2.2.2]; exact y6
  · rw [gx6.2.2.2]; exact p6
/-- what a call of the planner may change -/
def PLV (B : Nat) (V V' : Nat → Nat → Int32) : Prop := ∀ a j, (a ≠ B + 3 ∨ (j ≠ 2 ∧ j ≠ 8)) → V' a j = V a j
theorem n_plan {F : Int32 × Mp × Nat → Option β} {k1 k2 k3 : Nat} {cnt a5 a6 a7 S : Int32} (h : CW B w0 T V R I O N w) (hC : CI B T K V R O N) (hF : FR T sz) (hz : B + 29 ≤ sz) (c0 : 0 ≤ cnt) (c1 : cnt ≤ 32) (hl : ∀ j, 0 ≤ j → j < cnt → ∃ b, O (B + 10) j = some b ∧ T b = 1) (hS : S = (1 : Int32) <<< (V (B + 3) 1 &&& 31)) (hL : EL B R N a5 a6 a7) (b5 : a5 ≤ 20000) (b6 : a6 ≤ 20000) (b7 : a7 ≤ 20000) (g5 : (gw a5 (8 * cnt)).toNatClampNeg ≤ k1) (g6 : (gw a6 (8 * cnt)).toNatClampNeg ≤ k2) (g7 : (gw a7 ((cnt + 1) * S)).toNatClampNeg ≤ k3) (hp : ∀ v w' T' K' V' R' I' N' z n5 n6 n7, CW B w0 T' V' R' I' O N' w' → CI B T' K' V' R' O N' → (∀ a, T a ≠ 10 → T' a = T a ∧ N' a = N a) → (∀ a, T a ≠ 10 → a ≠ B + 3 → R' a = R a) → (∀ a, T a ≠ 10 → K a ≠ 5 → K a ≠ 6 → K a ≠ 7 → K a ≠ 2 → K a ≠ 3 → I' a = I a) → PLV B V V' → FR T' z → sz ≤ z → z ≤ sz + 3 → EL B R' N' n5 n6 n7 → grw a5 (8 * cnt) n5 → grw a6 (8 * cnt) n6 → grw a7 ((cnt + 1) * S) n7 → OK (F (v, w', z)) P) : OK ((f_Plan_planFrom k1 k2 k3 w sz (B + 3) (some (B + 10)) cnt).bind F) P := by
  have c7 := hC.2.2.2.2.2.2
  have t3 := hC.1.1.2.2.2.1
  have al := al_b c7.1 c7.2
  rw [← hS] at al
  unfold f_Plan_planFrom
  refine OK.bind (c_gI h t3 (by decide) ?_)
  rw [← hS]
  refine c_pI h t3 (by decide) (fun w1 h1 => c_xo h1 t3 (by decide) ?_)
  have hC1 : CI B T K (va_up V (B + 3) (up (V (B + 3)) 8 S)) R O N := CI_up hC (Or.inr (Or.inr ⟨rfl, by decide⟩))
  have e8 : va_up V (B + 3) (up (V (B + 3)) 8 S) (B + 3) 8 = S := vupVs
  have e1 : va_up V (B + 3) (up (V (B + 3)) 8 S) (B + 3) 1 = V (B + 3) 1 := vupV (Or.inr (by decide))
  refine n_room h1 hC1 hF hz c0 c1 (by rw [e8]; exact al.1) (by rw [e8]; exact al.2) hL b5 b6 b7 g5 g6 (by rw [e8]; exact g7) (fun w2 T2 K2 R2 I2 N2 e5 e6 e7 z n5 n6 n7 h2 hC2 X hF2 za zb y5 y6 y7 hL2 r5 r6 r7 => ?_)
  rw [e8] at y7 r7
  obtain ⟨⟨t0, t1, t2, t3', t4, t5, t6, t10⟩, ⟨m1, m2, m4, m5, m6, m10⟩, ⟨r0, r2, r4, r5', p0, p3, p4⟩, ⟨k4, k5, k6⟩, -⟩ := hC2.1
  have hP : PC B T2 K2 (va_up V (B + 3) (up (V (B + 3)) 8 S)) R2 N2 e5 e6 e7 cnt := ⟨t3', ⟨t4, m4, p0⟩, ⟨t5, m5, p3, k5⟩, ⟨t6, m6, p4, k6⟩, y5, y6, ⟨y7.1, y7.2.1, by rw [e8]; exact y7.2.2.1, y7.2.2.2⟩, by rw [e1]; exact c7, by rw [e8, e1]; exact hS, c0, c1⟩
  have hl2 : ∀ j, 0 ≤ j → j < cnt → ∃ b, O (B + 10) j = some b ∧ T2 b = 1 := fun j j0 j1 => by
    obtain ⟨b, eb, tb⟩ := hl j j0 j1
    exact ⟨b, eb, by rw [(X.1 b (by rw [tb]; decide)).1]; exact tb⟩
  refine c_xo h2 t3' (by decide) (n_rows h2 hP t10 m10 hl2 (fun w3 I3 h3 i3 hr => ?_))
  refine c_xo h3 t3' (by decide) (n_ll h3 hP hr (fun w4 I4 h4 i4 => ?_))
  have hr4 := RB_7 hP hr i4
  have ix := hP.ix (a := 0) (x := 0) (by decide) c0 (by decide) (by rw [e8]; clear hl hp g5 g6 g7 hr hr4; lia)
  rw [e8, show (0 : Int32) * S + 0 = 0 by grind] at ix
  refine c_gRs h4 t3' y7.1 (by decide) (c_aI h4 y7.2.1 ix.1 ix.2 ?_)
  have tn : ∀ a, T a ≠ 10 → T2 a = T a ∧ N2 a = N a := fun a ha => ⟨(X.1 a ha).1, (X.1 a ha).2.2.2⟩
  have io : ∀ a, T a ≠ 10 → K a ≠ 5 → K a ≠ 6 → K a ≠ 7 → I4 a = I a := fun a ha h5 h6 h7 => by
    have x := X.1 a ha
    have d5 : a ≠ e5 := fun e => h5 (by rw [← x.2.1, e]; exact y5.2.2.2)
    have d6 : a ≠ e6 := fun e => h6 (by rw [← x.2.1, e]; exact y6.2.2.2)
    have d7 : a ≠ e7 := fun e => h7 (by rw [← x.2.1, e]; exact y7.2.2.2)
    rw [i4 a d7, i3 a d5 d6, x.2.2.1]
  refine OK.ite (fun _ => ?_) (fun _ => OK.ret (hp _ w4 T2 K2 _ R2 I4 N2 z n5 n6 n7 h4 hC2 tn X.2.1 (fun a ha h5 h6 h7 _ _ => io a ha h5 h6 h7) (fun a j hj => vupV (hj.imp id (fun q => q.2))) hF2 za zb hL2 r5 r6 r7))
  refine c_xo h4 t3' (by decide) (n_keep h4 hP hr4 t10 m10 hl2 (fun w5 I5 h5 i5 => c_pI h5 t3' (by decide) (fun w6 h6 => OK.ret ?_)))
  refine hp _ w6 T2 K2 _ R2 I5 N2 z n5 n6 n7 h6 (CI_up hC2 (Or.inr (Or.inr ⟨rfl, by decide⟩))) tn X.2.1 (fun a ha h5 h6 h7 h2 h3 => ?_) (fun a j hj => ?_) hF2 za zb hL2 r5 r6 r7
  · have x := X.1 a ha
    rw [i5 a (fun e => h2 (by rw [← x.2.1, e]; exact k5)) (fun e => h3 (by rw [← x.2.1, e]; exact k6))]
    exact io a ha h5 h6 h7
  · rw [vupV (hj.imp id (fun q => q.1)), vupV (hj.imp id (fun q => q.2))]
theorem n_faces {fl a5 a6 a7 S : Int32} {k1 k2 k3 : Nat} (h : CW B w0 T V R I O N w) (hC : CI B T K V R O N) (hF : FR T sz) (hz : B + 29 ≤ sz) (hS : S = (1 : Int32) <<< (V (B + 3) 1 &&& 31)) (hL : EL B R N a5 a6 a7) (b5 : a5 ≤ 20000) (b6 : a6 ≤ 20000) (b7 : a7 ≤ 20000) (g5 : (gw a5 (8 * cntC B V O fl)).toNatClampNeg ≤ k1) (g6 : (gw a6 (8 * cntC B V O fl)).toNatClampNeg ≤ k2) (g7 : (gw a7 ((cntC B V O fl + 1) * S)).toNatClampNeg ≤ k3) : OK (f_LM_faces k1 k2 k3 w sz B fl) (fun q => (¬ (0 ≤ fl ∧ fl ≤ 3) ∧ q = (.inr 1, w, sz + 1)) ∨
    (0 ≤ fl ∧ fl ≤ 3 ∧ (∃ v, q.1 = .inl v) ∧ sz ≤ q.2.2 ∧ q.2.2 ≤ sz + 3 ∧ ∃ T' K' V' R' I' N' c n5 n6 n7, CW B w0 T' V' R' I' (va_up O (B + 10) c) N' q.2.1 ∧ CI B T' K' V' R' (va_up O (B + 10) c) N' ∧ (∀ a, T a ≠ 10 → T' a = T a ∧ N' a = N a) ∧ (∀ a, T a ≠ 10 → a ≠ B + 3 → R' a = R a) ∧ (∀ a, T a ≠ 10 → K a ≠ 5 → K a ≠ 6 → K a ≠ 7 → K a ≠ 2 → K a ≠ 3 → I' a = I a) ∧ PLV B V V' ∧ FR T' q.2.2 ∧ EL B R' N' n5 n6 n7 ∧ grw a5 (8 * cntC B V O fl) n5 ∧ grw a6 (8 * cntC B V O fl) n6 ∧ grw a7 ((cntC B V O fl + 1) * S) n7)) := by
  obtain ⟨⟨t0, t1, t2, t3, t4, t5, t6, t10⟩, ⟨m1, m2, m4, m5, m6, m10⟩, ⟨r0, r2, r4, r5, p0, p3, p4⟩, -, -⟩ := hC.1
  have c51 := hC.2.2.2.2.1.1
  unfold f_LM_faces
  refine n_isWithin (fun a1 a2 => OK.ifN (by decide) ?_) (fun c => OK.ifP rfl (OK.ret (Or.inl ⟨c, rfl⟩)))
  refine c_xo h t0 (by decide) (n_gather h hC (fun w1 c h1 hc => ?_))
  refine c_gRs h1 t0 r4 (by decide) (c_gRs h1 t0 r5 (by decide) (c_xo h1 t3 (by decide) ?_))
  refine n_plan h1 (CI_free hC) hF hz hc.2.1.1 (by have := hc.2.1.2; clear hC g5 g6 g7 hc; lia) (fun j j0 j1 => by rw [vup_s]; exact hc.2.2 j j0 j1) hS hL b5 b6 b7 g5 g6 g7 (fun v w' T' K' V' R' I' N' z n5 n6 n7 q1 q2 q3 q4 q5 q6 q7 q8 q9 q10 q11 q12 q13 => OK.ret (Or.inr ⟨a1, a2, ⟨v, rfl⟩, q8, q9, T', K', V', R', I', N', c, n5, n6, n7, q1, q2, q3, q4, q5, q6, q7, q10, q11, q12, q13⟩))
end CPi
