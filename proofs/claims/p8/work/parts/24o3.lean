/-! faces between the calls, with what its room costs -/
section OL3
variable {B : Nat} {w0 w w' : Mp} {T K : Nat → Nat} {V V' : Nat → Nat → Int32} {R : Nat → Nat → Option Nat} {I : Nat → Int32 → Int32} {O : Nat → Int32 → Option Nat} {N : Nat → Int32} {s : Nat → Int32} {A : Nat → Int32 → Int32} {sz g : Nat}
theorem OK.got {α : Type} {x : Option α} {P : α → Prop} (h : OK (x.bind fun a => some a) P) : ∃ a, x = some a ∧ P a := by
  obtain ⟨a, e, p⟩ := h
  cases x with
  | none => cases e
  | some b => cases e; exact ⟨_, rfl, p⟩
theorem e_gR {a ci k : Nat} (h : CW B w0 T V R I O N w) (ht : T a = ci) (hk : (decide (ci < 5) && crf ci k) = true) : gR w (some a) ci k = some (R a k) := by
  obtain ⟨x, e, p⟩ := OK.got (c_gR (F := fun a => some a) (P := fun x => x = R a k) h ht hk (OK.ret rfl))
  rw [e, p]
theorem e_gI {a ci k : Nat} (h : CW B w0 T V R I O N w) (ht : T a = ci) (hk : (decide (ci < 5) && cin ci k) = true) : gI w (some a) ci k = some (V a k) := by
  obtain ⟨x, e, p⟩ := OK.got (c_gI (F := fun a => some a) (P := fun x => x = V a k) h ht hk (OK.ret rfl))
  rw [e, p]
theorem e_aL {a : Nat} (h : CW B w0 T V R I O N w) (ht : T a = 5) (hn : 0 ≤ N a) : aL w (some a) 0 = some (N a) := by
  obtain ⟨x, e, p⟩ := OK.got (c_aLi (F := fun a => some a) (P := fun x => x = N a) h ht hn (OK.ret rfl))
  rw [e, p]
theorem gw_lim {n len m : Int32} (n0 : 0 ≤ n) (l0 : 0 ≤ len) (hl : len ≤ m) (m1 : m ≤ 10000) (n1 : n ≤ 2 * m) : (0 ≤ gw n len ∧ gw n len ≤ 2 * m) ∧ ∀ n', grw n len n' → (0 ≤ n' ∧ n' ≤ 2 * m) ∧ (gw n len).toNatClampNeg + 2 * n.toNatClampNeg ≤ 2 * n'.toNatClampNeg := by
  have gb : 0 ≤ gw n len ∧ gw n len ≤ 2 * m := by
    unfold gw
    by_cases c : n < len
    · rw [if_pos c]
      by_cases d : len < 2 * n
      · rw [if_pos d]; constructor <;> lia
      · rw [if_neg d]; constructor <;> lia
    · rw [if_neg c]; constructor <;> lia
  refine ⟨gb, fun n' h => ?_⟩
  rcases h with ⟨c, rfl⟩ | ⟨c, rfl⟩
  · refine ⟨⟨n0, n1⟩, ?_⟩
    have e : gw n' len = 0 := if_neg c
    rw [e, show (0 : Int32).toNatClampNeg = 0 by decide]
    omega
  · refine ⟨gb, ?_⟩
    have g2 : 2 * n ≤ gw n len := by
      unfold gw
      rw [if_pos c]
      by_cases d : len < 2 * n
      · rw [if_pos d]; exact Int32.le_refl _
      · rw [if_neg d]; clear gb; lia
    have a := cl_int n0
    have b := cl_int gb.1
    have e2 : (2 * n).toInt = 2 * n.toInt := by
      have n2 : n ≤ 20000 := by clear gb g2; lia
      rw [Int32.le_iff_toInt_le, show (20000 : Int32).toInt = 20000 by decide] at n2
      rw [Int32.le_iff_toInt_le, show (0 : Int32).toInt = 0 by decide] at n0
      rw [Int32.toInt_mul, show (2 : Int32).toInt = 2 by decide, Int.bmod_eq_of_le (by omega) (by omega)]
    rw [Int32.le_iff_toInt_le, e2] at g2
    omega
theorem ar_m7 {c S : Int32} (c0 : 0 ≤ c) (c1 : c ≤ 32) (S0 : 1 ≤ S) (S1 : S ≤ 256) : 0 ≤ (c + 1) * S ∧ (c + 1) * S ≤ 8448 := by
  have z2 := ar_sx (a := c) (c := 32) (x := S - 1) (S := S) c0 c1 (by decide) (by lia) (by lia) S1
  have z := ar_sx (a := 0) (c := c) (x := 0) (S := S) (by decide) c0 c1 (by decide) (by lia) S1
  have e : c * S + (S - 1) + 1 = (c + 1) * S := by grind
  have z3 : (32 + 1) * S ≤ 8448 := by clear z z2 e; lia
  constructor
  · lia
  · rw [← e]; clear e z; lia
theorem cl_le {x : Int32} {m : Nat} (h0 : 0 ≤ x) (h : x ≤ Int32.ofNat m) (hm : m < 2147483648) : x.toNatClampNeg ≤ m := by
  have a := cl_int h0
  rw [Int32.le_iff_toInt_le, Int32.toInt_ofNat_of_lt hm] at h
  omega
theorem o_faces {n x : Int32} (h : LC B g w sz n) : g + (xk5 w (some B) x + xk6 w (some B) x + xk7 w (some B) x) ≤ 40000 ∧ OK (f_LM_faces (xk5 w (some B) x) (xk6 w (some B) x) (xk7 w (some B) x) w sz B x) (CR B (g + (xk5 w (some B) x + xk6 w (some B) x + xk7 w (some B) x)) w n [1]) := by
  have h0 := h
  obtain ⟨T, K, V, R, I, O, N, a5, a6, a7, h1, h2, h3, h4, h5, ⟨l5, l6, l7, lg⟩, h7⟩ := h
  obtain ⟨⟨t0, t1, t2, t3, t4, t5, t6, t10⟩, ⟨m1, m2, m4, m5, m6, m10⟩, ⟨r0, r2, r4, r5, p0, p3, p4⟩, -, e5, e6, e7, ⟨q5, u5, v5, -⟩, ⟨q6, u6, v6, -⟩, ⟨q7, u7, v7, -⟩⟩ := h2.1
  obtain ⟨x5, x6, x7, ⟨s5, y5⟩, ⟨s6, y6⟩, ⟨s7, y7⟩⟩ := id h5
  rw [q5] at s5; cases s5
  rw [q6] at s6; cases s6
  rw [q7] at s7; cases s7
  have c7 := h2.2.2.2.2.2.2
  have al := al_b c7.1 c7.2
  have kp : xkp w (some B) = some (B + 3) := by unfold xkp; rw [e_gR h1 t0 (by decide), r4]; rfl
  have k5 : xkn w (some (B + 3)) 5 = a5 := by unfold xkn; rw [e_gR h1 t3 (by decide), q5]; show (aL w (some e5) 0).getD 0 = a5; rw [e_aL h1 u5 v5]; exact y5
  have k6 : xkn w (some (B + 3)) 6 = a6 := by unfold xkn; rw [e_gR h1 t3 (by decide), q6]; show (aL w (some e6) 0).getD 0 = a6; rw [e_aL h1 u6 v6]; exact y6
  have k7 : xkn w (some (B + 3)) 7 = a7 := by unfold xkn; rw [e_gR h1 t3 (by decide), q7]; show (aL w (some e7) 0).getD 0 = a7; rw [e_aL h1 u7 v7]; exact y7
  have cc : xkc w (some B) x = cntC B V O x ∧ 0 ≤ cntC B V O x ∧ cntC B V O x ≤ 32 := by
    obtain ⟨q, eq, pq⟩ := OK.got (n_gather (F := fun q => some q) (P := fun q => q.1 = cntC B V O x ∧ 0 ≤ cntC B V O x ∧ cntC B V O x ≤ V B 1) (fl := x) h1 h2 (fun w' c hw hc => OK.ret ⟨rfl, hc.2.1⟩))
    have b := h2.2.2.2.2.1.1.2
    refine ⟨?_, pq.2.1, by have := pq.2.2; clear pq c7 al lg; lia⟩
    show (match f_LM_gatherFree w B x with | some q => q.1 | none => 0) = _
    rw [eq]
    exact pq.1
  have g1 : (gI w (some (B + 3)) 4 1).getD 0 = V (B + 3) 1 := by rw [e_gI h1 t3 (by decide)]; rfl
  have L5 := gw_lim (n := a5) (len := 8 * cntC B V O x) (m := 256) l5.1 (by clear lg; lia) (by clear lg; lia) (by decide) (by clear lg; lia)
  have L6 := gw_lim (n := a6) (len := 8 * cntC B V O x) (m := 256) l6.1 (by clear lg; lia) (by clear lg; lia) (by decide) (by clear lg; lia)
  have m7 := ar_m7 cc.2.1 cc.2.2 al.1 al.2
  have L7 := gw_lim (n := a7) (len := (cntC B V O x + 1) * ((1 : Int32) <<< (V (B + 3) 1 &&& 31))) (m := 8448) l7.1 m7.1 m7.2 (by decide) l7.2
  have G5 := cl_le (m := 512) L5.1.1 L5.1.2 (by decide)
  have G6 := cl_le (m := 512) L6.1.1 L6.1.2 (by decide)
  have G7 := cl_le (m := 16896) L7.1.1 L7.1.2 (by decide)
  have A5 := cl_le (m := 512) l5.1 l5.2 (by decide)
  have A6 := cl_le (m := 512) l6.1 l6.2 (by decide)
  have A7 := cl_le (m := 16896) l7.1 l7.2 (by decide)
  by_cases c : 0 ≤ x ∧ x ≤ 3
  · have X5 : xk5 w (some B) x = (gw a5 (8 * cntC B V O x)).toNatClampNeg := by unfold xk5; rw [if_pos c, kp, k5, cc.1]
    have X6 : xk6 w (some B) x = (gw a6 (8 * cntC B V O x)).toNatClampNeg := by unfold xk6; rw [if_pos c, kp, k6, cc.1]
    have X7 : xk7 w (some B) x = (gw a7 ((cntC B V O x + 1) * ((1 : Int32) <<< (V (B + 3) 1 &&& 31)))).toNatClampNeg := by unfold xk7; rw [if_pos c, kp, k7, cc.1, g1]
    rw [X5, X6, X7]
    have Z5 : ∀ n', grw a5 (8 * cntC B V O x) n' → n'.toNatClampNeg ≤ 512 := fun n' hg => cl_le (m := 512) (L5.2 n' hg).1.1 (L5.2 n' hg).1.2 (by decide)
    have Z6 : ∀ n', grw a6 (8 * cntC B V O x) n' → n'.toNatClampNeg ≤ 512 := fun n' hg => cl_le (m := 512) (L6.2 n' hg).1.1 (L6.2 n' hg).1.2 (by decide)
    have Z7 : ∀ n', grw a7 ((cntC B V O x + 1) * ((1 : Int32) <<< (V (B + 3) 1 &&& 31))) n' → n'.toNatClampNeg ≤ 16896 := fun n' hg => cl_le (m := 16896) (L7.2 n' hg).1.1 (L7.2 n' hg).1.2 (by decide)
    refine ⟨?_, (n_faces (k1 := (gw a5 (8 * cntC B V O x)).toNatClampNeg) (k2 := (gw a6 (8 * cntC B V O x)).toNatClampNeg) (k3 := (gw a7 ((cntC B V O x + 1) * ((1 : Int32) <<< (V (B + 3) 1 &&& 31)))).toNatClampNeg) h1 h2 h3 h4 rfl h5 (by clear lg; lia) (by clear lg; lia) (by clear lg; lia) (Nat.le_refl _) (Nat.le_refl _) (Nat.le_refl _)).mono (fun q hq => ?_)⟩
    · have y5 : ∃ n', grw a5 (8 * cntC B V O x) n' := by
        by_cases d : a5 < 8 * cntC B V O x
        · exact ⟨_, Or.inr ⟨d, rfl⟩⟩
        · exact ⟨_, Or.inl ⟨d, rfl⟩⟩
      have y6 : ∃ n', grw a6 (8 * cntC B V O x) n' := by
        by_cases d : a6 < 8 * cntC B V O x
        · exact ⟨_, Or.inr ⟨d, rfl⟩⟩
        · exact ⟨_, Or.inl ⟨d, rfl⟩⟩
      have y7 : ∃ n', grw a7 ((cntC B V O x + 1) * ((1 : Int32) <<< (V (B + 3) 1 &&& 31))) n' := by
        by_cases d : a7 < (cntC B V O x + 1) * ((1 : Int32) <<< (V (B + 3) 1 &&& 31))
        · exact ⟨_, Or.inr ⟨d, rfl⟩⟩
        · exact ⟨_, Or.inl ⟨d, rfl⟩⟩
      obtain ⟨n5, hn5⟩ := y5
      obtain ⟨n6, hn6⟩ := y6
      obtain ⟨n7, hn7⟩ := y7
      have a1 := (L5.2 n5 hn5).2
      have a2 := (L6.2 n6 hn6).2
      have a3 := (L7.2 n7 hn7).2
      have b1 := Z5 n5 hn5
      have b2 := Z6 n6 hn6
      have b3 := Z7 n7 hn7
      omega
    · rcases hq with ⟨d, -⟩ | ⟨-, -, ⟨v, d⟩, z1, z2, T', K', V', R', I', N', c', n5, n6, n7, f1, f2, f3, f4, f5, f6, f7, f8, f9, f10, f11⟩
      · exact absurd c d
      have a1 := L5.2 n5 f9
      have a2 := L6.2 n6 f10
      have a3 := L7.2 n7 f11
      refine ⟨⟨T', K', V', R', I', _, N', n5, n6, n7, CW_re f1 (fun _ _ => rfl), f2, f7, by omega, f8, ⟨a1.1, a2.1, a3.1, ?_⟩, ?_⟩, fun x x1 x2 => CW_fr f1 x1 x2, Or.inl ⟨v, d⟩⟩
      · have b1 := a1.2
        have b2 := a2.2
        have b3 := a3.2
        omega
      · rw [f6 (B + 3) 1 (Or.inr ⟨by decide, by decide⟩)]
        exact h7
  · have X5 : xk5 w (some B) x = 0 := by unfold xk5; rw [if_neg c]
    have X6 : xk6 w (some B) x = 0 := by unfold xk6; rw [if_neg c]
    have X7 : xk7 w (some B) x = 0 := by unfold xk7; rw [if_neg c]
    rw [X5, X6, X7]
    refine ⟨by omega, ?_⟩
    unfold f_LM_faces
    refine n_isWithin (fun a1 a2 => absurd ⟨a1, a2⟩ c) (fun _ => OK.ifP rfl (OK.ret ?_))
    exact CR.no h0 (by decide)
end OL3
