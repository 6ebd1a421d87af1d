/-! the class: room for plans, faces -/
/-- how long an array is made, if one is made -/
def gw (n len : Int32) : Int32 := if n < len then (if len < 2 * n then 2 * n else len) else 0
theorem gw_b {n len : Int32} (n0 : 0 ≤ n) (n1 : n ≤ 20000) (l0 : 0 ≤ len) (l1 : len ≤ 10000) : 0 ≤ gw n len ∧ gw n len ≤ 100000 := by
  unfold gw
  by_cases c : n < len
  · rw [if_pos c]
    by_cases d : len < 2 * n
    · rw [if_pos d]; constructor <;> lia
    · rw [if_neg d]; constructor <;> lia
  · rw [if_neg c]; decide
section CPh
variable {B : Nat} {w0 : Mp} {T K : Nat → Nat} {V : Nat → Nat → Int32} {R : Nat → Nat → Option Nat} {I : Nat → Int32 → Int32} {O : Nat → Int32 → Option Nat} {N : Nat → Int32} {w : Mp} {sz : Nat} {β : Type} {P : β → Prop}
theorem STc_e {z k : Nat} (hS : STc B T K R N) (hk : k = 5 ∨ k = 6 ∨ k = 7) (tz : T z = 5) (nz : 0 ≤ N z) (kz : K z = k) : STc B T K (va_up R (B + 3) (upr (R (B + 3)) k (some z))) N := by
  obtain ⟨a1, a2, ⟨r0, r2, r4, r5, p0, p3, p4⟩, a4, e5, e6, e7, b5, b6, b7⟩ := hS
  have q : ∀ j, j ≠ k → va_up R (B + 3) (upr (R (B + 3)) k (some z)) (B + 3) j = R (B + 3) j := fun j hj => by rw [vup_s]; exact if_neg hj
  have qk : va_up R (B + 3) (upr (R (B + 3)) k (some z)) (B + 3) k = some z := by rw [vup_s]; exact if_pos rfl
  have qb : va_up R (B + 3) (upr (R (B + 3)) k (some z)) B = R B := vup_n (by omega)
  refine ⟨a1, a2, ?_, a4, ?_⟩
  · rw [qb, q 0 (by omega), q 3 (by omega), q 4 (by omega)]
    exact ⟨r0, r2, r4, r5, p0, p3, p4⟩
  · rcases hk with e | e | e
    · subst e
      refine ⟨z, e6, e7, ⟨qk, tz, nz, kz⟩, ?_, ?_⟩
      · rw [q 6 (by decide)]; exact b6
      · rw [q 7 (by decide)]; exact b7
    · subst e
      refine ⟨e5, z, e7, ?_, ⟨qk, tz, nz, kz⟩, ?_⟩
      · rw [q 5 (by decide)]; exact b5
      · rw [q 7 (by decide)]; exact b7
    · subst e
      refine ⟨e5, e6, z, ?_, ?_, ⟨qk, tz, nz, kz⟩⟩
      · rw [q 5 (by decide)]; exact b5
      · rw [q 6 (by decide)]; exact b6
theorem CI_e {z k : Nat} (hC : CI B T K V R O N) (hk : k = 5 ∨ k = 6 ∨ k = 7) (tz : T z = 5) (nz : 0 ≤ N z) (kz : K z = k) : CI B T K V (va_up R (B + 3) (upr (R (B + 3)) k (some z))) O N := by
  have t3 := hC.1.1.2.2.2.1
  obtain ⟨c1, c2, c3, c4, c5, c6, c7⟩ := hC
  have ne : ∀ a, T a = 1 ∨ T a = 2 ∨ T a = 3 → va_up R (B + 3) (upr (R (B + 3)) k (some z)) a = R a := fun a h => vup_n (fun e => by rw [e, t3] at h; omega)
  refine ⟨STc_e c1 hk tz nz kz, fun a ha => ?_, fun a ha => ?_, fun a ha => ?_, c5, c6, c7⟩
  · unfold LOK; rw [ne a (Or.inl ha)]; exact c2 a ha
  · rw [ne a (Or.inr (Or.inl ha))]; exact c3 a ha
  · unfold FOK; rw [ne a (Or.inr (Or.inr ha))]; exact c4 a ha
/-- what a step of makeRoom leaves: all that stood, but for the planner's references -/
def GX (B : Nat) (T T' K K' : Nat → Nat) (R R' : Nat → Nat → Option Nat) (I I' : Nat → Int32 → Int32) (N N' : Nat → Int32) : Prop := (∀ a, T a ≠ 10 → T' a = T a ∧ K' a = K a ∧ I' a = I a ∧ N' a = N a) ∧ (∀ a, T a ≠ 10 → a ≠ B + 3 → R' a = R a) ∧ (∀ j, j ≠ 5 → j ≠ 6 → j ≠ 7 → R' (B + 3) j = R (B + 3) j)
theorem GX.rf : GX B T T K K R R I I N N := ⟨fun _ _ => ⟨rfl, rfl, rfl, rfl⟩, fun _ _ _ => rfl, fun _ _ _ _ => rfl⟩
theorem GX.tr {T1 T2 K1 K2 : Nat → Nat} {R1 R2 : Nat → Nat → Option Nat} {I1 I2 : Nat → Int32 → Int32} {N1 N2 : Nat → Int32} (h : GX B T T1 K K1 R R1 I I1 N N1) (g : GX B T1 T2 K1 K2 R1 R2 I1 I2 N1 N2) : GX B T T2 K K2 R R2 I I2 N N2 := by
  have t : ∀ a, T a ≠ 10 → T1 a ≠ 10 := fun a ha => by rw [(h.1 a ha).1]; exact ha
  refine ⟨fun a ha => ?_, fun a ha hb => ?_, fun j h5 h6 h7 => ?_⟩
  · have x := h.1 a ha
    have y := g.1 a (t a ha)
    exact ⟨y.1.trans x.1, y.2.1.trans x.2.1, y.2.2.1.trans x.2.2.1, y.2.2.2.trans x.2.2.2⟩
  · exact (g.2.1 a (t a ha) hb).trans (h.2.1 a ha hb)
  · exact (g.2.2 j h5 h6 h7).trans (h.2.2 j h5 h6 h7)
theorem n_grow {F : Option Nat × Mp × Nat → Mp → Option β} {kk k e : Nat} {len : Int32} (h : CW B w0 T V R I O N w) (hC : CI B T K V R O N) (hF : FR T sz) (hz : B + 29 ≤ sz) (hk : k = 5 ∨ k = 6 ∨ k = 7) (he : R (B + 3) k = some e) (te : T e = 5) (ke : K e = k) (n0 : 0 ≤ N e) (n1 : N e ≤ 20000) (l0 : 0 ≤ len) (l1 : len ≤ 10000) (hl : (gw (N e) len).toNatClampNeg ≤ kk) (hp : ∀ w' T' K' R' I' N' e' q, CW B w0 T' V R' I' O N' w' → CI B T' K' V R' O N' → GX B T T' K K' R R' I I' N N' → FR T' q.2.2 → sz ≤ q.2.2 → q.2.2 ≤ sz + 1 → R' (B + 3) k = some e' → T' e' = 5 → K' e' = k → len ≤ N' e' → 0 ≤ N' e' → ((¬ N e < len ∧ N' e' = N e) ∨ (N e < len ∧ N' e' = gw (N e) len)) → (∀ j, j ≠ k → R' (B + 3) j = R (B + 3) j) → OK (F q w') P) : OK ((f_Plan_grown kk w sz (some e) len).bind fun q => (pF q.2.1 (some (B + 3)) 4 k (va_rf q.1)).bind (F q)) P := by
  have t3 := hC.1.1.2.2.2.1
  have kr : (decide (4 < 5) && crf 4 k) = true := by rcases hk with r | r | r <;> rw [r] <;> decide
  have gb := gw_b n0 n1 l0 l1
  unfold f_Plan_grown
  refine OK.bind (c_aLi h te n0 (OK.ite (fun c => c_aLi h te n0 ?_) (fun c => OK.ret ?_)))
  · have eg : (if len < 2 * N e then 2 * N e else len) = gw (N e) len := by unfold gw; rw [if_pos c]
    rw [eg]
    refine c_xnI h (hF sz (Nat.le_refl _)) hz gb.1 hl gb.2 (fun w1 h1 => OK.ret ?_)
    have z3 : B + 3 ≠ sz := by omega
    refine c_pR h1 (by rw [vup_n z3]; exact t3) kr (fun w2 h2 => ?_)
    have ge : len ≤ gw (N e) len := by
      unfold gw
      rw [if_pos c]
      by_cases d : len < 2 * N e
      · rw [if_pos d]; clear eg gb hl; lia
      · rw [if_neg d]; exact Int32.le_refl _
    have hE : CI B (va_up T sz 5) (va_up K sz k) V R O (va_up N sz (gw (N e) len)) := by
      refine CI_ext hC (fun a ha => ?_) (fun a ha z1 => ?_) (fun a ha z1 => ?_) (fun a ha z1 => ?_)
      · have ne : a ≠ sz := fun e => ha (by rw [e]; exact hF _ (Nat.le_refl _))
        exact ⟨vup_n ne, vup_n ne, rfl, rfl, rfl, vup_n ne⟩
      · by_cases e1 : a = sz
        · rw [e1, vup_s] at z1; omega
        · rw [vup_n e1] at z1; omega
      · by_cases e1 : a = sz
        · rw [e1, vup_s] at z1; omega
        · rw [vup_n e1] at z1; omega
      · by_cases e1 : a = sz
        · rw [e1, vup_s] at z1; omega
        · rw [vup_n e1] at z1; omega
    refine hp w2 _ (va_up K sz k) _ _ _ sz (some sz, w1, sz + 1) h2 (CI_e hE hk vup_s (by rw [vup_s]; exact gb.1) vup_s) ⟨fun a ha => ?_, fun a ha hb => vup_n hb, fun j h5 h6 h7 => ?_⟩ (fun a ha => ?_) (Nat.le_succ _) (Nat.le_refl _) ?_ vup_s vup_s (by rw [vup_s]; exact ge) (by rw [vup_s]; exact gb.1) (Or.inr ⟨c, vup_s⟩) (fun j hj => ?_)
    · have ne : a ≠ sz := fun e => ha (by rw [e]; exact hF _ (Nat.le_refl _))
      exact ⟨vup_n ne, vup_n ne, vup_n ne, vup_n ne⟩
    · rw [vup_s]; exact if_neg (by omega)
    · have ne : a ≠ sz := by
        have : sz + 1 ≤ a := ha
        omega
      rw [vup_n ne]
      exact hF a (by have : sz + 1 ≤ a := ha; omega)
    · rw [vup_s]; exact if_pos rfl
    · rw [vup_s]; exact if_neg hj
  · refine c_pR h t3 kr (fun w2 h2 => ?_)
    have er : va_up R (B + 3) (upr (R (B + 3)) k (some e)) = R := by
      have : upr (R (B + 3)) k (some e) = R (B + 3) := by
        funext j
        unfold upr
        by_cases ej : j = k
        · rw [if_pos ej, ej]; exact he.symm
        · rw [if_neg ej]
      rw [this, vup_id]
    rw [er] at h2
    exact hp w2 T K R I N e (some e, w, sz) h2 hC GX.rf hF (Nat.le_refl _) (Nat.le_succ _) he te ke (by clear gb hl; lia) n0 (Or.inl ⟨c, rfl⟩) (fun _ _ => rfl)
end CPh
