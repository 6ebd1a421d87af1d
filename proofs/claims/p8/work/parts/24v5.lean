/-! where the pieces lie: one function for both sides -/
def acA (A : Nat → Int32 → Int32) (f k : Int32) : Int32 := if A 10 f = 3 then (if k - k / 2 * 2 = 1 then A 4 (pcs A f 0) else 0) else sm (fun i => A 4 (pcs A f i)) k.toNatClampNeg
def toA (A : Nat → Int32 → Int32) (f k : Int32) : Int32 := if A 10 f = 3 then (if k ≤ 1 then 0 else A 5 (pcs A f 0)) else sm (fun i => shA A f i) k.toNatClampNeg
section VL5
variable {B : Nat} {w0 w : Mp} {s : Nat → Int32} {A : Nat → Int32 → Int32} {T K : Nat → Nat} {V : Nat → Nat → Int32} {R : Nat → Nat → Option Nat} {I : Nat → Int32 → Int32} {O : Nat → Int32 → Option Nat} {N : Nat → Int32} {sz g : Nat} {β : Type} {P : β → Prop}
/-! the reference -/
theorem v_across_L {f k : Int32} (h : MW B w0 s A w) (hI : MI s A) (h0 : 0 ≤ f) (h1 : f < s 9) (h2 : 0 ≤ k) (h3 : k < A 11 f) : ∀ (n : Nat) (x3 x4 : Int32), 0 ≤ x4 → x4 ≤ k → (k - x4).toInt < n → x3 = sm (fun i => A 4 (pcs A f i)) x4.toNatClampNeg → OK (f_Mod_across_L33 w (B + 11) f k n x3 x4) (fun q => q.2.1 = sm (fun i => A 4 (pcs A f i)) k.toNatClampNeg) := by
  have a5 := (hI.2.2.2.2.1 f h0 h1).2.2.2.1
  intro n
  induction n with
  | zero => intro x5 x6 b0 b1 hn; exact (fu_zero b0 b1 hn).elim
  | succ n ih =>
    intro x3 x4 b0 b1 hn e
    rw [f_Mod_across_L33]
    refine OK.ite (fun c => OK.ret ?_) (fun c => ?_)
    · have : x4 = k := by clear ih hn e; lia
      show x3 = _
      rw [e, this]
    · have y : x4 < k := by clear ih hn e; lia
      have fs := fu_step b0 y hn
      have st := sm_step (t := fun i => A 4 (pcs A f i)) b0 (show x4 < 1000 by clear ih hn e fs; lia)
      refine k_xo h (m_wide h hI h0 h1 b0 (by clear ih hn e fs; lia) (fun v ev _ _ => ih _ _ (by clear ih hn e fs; lia) (by clear ih hn e fs; lia) fs (by rw [st, e, ev])))
theorem v_across {F : Int32 → Option β} {f k : Int32} (h : MW B w0 s A w) (hI : MI s A) (h0 : 0 ≤ f) (h1 : f < s 9) (h2 : 0 ≤ k) (h3 : k < A 11 f) (hp : OK (F (acA A f k)) P) : OK ((f_Mod_across w (B + 11) f k).bind F) P := by
  have a5 := hI.2.2.2.2.1 f h0 h1
  have f8 : f < 8 := by have := hI.2.1; clear a5; lia
  have n0 : 0 < A 11 f := by clear a5; lia
  refine OK.call (P := fun v => v = acA A f k) ?_ (fun v e => by rw [e]; exact hp)
  unfold f_Mod_across acA
  refine k_gR h (by decide) (k_aI h (by decide) (by decide) h0 (show f < mln 10 from f8) (OK.ite (fun c => ?_) (fun c => ?_)))
  · rw [if_pos c]
    refine OK.ite (fun d => k_xo h (m_wide h hI h0 h1 (by decide) n0 (fun v ev _ _ => OK.ret ?_))) (fun d => OK.ret ?_)
    · rw [if_pos d]; exact ev
    · rw [if_neg d]
  · rw [if_neg c]
    exact OK.call (v_across_L h hI h0 h1 h2 h3 _ _ _ (by decide) h2 (fu_any (by have := a5.2.2.2.1; clear a5; lia) h2) rfl) (fun q hq => OK.ret hq)
theorem v_topOf_L {f k : Int32} (h : MW B w0 s A w) (hI : MI s A) (h0 : 0 ≤ f) (h1 : f < s 9) (h2 : 0 ≤ k) (h3 : k < A 11 f) (h4 : A 10 f ≠ 3) : ∀ (n : Nat) (x3 x4 : Int32), 0 ≤ x4 → x4 ≤ k → (k - x4).toInt < n → x3 = sm (fun i => shA A f i) x4.toNatClampNeg → OK (f_Mod_topOf_L31 w (B + 11) f k n x3 x4) (fun q => q.2.1 = sm (fun i => shA A f i) k.toNatClampNeg) := by
  have a5 := (hI.2.2.2.2.1 f h0 h1).2.2.2.1
  intro n
  induction n with
  | zero => intro x5 x6 b0 b1 hn; exact (fu_zero b0 b1 hn).elim
  | succ n ih =>
    intro x3 x4 b0 b1 hn e
    rw [f_Mod_topOf_L31]
    refine OK.ite (fun c => OK.ret ?_) (fun c => ?_)
    · have : x4 = k := by clear ih hn e; lia
      show x3 = _
      rw [e, this]
    · have y : x4 < k := by clear ih hn e; lia
      have fs := fu_step b0 y hn
      have st := sm_step (t := fun i => shA A f i) b0 (show x4 < 1000 by clear ih hn e fs; lia)
      have hv : vse s A f x4 := ⟨h0, h1, b0, by rw [if_neg h4]; clear ih hn e fs; lia⟩
      exact k_xo h (v_shiftOf h hI hv (ih _ _ (by clear ih hn e fs; lia) (by clear ih hn e fs; lia) fs (by rw [st, e])))
theorem v_topOf {F : Int32 → Option β} {f k : Int32} (h : MW B w0 s A w) (hI : MI s A) (h0 : 0 ≤ f) (h1 : f < s 9) (h2 : 0 ≤ k) (h3 : k < A 11 f) (hp : OK (F (toA A f k)) P) : OK ((f_Mod_topOf w (B + 11) f k).bind F) P := by
  have a5 := hI.2.2.2.2.1 f h0 h1
  have f8 : f < 8 := by have := hI.2.1; clear a5; lia
  have n0 : 0 < A 11 f := by clear a5; lia
  refine OK.call (P := fun v => v = toA A f k) ?_ (fun v e => by rw [e]; exact hp)
  unfold f_Mod_topOf toA
  refine k_gR h (by decide) (k_aI h (by decide) (by decide) h0 (show f < mln 10 from f8) (OK.ite (fun c => ?_) (fun c => ?_)))
  · rw [if_pos c]
    refine OK.ite (fun d => OK.ret ?_) (fun d => k_xo h (m_high h hI h0 h1 (by decide) n0 (fun v ev _ _ => OK.ret ?_)))
    · rw [if_pos d]
    · rw [if_neg d]; exact ev
  · rw [if_neg c]
    exact OK.call (v_topOf_L h hI h0 h1 h2 h3 c _ _ _ (by decide) h2 (fu_any (by have := a5.2.2.2.1; clear a5; lia) h2) rfl) (fun q hq => OK.ret hq)
/-! the class -/
theorem pc_inj (hC : CI B T K V R O N) (hI : MI s A) (hS : SIM B V R I O N s A) (hQ : SP s A) {f i k : Int32} (h0 : 0 ≤ f) (h1 : f < s 9) (i0 : 0 ≤ i) (i1 : i < A 11 f) (k0 : 0 ≤ k) (k1 : k < A 11 f) (e : la (O (fpc B R O f)) i = la (O (fpc B R O f)) k) : i = k := by
  obtain ⟨-, -, ri, -⟩ := c_piece hC hI hS h0 h1 i0 i1
  obtain ⟨-, -, rk, -⟩ := c_piece hC hI hS h0 h1 k0 k1
  rw [e, rk] at ri
  have bi := hI.2.2.2.2.2.1 f i h0 h1 i0 i1
  have bk := hI.2.2.2.2.2.1 f k h0 h1 k0 k1
  have l1 := hS.1.1
  have := lf_inj hC bk.1 (by rw [l1]; exact bk.2) bi.1 (by rw [l1]; exact bi.2) (Option.some.inj ri)
  exact (hQ.1 f k f i ⟨h0, h1, k0, k1⟩ ⟨h0, h1, i0, i1⟩ this).2.symm
/-- what layOut leaves, and what it has done up to piece k -/
def LI (B : Nat) (T : Nat → Nat) (V V' : Nat → Nat → Int32) (R : Nat → Nat → Option Nat) (O : Nat → Int32 → Option Nat) (A : Nat → Int32 → Int32) (f k : Int32) : Prop :=
  (∀ b j, (T b ≠ 2 ∨ j < 3 ∨ ∀ i, 1 ≤ i → i < A 11 f → la (O (fpc B R O f)) i ≠ b) → V' b j = V b j) ∧ ∀ i, 0 ≤ i → i < k → V' (la (O (fpc B R O f)) i) 3 = acA A f i ∧ V' (la (O (fpc B R O f)) i) 4 = toA A f i
theorem LI.keep (hC : CI B T K V R O N) {V' : Nat → Nat → Int32} {f k : Int32} (h : LI B T V V' R O A f k) : KP B T K V V' R R I I O O N N := by
  have t0 := hC.1.1.1
  have t3 := hC.1.1.2.2.2.1
  exact ⟨fun a j ta => h.1 a j (Or.inl (by rw [ta]; decide)), fun a j ta hj => h.1 a j (Or.inr (Or.inl hj)), fun a ta => h.1 a 0 (Or.inl (by rw [ta]; decide)), ⟨h.1 B 1 (Or.inl (by rw [t0]; decide)), h.1 B 3 (Or.inl (by rw [t0]; decide)), h.1 (B + 3) 1 (Or.inl (by rw [t3]; decide))⟩, fun _ _ _ => rfl, fun _ _ _ => rfl, fun _ _ _ => rfl, fun _ _ => rfl⟩
theorem LI.pl {V' : Nat → Nat → Int32} {f k : Int32} (h : LI B T V V' R O A f k) : PL T V V' := fun a j ha => h.1 a j (ha.elim Or.inl (fun z => Or.inr (Or.inl z)))
theorem LI.step (hC : CI B T K V R O N) (hI : MI s A) (hS : SIM B V R I O N s A) (hQ : SP s A) {V' : Nat → Nat → Int32} {f k x y : Int32} (h0 : 0 ≤ f) (h1 : f < s 9) (k0 : 1 ≤ k) (k1 : k < A 11 f) (h : LI B T V V' R O A f k) (ex : x = acA A f k) (ey : y = toA A f k) : LI B T V (va_up (va_up V' (la (O (fpc B R O f)) k) (up (V' (la (O (fpc B R O f)) k)) 3 x)) (la (O (fpc B R O f)) k) (up (va_up V' (la (O (fpc B R O f)) k) (up (V' (la (O (fpc B R O f)) k)) 3 x) (la (O (fpc B R O f)) k)) 4 y)) R O A f (k + 1) := by
  have a8 := (hI.2.2.2.2.1 f h0 h1).2.2.2.1
  have kz : 0 ≤ k := by clear a8; lia
  obtain ⟨-, -, -, tq, -⟩ := c_piece hC hI hS h0 h1 kz k1
  generalize hq : la (O (fpc B R O f)) k = q at tq ⊢
  have at_ : ∀ b j, (b ≠ q ∨ (j ≠ 3 ∧ j ≠ 4)) → va_up (va_up V' q (up (V' q) 3 x)) q (up (va_up V' q (up (V' q) 3 x) q) 4 y) b j = V' b j := fun b j hb => by
    by_cases e : b = q
    · subst e
      have hj := hb.resolve_left (fun z => z rfl)
      rw [vup_s, vup_s]
      unfold up
      rw [if_neg hj.2, if_neg hj.1]
    · rw [vup_n e, vup_n e]
  refine ⟨fun b j hb => ?_, fun i i0 i1 => ?_⟩
  · rw [at_ b j ?_]
    · exact h.1 b j hb
    · rcases hb with z | z | z
      · exact Or.inl (fun e => z (by rw [e]; exact tq))
      · exact Or.inr ⟨by omega, by omega⟩
      · exact Or.inl (fun e => z k k0 k1 (by rw [hq]; exact e.symm))
  · by_cases e : i = k
    · rw [e, hq, vup_s, vup_s]
      refine ⟨?_, ?_⟩
      · show up (up (V' q) 3 x) 4 y 3 = _
        rw [← ex]; rfl
      · show up (up (V' q) 3 x) 4 y 4 = _
        rw [← ey]; rfl
    · have i2 : i < k := by clear a8; lia
      have ne : la (O (fpc B R O f)) i ≠ q := fun z => e (pc_inj hC hI hS hQ h0 h1 i0 (by clear a8; lia) kz k1 (by rw [hq]; exact z))
      rw [at_ _ 3 (Or.inl ne), at_ _ 4 (Or.inl ne)]
      exact h.2 i i0 i2
theorem ac_step {f k : Int32} (h3 : A 10 f ≠ 3) (k0 : 1 ≤ k) (k8 : k < 8) : acA A f k = acA A f (k - 1) + A 4 (pcs A f (k - 1)) ∧ toA A f k = toA A f (k - 1) + shA A f (k - 1) := by
  have s1 := sm_step (t := fun i => A 4 (pcs A f i)) (x := k - 1) (by lia) (by lia)
  have s2 := sm_step (t := fun i => shA A f i) (x := k - 1) (by lia) (by lia)
  rw [show k - 1 + 1 = k by lia] at s1 s2
  unfold acA toA
  rw [if_neg h3, if_neg h3, if_neg h3, if_neg h3]
  exact ⟨s1, s2⟩
theorem v_lay_L (hC : CI B T K V R O N) (hI : MI s A) (hS : SIM B V R I O N s A) (hQ : SX B V R O s A) {f : Int32} (h0 : 0 ≤ f) (h1 : f < s 9) : ∀ (n : Nat) (k : Int32) (V' : Nat → Nat → Int32) (w : Mp), CW B w0 T V' R I O N w → 1 ≤ k → k ≤ A 11 f → (A 11 f - k).toInt < n → LI B T V V' R O A f k → OK (f_Face_layOut_L2 (la (O (B + 2)) f) n k w) (fun q => ∃ V', CW B w0 T V' R I O N q.2.2 ∧ LI B T V V' R O A f (A 11 f)) := by
  have a5 := hI.2.2.2.2.1 f h0 h1
  have fc := hS.2.1.1
  obtain ⟨ta, -, ra, tp, -, hk⟩ := hC.fc h0 (by rw [fc]; exact h1)
  obtain ⟨e1, e2, -⟩ := hS.2.1.2 f h0 h1
  have a8 := a5.2.2.2.1
  have a2 := a5.2.2.1
  clear a5
  intro n
  induction n with
  | zero => intro k V' w _ b0 b1 hn; exact (fu_zero (by clear hn; lia) b1 hn).elim
  | succ n ih =>
    intro k V' w h b0 b1 hn hm
    rw [f_Face_layOut_L2]
    refine c_gRs h ta ra (by decide) (c_aL h tp (by decide) (by rw [e2]; clear hn ih; lia) ?_)
    rw [e2]
    refine OK.ite (fun c => OK.ret ⟨V', h, ?_⟩) (fun c => ?_)
    · have : k = A 11 f := by clear hn ih; lia
      rw [← this]; exact hm
    have y : 0 ≤ k ∧ k < A 11 f ∧ 0 ≤ k - 1 ∧ k - 1 < A 11 f ∧ k - 1 < A 11 f - 1 ∧ 0 < A 11 f ∧ k < 8 ∧ k - 1 < k := by clear hn ih; refine ⟨by lia, by lia, by lia, by lia, by lia, by lia, by lia, by lia⟩
    have fs := fu_step y.1 y.2.1 hn
    have nx : 1 ≤ k + 1 ∧ k + 1 ≤ A 11 f := by clear hn ih fs; constructor <;> lia
    obtain ⟨-, -, q3, q2, q4, ⟨⟨-, -, qw, qh, -⟩, -⟩⟩ := c_piece hC hI hS h0 h1 y.1 y.2.1
    obtain ⟨-, -, q3', q2', q4', ⟨⟨-, -, qw', qh', -⟩, -⟩⟩ := c_piece hC hI hS h0 h1 y.2.2.1 y.2.2.2.1
    obtain ⟨-, -, p3, p2, p4, ⟨⟨-, -, pw_, ph_, -⟩, -⟩⟩ := c_piece hC hI hS h0 h1 (k := 0) (by decide) y.2.2.2.2.2.1
    have q1 := (hk k y.1 (by rw [e2]; exact y.2.1)).2
    have q1' := (hk (k - 1) y.2.2.1 (by rw [e2]; exact y.2.2.2.1)).2
    have p1 := (hk 0 (by decide) (by rw [e2]; exact y.2.2.2.2.2.1)).2
    have va : V' (la (O (B + 2)) f) 0 = A 10 f := by rw [hm.1 _ 0 (Or.inl (by rw [ta]; decide))]; exact e1
    have vl : ∀ b j, T b = 1 → V' b j = V b j := fun b j tb => hm.1 b j (Or.inl (by rw [tb]; decide))
    have hk2 : ∀ i, 0 ≤ i → i < N (fpc B R O f) → i < N (fpc B R O f) := fun i _ z => z
    refine c_gI h ta (by decide) ?_
    rw [va]
    refine OK.ite (fun d => ?_) (fun d => ?_)
    · refine c_gRs h ta ra (by decide) (c_aRs h tp (by decide) y.1 (by rw [e2]; exact y.2.1) q1 ?_)
      refine OK.J1p (Q := fun x => x = acA A f k) (fun x ex => ?_) (fun J hJ => ?_)
      · refine c_pI h q2 (by decide) (fun w1 w1h => c_gRs w1h ta ra (by decide) (c_aRs w1h tp (by decide) y.1 (by rw [e2]; exact y.2.1) q1 ?_))
        refine OK.ite (fun c2 => c_pI w1h q2 (by decide) (fun w2 w2h => ih _ _ w2 w2h nx.1 nx.2 fs (LI.step hC hI hS hQ.1 h0 h1 b0 y.2.1 hm ex ?_))) (fun c2 => ?_)
        · unfold toA; rw [if_pos d, if_pos (by clear hn ih fs; lia)]
        · refine c_gRs w1h ta ra (by decide) (c_aRs w1h tp (by decide) (by decide) (by rw [e2]; exact y.2.2.2.2.2.1) p1 (c_xo w1h p2 (by decide) (n_bottom w1h p2 p3 p4 (c_pI w1h q2 (by decide) (fun w2 w2h => ih _ _ w2 w2h nx.1 nx.2 fs (LI.step hC hI hS hQ.1 h0 h1 b0 y.2.1 hm ex ?_))))))
          have n0k : la (O (fpc B R O f)) 0 ≠ la (O (fpc B R O f)) k := fun z => by
            have := pc_inj hC hI hS hQ.1 h0 h1 (by decide) y.2.2.2.2.2.1 y.1 y.2.1 z
            rw [← this] at b0
            exact absurd b0 (by decide)
          have nlk : la (O (B + 1)) (pcs A f 0) ≠ la (O (fpc B R O f)) k := fun z => by rw [z, q2] at p4; cases p4
          rw [vup_n n0k, vup_n nlk, vl _ 4 p4, ph_, hm.1 _ 4 (Or.inr (Or.inr (fun i i0 i1 z => by
            have := pc_inj hC hI hS hQ.1 h0 h1 (by clear hn ih fs hm; lia) i1 (by decide) y.2.2.2.2.2.1 z
            rw [this] at i0
            exact absurd i0 (by decide)))), (hQ.2 f h0 h1).2, Int32.zero_add]
          unfold toA
          rw [if_pos d, if_neg (by clear hn ih fs; lia)]
      · refine OK.ite (fun c2 => ?_) (fun c2 => hJ _ ?_)
        · refine c_gRs h ta ra (by decide) (c_aRs h tp (by decide) (by decide) (by rw [e2]; exact y.2.2.2.2.2.1) p1 (c_xo h p2 (by decide) (n_end h p2 p3 p4 (hJ _ ?_))))
          rw [vl _ 3 p4, pw_, hm.1 _ 3 (Or.inr (Or.inr (fun i i0 i1 z => by
            have := pc_inj hC hI hS hQ.1 h0 h1 (by clear hn ih fs hm; lia) i1 (by decide) y.2.2.2.2.2.1 z
            rw [this] at i0
            exact absurd i0 (by decide)))), (hQ.2 f h0 h1).1, Int32.zero_add]
          unfold acA
          rw [if_pos d, if_pos c2]
        · unfold acA
          rw [if_pos d, if_neg c2]
    · have st := ac_step (A := A) d b0 y.2.2.2.2.2.2.1
      have nkk : la (O (fpc B R O f)) (k - 1) ≠ la (O (fpc B R O f)) k := fun z => by
        have := pc_inj hC hI hS hQ.1 h0 h1 y.2.2.1 y.2.2.2.1 y.1 y.2.1 z
        have z2 := y.2.2.2.2.2.2.2
        rw [this] at z2
        exact Int32.lt_irrefl z2
      have ev := hm.2 (k - 1) y.2.2.1 y.2.2.2.2.2.2.2
      refine c_gRs h ta ra (by decide) (c_aRs h tp (by decide) y.1 (by rw [e2]; exact y.2.1) q1 (c_gRs h ta ra (by decide) (c_aRs h tp (by decide) y.2.2.1 (by rw [e2]; exact y.2.2.2.1) q1' (c_xo h q2' (by decide) (n_end h q2' q3' q4' (c_pI h q2 (by decide) (fun w1 w1h => ?_)))))))
      refine c_gRs w1h ta ra (by decide) (c_aRs w1h tp (by decide) y.1 (by rw [e2]; exact y.2.1) q1 (c_gRs w1h ta ra (by decide) (c_aRs w1h tp (by decide) y.2.2.1 (by rw [e2]; exact y.2.2.2.1) q1' (c_gI w1h q2' (by decide) (c_xo w1h ta (by decide) ?_)))))
      have hv : vse s A f (k - 1) := ⟨h0, h1, y.2.2.1, by rw [if_neg d]; exact y.2.2.2.2.1⟩
      have kp : KP B T K V (va_up V' (la (O (fpc B R O f)) k) (up (V' (la (O (fpc B R O f)) k)) 3 (V' (la (O (fpc B R O f)) (k - 1)) 3 + V' (la (O (B + 1)) (pcs A f (k - 1))) 3))) R R I I O O N N := by
        have t0 := hC.1.1.1
        have t3 := hC.1.1.2.2.2.1
        have at_ : ∀ b j, b ≠ la (O (fpc B R O f)) k ∨ j ≠ 3 → va_up V' (la (O (fpc B R O f)) k) (up (V' (la (O (fpc B R O f)) k)) 3 (V' (la (O (fpc B R O f)) (k - 1)) 3 + V' (la (O (B + 1)) (pcs A f (k - 1))) 3)) b j = V' b j := fun b j hb => vupV hb
        have z := LI.keep (I := I) hC hm
        refine ⟨fun a j ta => ?_, fun a j ta hj => ?_, fun a ta => ?_, ⟨?_, ?_, ?_⟩, z.2.2.2.2.1, z.2.2.2.2.2.1, z.2.2.2.2.2.2.1, z.2.2.2.2.2.2.2⟩
        · rw [at_ a j (Or.inl (fun e => by rw [e, q2] at ta; cases ta))]; exact z.1 a j ta
        · rw [at_ a j (Or.inr (by omega))]; exact z.2.1 a j ta hj
        · rw [at_ a 0 (Or.inr (by decide))]; exact z.2.2.1 a ta
        · rw [at_ B 1 (Or.inr (by decide))]; exact z.2.2.2.1.1
        · rw [at_ B 3 (Or.inl (fun e => by rw [← e, t0] at q2; cases q2))]; exact z.2.2.2.1.2.1
        · rw [at_ (B + 3) 1 (Or.inr (by decide))]; exact z.2.2.2.1.2.2
      have hS1 := hS.keep hC kp
      have hC1 : CI B T K (va_up V' (la (O (fpc B R O f)) k) (up (V' (la (O (fpc B R O f)) k)) 3 (V' (la (O (fpc B R O f)) (k - 1)) 3 + V' (la (O (B + 1)) (pcs A f (k - 1))) 3))) R O N := CI_PL hC (PL_up hm.pl q2 (by decide))
      refine v_best w1h hC1 hI hS1 hv ta (c_pI w1h q2 (by decide) (fun w2 w2h => ih _ _ w2 w2h nx.1 nx.2 fs (LI.step hC hI hS hQ.1 h0 h1 b0 y.2.1 hm ?_ ?_)))
      · rw [ev.1, vl _ 3 q4', qw']; exact st.1.symm
      · rw [vup_n nkk, ev.2]; exact st.2.symm
theorem v_lay {F : Unit × Mp → Option β} (h : CW B w0 T V R I O N w) (hC : CI B T K V R O N) (hI : MI s A) (hS : SIM B V R I O N s A) (hQ : SX B V R O s A) {f : Int32} (h0 : 0 ≤ f) (h1 : f < s 9) (hp : ∀ w' V', CW B w0 T V' R I O N w' → LI B T V V' R O A f (A 11 f) → OK (F ((), w')) P) : OK ((f_Face_layOut w (la (O (B + 2)) f)).bind F) P := by
  have a5 := hI.2.2.2.2.1 f h0 h1
  have n2 := a5.2.2.1
  have n8 := a5.2.2.2.1
  clear a5
  unfold f_Face_layOut
  have z : (A 11 f - 0).toInt < (100000 : Nat) := fu_any (by lia) (by lia)
  have fn : (A 11 f - 1).toInt < (100000 : Nat) := by
    have := fu_step (i := 0) (N := A 11 f) (n := 100000) (by decide) (by clear z; lia) (by omega)
    exact this
  refine OK.bind (OK.call (v_lay_L hC hI hS hQ h0 h1 _ _ V w h (by decide) (by clear z fn; lia) fn ⟨fun _ _ _ => rfl, fun i i0 i1 => ?_⟩) (fun q ⟨V', h', hm⟩ => OK.ret (hp _ V' h' hm)))
  have e : i = 0 := by clear z fn; lia
  rw [e, (hQ.2 f h0 h1).1, (hQ.2 f h0 h1).2]
  refine ⟨?_, ?_⟩
  · unfold acA
    by_cases c : A 10 f = 3
    · rw [if_pos c, if_neg (by decide)]
    · rw [if_neg c]; rfl
  · unfold toA
    by_cases c : A 10 f = 3
    · rw [if_pos c, if_pos (by decide)]
    · rw [if_neg c]; rfl
/-- first pieces stay where they are -/
theorem SX.lay (hC : CI B T K V R O N) (hI : MI s A) (hS : SIM B V R I O N s A) (hQ : SX B V R O s A) {V' : Nat → Nat → Int32} {f k : Int32} (h0 : 0 ≤ f) (h1 : f < s 9) (h : LI B T V V' R O A f k) : SX B V' R O s A := by
  refine ⟨hQ.1, fun f' g0 g1 => ?_⟩
  have n2 := (hI.2.2.2.2.1 f' g0 g1).2.2.1
  have z : ∀ i, 1 ≤ i → i < A 11 f → la (O (fpc B R O f)) i ≠ la (O (fpc B R O f')) 0 := fun i i0 i1 e => by
    have iz : 0 ≤ i := by clear n2; lia
    obtain ⟨-, -, r1, -⟩ := c_piece hC hI hS h0 h1 iz i1
    obtain ⟨-, -, r2, -⟩ := c_piece hC hI hS g0 g1 (k := 0) (by decide) (by lia)
    rw [e, r2] at r1
    have b1 := hI.2.2.2.2.2.1 f i h0 h1 iz i1
    have b2 := hI.2.2.2.2.2.1 f' 0 g0 g1 (by decide) (by lia)
    have l1 := hS.1.1
    have q := lf_inj hC b2.1 (by rw [l1]; exact b2.2) b1.1 (by rw [l1]; exact b1.2) (Option.some.inj r1)
    have q2 := (hQ.1.1 f' 0 f i ⟨g0, g1, by decide, by lia⟩ ⟨h0, h1, iz, i1⟩ q).2
    rw [← q2] at i0
    exact absurd i0 (by decide)
  rw [h.1 _ 3 (Or.inr (Or.inr z)), h.1 _ 4 (Or.inr (Or.inr z))]
  exact hQ.2 f' g0 g1
end VL5
