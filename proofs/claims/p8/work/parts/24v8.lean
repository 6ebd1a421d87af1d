/-! balance: the same answers -/
def blP (A : Nat → Int32 → Int32) (f k : Int32) : Prop := 2 * acA A f k = sizA A f ∨ 2 * acA A f k + A 4 (pcs A f k) = sizA A f
def balV (A : Nat → Int32 → Int32) (f : Int32) : Prop := ∃ k, 0 ≤ k ∧ k < A 11 f ∧ blP A f k
section VL8
variable {B : Nat} {w0 w : Mp} {s : Nat → Int32} {A : Nat → Int32 → Int32} {T K : Nat → Nat} {V V' : Nat → Nat → Int32} {R : Nat → Nat → Option Nat} {I : Nat → Int32 → Int32} {O : Nat → Int32 → Option Nat} {N : Nat → Int32} {sz g : Nat} {β : Type} {P : β → Prop}
theorem x_bal_L (h : CW B w0 T V' R I O N w) (hC : CI B T K V R O N) (hI : MI s A) (hS : SIM B V R I O N s A) {f : Int32} (h0 : 0 ≤ f) (h1 : f < s 9) (hl : LI B T V V' R O A f (A 11 f)) : ∀ (n : Nat) (x4 : Int32), 0 ≤ x4 → x4 ≤ A 11 f → (A 11 f - x4).toInt < n → (∀ k, 0 ≤ k → k < x4 → ¬ blP A f k) → OK (f_Face_isBalanced_L16 w (sizA A f) (some (fpc B R O f)) (A 11 f) n x4) (fun q => (q.1 = 0 ∧ ¬ balV A f) ∨ (q.1 = 1 ∧ balV A f)) := by
  have a8 := (hI.2.2.2.2.1 f h0 h1).2.2.2.1
  obtain ⟨-, -, -, tp, -, -⟩ := hC.fc h0 (by rw [hS.2.1.1]; exact h1)
  have e2 := (hS.2.1.2 f h0 h1).2.1
  intro n
  induction n with
  | zero => intro x4 b0 b1 hn; exact (fu_zero b0 b1 hn).elim
  | succ n ih =>
    intro x4 b0 b1 hn e
    rw [f_Face_isBalanced_L16]
    refine OK.ite (fun c => OK.ret (Or.inl ⟨rfl, fun z => ?_⟩)) (fun c => ?_)
    · obtain ⟨k, k0, k1, k2⟩ := z
      exact e k k0 (by clear ih hn e; lia) k2
    · have y : x4 < A 11 f := by clear ih hn e; lia
      have fs := fu_step b0 y hn
      have nx : 0 ≤ x4 + 1 ∧ x4 + 1 ≤ A 11 f := by clear ih hn e fs; constructor <;> lia
      obtain ⟨⟨q1, q2, q3, q4⟩, v3, -, w3, -⟩ := lay_at hC hI hS h0 h1 b0 y hl
      refine c_aRs h tp (by decide) b0 (by rw [e2]; exact y) q1 (c_gI h q2 (by decide) ?_)
      rw [v3]
      refine OK.ite (fun d => OK.ret (Or.inr ⟨rfl, x4, b0, y, Or.inl d⟩)) (fun d => c_gI h q2 (by decide) (c_xo h q2 (by decide) (n_end h q2 q3 q4 ?_)))
      rw [v3, w3]
      have ee : acA A f x4 + (acA A f x4 + A 4 (pcs A f x4)) = 2 * acA A f x4 + A 4 (pcs A f x4) := by grind
      rw [ee]
      refine OK.ite (fun d2 => OK.ret (Or.inr ⟨rfl, x4, b0, y, Or.inr d2⟩)) (fun d2 => ih _ nx.1 nx.2 fs (fun k k0 k1 => ?_))
      by_cases ek : k = x4
      · rw [ek]; exact fun z => z.elim d d2
      · exact e k k0 (by clear ih hn e fs; lia)
theorem u_balance {f : Int32} (h : CW B w0 T V R I O N w) (hC : CI B T K V R O N) (hI : MI s A) (hS : SIM B V R I O N s A) (hQ : SX B V R O s A) : OK (f_LM_balance w sz B f) (fun q => (¬ (0 ≤ f ∧ f < s 9) ∧ q = (.inr 2, w, sz + 1)) ∨ (0 ≤ f ∧ f < s 9 ∧ ((balV A f ∧ LQ B w0 T V R I O N A f sz (.inl 1) q) ∨ (¬ balV A f ∧ LQ B w0 T V R I O N A f sz (.inl 0) q)))) := by
  unfold f_LM_balance
  refine c_face h hC hS (fun c => OK.ret (Or.inl ⟨c, rfl⟩)) (fun f0 f1 ta => ?_)
  obtain ⟨-, -, ra, tp, hn, -⟩ := hC.fc f0 (by rw [hS.2.1.1]; exact f1)
  have e2 := (hS.2.1.2 f f0 f1).2.1
  have a5 := hI.2.2.2.2.1 f f0 f1
  refine c_xo h ta (by decide) (v_lay h hC hI hS hQ f0 f1 (fun w' V' h' hl => c_xo h' ta (by decide) ?_))
  refine OK.call (P := fun v => (v = 0 ∧ ¬ balV A f) ∨ (v = 1 ∧ balV A f)) ?_ (fun v hv => ?_)
  · unfold f_Face_isBalanced
    refine c_xo h' ta (by decide) (x_size h' hC hI hS f0 f1 hl (c_gRs h' ta ra (by decide) (c_aL h' tp (by decide) (by clear hl; lia) ?_)))
    rw [e2]
    refine OK.call (x_bal_L h' hC hI hS f0 f1 hl _ _ (by decide) (by clear hl; lia) (fu_any (by clear hl; lia) (by clear hl; lia)) (fun k k0 k1 => absurd k1 (by clear hl; lia))) (fun q hq => ?_)
    rcases hq with ⟨e, z⟩ | ⟨e, z⟩
    · exact OK.ifP e (OK.ret (Or.inl ⟨rfl, z⟩))
    · exact OK.ifN (by rw [e]; decide) (OK.ifP e (OK.ret (Or.inr ⟨rfl, z⟩)))
  · rcases hv with ⟨rfl, z⟩ | ⟨rfl, z⟩
    · exact OK.ifP rfl (OK.ret (Or.inr ⟨f0, f1, Or.inr ⟨z, V', h', hl, rfl, Nat.le_refl _⟩⟩))
    · exact OK.ifP rfl (OK.ret (Or.inr ⟨f0, f1, Or.inl ⟨z, V', h', hl, rfl, Nat.le_refl _⟩⟩))
theorem v_mbal_L {f : Int32} (h : MW B w0 s A w) (hI : MI s A) (h0 : 0 ≤ f) (h1 : f < s 9) : ∀ (n : Nat) (x3 x4 : Int32), 0 ≤ x4 → x4 ≤ A 11 f → (A 11 f - x4).toInt < n → ((x3 = 0 ∧ ∀ k, 0 ≤ k → k < x4 → ¬ blP A f k) ∨ (x3 = 1 ∧ balV A f)) → OK (f_Mod_balance_L21 w (B + 11) f (sizA A f) n x3 x4) (fun q => (q.2.1 = 0 ∧ ¬ balV A f) ∨ (q.2.1 = 1 ∧ balV A f)) := by
  have a8 := (hI.2.2.2.2.1 f h0 h1).2.2.2.1
  have f8 : f < 8 := by have := hI.2.1; clear a8; lia
  intro n
  induction n with
  | zero => intro x3 x4 b0 b1 hn; exact (fu_zero b0 b1 hn).elim
  | succ n ih =>
    intro x3 x4 b0 b1 hn e
    rw [f_Mod_balance_L21]
    refine k_gR h (by decide) (k_aI h (by decide) (by decide) h0 (show f < mln 11 from f8) (OK.ite (fun c => OK.ret ?_) (fun c => ?_)))
    · rcases e with ⟨e1, e2⟩ | ⟨e1, e2⟩
      · exact Or.inl ⟨e1, fun z => by obtain ⟨k, k0, k1, k2⟩ := z; exact e2 k k0 (by clear ih hn e2; lia) k2⟩
      · exact Or.inr ⟨e1, e2⟩
    · have y : x4 < A 11 f := by clear ih hn e; lia
      have fs := fu_step b0 y hn
      have nx : 0 ≤ x4 + 1 ∧ x4 + 1 ≤ A 11 f := by clear ih hn e fs; constructor <;> lia
      refine k_xo h (v_across h hI h0 h1 b0 y (OK.ite (fun z => ?_) (fun z => ih _ _ nx.1 nx.2 fs (Or.inr ⟨rfl, ?_⟩))))
      · have e2 : ∀ k, 0 ≤ k → k < x4 → ¬ blP A f k := by
          rcases e with ⟨-, e2⟩ | ⟨e1, -⟩
          · exact e2
          · rw [e1] at z; exact absurd z (by decide)
        refine OK.ite (fun d => ih _ _ nx.1 nx.2 fs (Or.inr ⟨rfl, x4, b0, y, Or.inl d⟩)) (fun d => k_xo h (m_wide h hI h0 h1 b0 y (fun v ev _ _ => ?_)))
        rw [ev]
        refine OK.ite (fun d2 => ih _ _ nx.1 nx.2 fs (Or.inr ⟨rfl, x4, b0, y, Or.inr d2⟩)) (fun d2 => ih _ _ nx.1 nx.2 fs (Or.inl ⟨rfl, fun k k0 k1 => ?_⟩))
        by_cases ek : k = x4
        · rw [ek]; exact fun z => z.elim d d2
        · exact e2 k k0 (by clear ih hn e e2 fs; lia)
      · rcases e with ⟨e1, -⟩ | ⟨-, e2⟩
        · exact absurd e1 z
        · exact e2
theorem u_mbalance {f : Int32} (h : MW B w0 s A w) (hI : MI s A) : OK (f_Mod_balance w (B + 11) f) (fun q => (¬ (0 ≤ f ∧ f < s 9) ∧ MW B w0 (up s 0 1) A q.2) ∨ (0 ≤ f ∧ f < s 9 ∧ ((q.1 = 1 ∧ balV A f) ∨ (q.1 = 0 ∧ ¬ balV A f)) ∧ MW B w0 (up s 0 0) A q.2)) := by
  unfold f_Mod_balance
  refine k_xo h (m_noFace h (fun w1 f0 f1 h1 => OK.ifP rfl ?_) (fun w1 c h1 => OK.ifN ne1 (OK.ret (Or.inl ⟨c, h1⟩))))
  have a5 := hI.2.2.2.2.1 f f0 f1
  refine k_xo h1 (v_wideOf h1 (MI.sc rfl hI) f0 f1 (OK.call (v_mbal_L h1 (MI.sc rfl hI) f0 f1 _ _ _ (by decide) (by clear h1; lia) (fu_any (by clear h1; lia) (by clear h1; lia)) (Or.inl ⟨rfl, fun k k0 k1 => absurd k1 (by clear h1; lia)⟩)) (fun q hq => ?_)))
  rcases hq with ⟨e, z⟩ | ⟨e, z⟩
  · rw [e]; exact OK.ifP rfl (OK.ret (Or.inr ⟨f0, f1, Or.inr ⟨rfl, z⟩, h1⟩))
  · rw [e]; exact OK.ifP rfl (OK.ret (Or.inr ⟨f0, f1, Or.inl ⟨rfl, z⟩, h1⟩))
theorem st_balance {a : Int32} (h : LL B g w sz) : OK (f_Law_balance w sz (some B) a (some (B + 28))) (fun q => OK ((xo q.2.1 (some (B + 11)) 5).bind fun b_9 => f_Mod_balance q.2.1 b_9 a) (fun q2 => LL B g q2.2 q.2.2 ∧ CM B q.1 q2.2 (if q2.1 = 0 then 0 else 1))) := by
  obtain ⟨T, K, V, R, I, O, N, a5, a6, a7, s, A, hX⟩ := h.get
  obtain ⟨h1, h2, h3, h4, h5, h6, hM, hI, hO, hS, hQ⟩ := id hX
  unfold f_Law_balance
  refine c_xo h1 h2.1.1.1 (by decide) (OK.call (u_balance h1 h2 hI hS hQ) (fun q hq => ?_))
  rcases hq with ⟨c1, rfl⟩ | ⟨c1, c2, ⟨z, V', v1, v2, e1, e2⟩ | ⟨z, V', v1, v2, e1, e2⟩⟩
  · refine sw_r (OK.ifP rfl (OK.ret (k_xo hM <| (u_mbalance hM hI).mono (fun q2 hq2 => ?_))))
    rcases hq2 with ⟨d1, e⟩ | ⟨d1, d2, -⟩
    · exact hX.no e (by first | exact ne1 | exact ne2 | exact ne3)
    · exact absurd ⟨d1, d2⟩ c1
  · rw [e1]
    refine sw_l (OK.ifN (by decide) ((CX.of v1 hO).put (fun w2 hx hf => OK.ret (k_xo (hx.mod hM) <| (u_mbalance (hx.mod hM) hI).mono (fun q2 hq2 => ?_)))))
    rcases hq2 with ⟨d1, -⟩ | ⟨-, -, ⟨ev, -⟩ | ⟨-, d2⟩, e⟩
    · exact absurd ⟨c1, c2⟩ d1
    · rw [ev, if_neg (by decide)]
      exact ⟨hX.lq c1 c2 v2 hx e e2, CM.yes e rfl hf⟩
    · exact absurd z d2
  · rw [e1]
    refine sw_l (OK.ifP rfl ((CX.of v1 hO).put (fun w2 hx hf => OK.ret (k_xo (hx.mod hM) <| (u_mbalance (hx.mod hM) hI).mono (fun q2 hq2 => ?_)))))
    rcases hq2 with ⟨d1, -⟩ | ⟨-, -, ⟨-, d2⟩ | ⟨ev, -⟩, e⟩
    · exact absurd ⟨c1, c2⟩ d1
    · exact absurd d2 z
    · rw [ev, if_pos rfl]
      exact ⟨hX.lq c1 c2 v2 hx e e2, CM.yes e rfl hf⟩
end VL8
