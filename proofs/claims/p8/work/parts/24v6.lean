/-! place: the same answers; at, about, balance: what stays -/
def plV (A : Nat → Int32 → Int32) (f k t : Int32) : Int32 := if t = 0 then pcs A f k else if t = 1 then mmir A f k else if t = 2 then mtur A f k else if t = 3 then acA A f k else toA A f k
section VL6
variable {B : Nat} {w0 w : Mp} {s : Nat → Int32} {A : Nat → Int32 → Int32} {T K : Nat → Nat} {V : Nat → Nat → Int32} {R : Nat → Nat → Option Nat} {I : Nat → Int32 → Int32} {O : Nat → Int32 → Option Nat} {N : Nat → Int32} {sz g : Nat} {β : Type} {P : β → Prop}
theorem c_face {X : Option Nat → Option β} {e : Option β} {f : Int32} (h : CW B w0 T V R I O N w) (hC : CI B T K V R O N) (hS : SIM B V R I O N s A) (hn : ¬ (0 ≤ f ∧ f < s 9) → OK e P) (hy : 0 ≤ f → f < s 9 → T (la (O (B + 2)) f) = 3 → OK (X (some (la (O (B + 2)) f))) P) : OK ((xo w (some B) 0).bind fun b_2 => (f_LM_faceOrNull w b_2 f).bind fun q_1 => if q_1 = none then e else X q_1) P := by
  have fc := hS.2.1.1
  refine c_xo h hC.1.1.1 (by decide) (n_faceOrNull h hC (fun a f0 f1 ea ta => OK.ifN sne ?_) (fun c => OK.ifP rfl (hn (fun z => c ⟨z.1, by rw [fc]; exact z.2⟩))))
  rw [fc] at f1
  rw [la_eq ea] at hy
  exact hy f0 f1 ta
def LQ (B : Nat) (w0 : Mp) (T : Nat → Nat) (V : Nat → Nat → Int32) (R : Nat → Nat → Option Nat) (I : Nat → Int32 → Int32) (O : Nat → Int32 → Option Nat) (N : Nat → Int32) (A : Nat → Int32 → Int32) (f : Int32) (sz : Nat) {α : Type} (r : α ⊕ Nat) (q : (α ⊕ Nat) × Mp × Nat) : Prop := ∃ V', CW B w0 T V' R I O N q.2.1 ∧ LI B T V V' R O A f (A 11 f) ∧ q.1 = r ∧ sz ≤ q.2.2
theorem LX.lq {a5 a6 a7 f : Int32} {V' : Nat → Nat → Int32} (h : LX B g w sz T K V R I O N a5 a6 a7 s A) (f0 : 0 ≤ f) (f1 : f < s 9) (hl : LI B T V V' R O A f (A 11 f)) {w2 w3 : Mp} {c : Int32} {z : Nat} (hx : CX B w T V' R I O N w2) (hm : MW B w2 (up s 0 c) A w3) (hz : sz ≤ z) : LL B g w3 z := by
  obtain ⟨h1, h2, h3, h4, h5, h6, hM, hI, hO, hS, hQ⟩ := h
  exact LL.fin hx (CI_PL h2 hl.pl) (h3.le hz) (by omega) h5 h6 hm (MI.sc rfl hI) ((hS.keep h2 (hl.keep h2)).code c) ((SX.lay h2 hI hS hQ f0 f1 hl).code c)
theorem mir_01 (A : Nat → Int32 → Int32) (f k : Int32) : (mmir A f k = 0 ∨ mmir A f k = 1) ∧ (mtur A f k = 0 ∨ mtur A f k = 1) := by
  unfold mmir mtur
  grind
theorem u_place {f k t : Int32} (h : CW B w0 T V R I O N w) (hC : CI B T K V R O N) (hI : MI s A) (hS : SIM B V R I O N s A) (hQ : SX B V R O s A) : OK (f_LM_place w sz B f k t) (fun q => (¬ vp s A f k ∧ q = (.inr 2, w, sz + 1)) ∨ (vp s A f k ∧ ¬ (0 ≤ t ∧ t ≤ 4) ∧ LQ B w0 T V R I O N A f sz (.inr 1) q) ∨ (vp s A f k ∧ (0 ≤ t ∧ t ≤ 4) ∧ LQ B w0 T V R I O N A f sz (.inl (plV A f k t)) q)) := by
  have fc := hS.2.1.1
  unfold f_LM_place
  refine c_face h hC hS (fun c => OK.ret (Or.inl ⟨fun z => c ⟨z.1, z.2.1⟩, rfl⟩)) (fun f0 f1 ta => ?_)
  obtain ⟨-, -, ra, tp, hn, hk⟩ := hC.fc f0 (by rw [fc]; exact f1)
  obtain ⟨e1, e2, -⟩ := hS.2.1.2 f f0 f1
  refine c_xo h ta (by decide) (n_hasPiece h ta ra tp hn.1 hn.2 (fun k0 k1 => OK.ifN (by decide) ?_) (fun c => OK.ifP rfl (OK.ret (Or.inl ⟨fun z => c ⟨z.2.2.1, by rw [e2]; exact z.2.2.2⟩, rfl⟩))))
  have kk : k < A 11 f := by rw [← e2]; exact k1
  have hv : vp s A f k := ⟨f0, f1, k0, kk⟩
  have q1 := (hk k k0 k1).2
  refine c_xo h ta (by decide) (v_lay h hC hI hS hQ f0 f1 (fun w' V' h' hl => ?_))
  obtain ⟨c1, c2, c3, c4, c5, -⟩ := c_piece hC hI hS f0 f1 k0 kk
  have bd := hI.2.2.2.2.2.1 f k f0 f1 k0 kk
  have v0 := (hC.lf bd.1 (by rw [hS.1.1]; exact bd.2)).2.2
  have pl := hl.2 k k0 kk
  refine c_gRs h' ta ra (by decide) (c_aRs h' tp (by decide) k0 k1 q1 ?_)
  have yes : ∀ v, v = plV A f k t → 0 ≤ t → t ≤ 4 → OK (some (.inl v, w', sz) : Option ((Int32 ⊕ Nat) × Mp × Nat)) (fun q => (¬ vp s A f k ∧ q = (.inr 2, w, sz + 1)) ∨ (vp s A f k ∧ ¬ (0 ≤ t ∧ t ≤ 4) ∧ LQ B w0 T V R I O N A f sz (.inr 1) q) ∨ (vp s A f k ∧ (0 ≤ t ∧ t ≤ 4) ∧ LQ B w0 T V R I O N A f sz (.inl (plV A f k t)) q)) := fun v ev a b => OK.ret (Or.inr (Or.inr ⟨hv, ⟨a, b⟩, V', h', hl, by rw [ev], Nat.le_refl _⟩))
  have m01 := mir_01 A f k
  refine OK.ite (fun c => ?_) (fun d0 => ?_)
  · exact c_gRs h' c4 c3 (by decide) (c_gI h' c5 (by decide) (yes _ (by rw [hl.1 _ 0 (Or.inl (by rw [c5]; decide)), v0]; unfold plV; rw [if_pos c]) (by rw [c]; decide) (by rw [c]; decide)))
  refine OK.ite (fun c => ?_) (fun d1 => ?_)
  · have ev : V' (la (O (fpc B R O f)) k) 1 = mmir A f k := by rw [hl.1 _ 1 (Or.inr (Or.inl (by decide)))]; exact c1
    have pv : plV A f k t = mmir A f k := by unfold plV; rw [if_neg d0, if_pos c]
    refine c_gI h' c4 (by decide) (OK.ite (fun z => yes _ ?_ (by rw [c]; decide) (by rw [c]; decide)) (fun z => yes _ ?_ (by rw [c]; decide) (by rw [c]; decide)))
    · rw [pv, ← ev, z]
    · rw [ev] at z; rw [pv]; exact (m01.1.resolve_left z).symm
  refine OK.ite (fun c => ?_) (fun d2 => ?_)
  · have ev : V' (la (O (fpc B R O f)) k) 2 = mtur A f k := by rw [hl.1 _ 2 (Or.inr (Or.inl (by decide)))]; exact c2
    have pv : plV A f k t = mtur A f k := by unfold plV; rw [if_neg d0, if_neg d1, if_pos c]
    refine c_gI h' c4 (by decide) (OK.ite (fun z => yes _ ?_ (by rw [c]; decide) (by rw [c]; decide)) (fun z => yes _ ?_ (by rw [c]; decide) (by rw [c]; decide)))
    · rw [pv, ← ev, z]
    · rw [ev] at z; rw [pv]; exact (m01.2.resolve_left z).symm
  refine OK.ite (fun c => ?_) (fun d3 => ?_)
  · exact c_gI h' c4 (by decide) (yes _ (by rw [pl.1]; unfold plV; rw [if_neg d0, if_neg d1, if_neg d2, if_pos c]) (by rw [c]; decide) (by rw [c]; decide))
  refine OK.ite (fun c => ?_) (fun d4 => ?_)
  · exact c_gI h' c4 (by decide) (yes _ (by rw [pl.2]; unfold plV; rw [if_neg d0, if_neg d1, if_neg d2, if_neg d3]) (by rw [c]; decide) (by rw [c]; decide))
  exact OK.ret (Or.inr (Or.inl ⟨hv, by lia, V', h', hl, rfl, Nat.le_succ _⟩))
theorem u_mplace {f k t : Int32} (h : MW B w0 s A w) (hI : MI s A) : OK (f_Mod_place w (B + 11) f k t) (fun q => (¬ vp s A f k ∧ MW B w0 (up s 0 1) A q.2) ∨ (vp s A f k ∧ ¬ (0 ≤ t ∧ t ≤ 4) ∧ MW B w0 (up s 0 2) A q.2) ∨ (vp s A f k ∧ (0 ≤ t ∧ t ≤ 4) ∧ q.1 = plV A f k t ∧ MW B w0 (up s 0 0) A q.2)) := by
  have m01 := mir_01 A f k
  unfold f_Mod_place
  refine k_xo h (m_noPiece h hI (fun w1 f0 f1 k0 k1 h1 => OK.ifP rfl ?_) (fun w1 c h1 => OK.ifN ne1 (OK.ret (Or.inl ⟨c, h1⟩))))
  have hv : vp s A f k := ⟨f0, f1, k0, k1⟩
  have p := m_pc hI f0 f1 k0 k1
  have f8 : f < 8 := by have := hI.2.1; clear p; lia
  refine m_isIn (fun a1 a2 => ?_) (fun c => ?_)
  · refine OK.J1 (OK.ifN (by decide) (k_pF2 h1 (by decide) (fun w2 h2 => k_gIa h2 (by decide) (OK.ifP (by decide) ?_))))
    have yes : ∀ v, v = plV A f k t → OK (some (v, w2) : Option (Int32 × Mp)) (fun q => (¬ vp s A f k ∧ MW B w0 (up s 0 1) A q.2) ∨ (vp s A f k ∧ ¬ (0 ≤ t ∧ t ≤ 4) ∧ MW B w0 (up s 0 2) A q.2) ∨ (vp s A f k ∧ (0 ≤ t ∧ t ≤ 4) ∧ q.1 = plV A f k t ∧ MW B w0 (up s 0 0) A q.2)) := fun v ev => OK.ret (Or.inr (Or.inr ⟨hv, ⟨a1, a2⟩, ev, h2⟩))
    refine OK.ite (fun c => ?_) (fun d0 => OK.ite (fun c => ?_) (fun d1 => OK.ite (fun c => ?_) (fun d2 => OK.ite (fun c => ?_) (fun d3 => ?_))))
    · exact k_gR h2 (by decide) (k_aI h2 (by decide) (by decide) p.1.1 (show 8 * f + k < mln 12 from p.1.2) (yes _ (by unfold plV; rw [if_pos c]; exact p.2.1)))
    · have pv : plV A f k t = mmir A f k := by unfold plV; rw [if_neg d0, if_pos c]
      refine k_xo h2 (m_isMirrored h2 f0 f8 (OK.ite (fun z => yes _ ?_) (fun z => yes _ ?_)))
      · rw [pv, z]
      · rw [pv]; exact (m01.1.resolve_left z).symm
    · have pv : plV A f k t = mtur A f k := by unfold plV; rw [if_neg d0, if_neg d1, if_pos c]
      refine k_xo h2 (m_isTurned h2 f0 f8 (OK.ite (fun z => yes _ ?_) (fun z => yes _ ?_)))
      · rw [pv, z]
      · rw [pv]; exact (m01.2.resolve_left z).symm
    · exact k_xo h2 (v_across h2 (MI.sc rfl hI) f0 f1 k0 k1 (yes _ (by unfold plV; rw [if_neg d0, if_neg d1, if_neg d2, if_pos c])))
    · exact k_xo h2 (v_topOf h2 (MI.sc rfl hI) f0 f1 k0 k1 (yes _ (by unfold plV; rw [if_neg d0, if_neg d1, if_neg d2, if_neg d3])))
  · exact OK.J1 (OK.ifP rfl (k_pF2 h1 (by decide) (fun w2 h2 => k_gIa h2 (by decide) (OK.ifN (by decide) (OK.ret (Or.inr (Or.inl ⟨hv, c, h2⟩)))))))
theorem st_place {a b c : Int32} (h : LL B g w sz) : OK (f_Law_place w sz (some B) a b c (some (B + 28))) (fun q => OK ((xo q.2.1 (some (B + 11)) 5).bind fun b_9 => f_Mod_place q.2.1 b_9 a b c) (fun q2 => LL B g q2.2 q.2.2 ∧ CM B q.1 q2.2 q2.1.toInt64)) := by
  obtain ⟨T, K, V, R, I, O, N, a5, a6, a7, s, A, hX⟩ := h.get
  obtain ⟨h1, h2, h3, h4, h5, h6, hM, hI, hO, hS, hQ⟩ := id hX
  unfold f_Law_place
  refine c_xo h1 h2.1.1.1 (by decide) (OK.call (u_place h1 h2 hI hS hQ) (fun q hq => ?_))
  rcases hq with ⟨c1, rfl⟩ | ⟨c1, c2, V', v1, v2, e1, e2⟩ | ⟨c1, c2, V', v1, v2, e1, e2⟩
  · refine sw_r (OK.ifP rfl (OK.ret (k_xo hM <| (u_mplace hM hI).mono (fun q2 hq2 => ?_))))
    rcases hq2 with ⟨d1, e⟩ | ⟨d1, -⟩ | ⟨d1, -⟩
    · exact hX.no e (by first | exact ne1 | exact ne2 | exact ne3)
    · exact absurd d1 c1
    · exact absurd d1 c1
  · rw [e1]
    have hx := CX.of v1 hO
    refine sw_r (OK.ifN (by decide) (OK.ifP rfl (OK.ret (k_xo (hx.mod hM) <| (u_mplace (hx.mod hM) hI).mono (fun q2 hq2 => ?_)))))
    rcases hq2 with ⟨d1, e⟩ | ⟨d1, d2, e⟩ | ⟨d1, d2, -⟩
    · exact absurd c1 d1
    · exact ⟨hX.lq c1.1 c1.2.1 v2 hx e e2, CM.no e rfl (by first | exact ne1 | exact ne2 | exact ne3)⟩
    · exact absurd d2 c2
  · rw [e1]
    refine sw_l ((CX.of v1 hO).put (fun w2 hx hf => OK.ret (k_xo (hx.mod hM) <| (u_mplace (hx.mod hM) hI).mono (fun q2 hq2 => ?_))))
    rcases hq2 with ⟨d1, e⟩ | ⟨d1, d2, e⟩ | ⟨d1, d2, ev, e⟩
    · exact absurd c1 d1
    · exact absurd c2 d2
    · exact ⟨hX.lq c1.1 c1.2.1 v2 hx e e2, CM.yes e rfl (by rw [ev]; exact hf)⟩
/-! at, about, balance, planned: what stays -/
theorem w_at {f x y : Int32} (h : CW B w0 T V R I O N w) (hC : CI B T K V R O N) (hI : MI s A) (hS : SIM B V R I O N s A) (hQ : SX B V R O s A) : OK (f_LM_at w sz B f x y) (fun q => (¬ (0 ≤ f ∧ f < s 9) ∧ q = (.inr 2, w, sz + 1)) ∨ (0 ≤ f ∧ f < s 9 ∧ ∃ v, LQ B w0 T V R I O N A f sz (.inl v) q)) := by
  unfold f_LM_at
  refine c_face h hC hS (fun c => OK.ret (Or.inl ⟨c, rfl⟩)) (fun f0 f1 ta => ?_)
  obtain ⟨p, pr, hP, pv, p4⟩ := hC.pie ta
  exact c_xo h ta (by decide) (v_lay h hC hI hS hQ f0 f1 (fun w' V' h' hl => c_xo h' ta (by decide) (n_seen h' ta pr (PIE_PL hl.pl hP) (fun v => OK.ret (Or.inr ⟨f0, f1, v, V', h', hl, rfl, Nat.le_refl _⟩)))))
theorem w_balance {f : Int32} (h : CW B w0 T V R I O N w) (hC : CI B T K V R O N) (hI : MI s A) (hS : SIM B V R I O N s A) (hQ : SX B V R O s A) : OK (f_LM_balance w sz B f) (fun q => (¬ (0 ≤ f ∧ f < s 9) ∧ q = (.inr 2, w, sz + 1)) ∨ (0 ≤ f ∧ f < s 9 ∧ ∃ v, LQ B w0 T V R I O N A f sz (.inl v) q)) := by
  unfold f_LM_balance
  refine c_face h hC hS (fun c => OK.ret (Or.inl ⟨c, rfl⟩)) (fun f0 f1 ta => ?_)
  obtain ⟨p, pr, hP, pv, p4⟩ := hC.pie ta
  exact c_xo h ta (by decide) (v_lay h hC hI hS hQ f0 f1 (fun w' V' h' hl => c_xo h' ta (by decide) (n_bal h' ta pr (PIE_PL hl.pl hP) (fun v hv => OK.ifP (bool_01 hv) (OK.ret (Or.inr ⟨f0, f1, v, V', h', hl, rfl, Nat.le_refl _⟩))))))
theorem w_about {f t : Int32} (h : CW B w0 T V R I O N w) (hC : CI B T K V R O N) (hI : MI s A) (hS : SIM B V R I O N s A) (hQ : SX B V R O s A) : OK (f_LM_about w sz B f t) (fun q => (¬ (0 ≤ f ∧ f < s 9) ∧ q = (.inr 2, w, sz + 1)) ∨ (0 ≤ f ∧ f < s 9 ∧ ¬ (0 ≤ t ∧ t ≤ 3) ∧ LQ B w0 T V R I O N A f sz (.inr 1) q) ∨ (0 ≤ f ∧ f < s 9 ∧ (0 ≤ t ∧ t ≤ 3) ∧ ∃ v, LQ B w0 T V R I O N A f sz (.inl v) q)) := by
  unfold f_LM_about
  refine c_face h hC hS (fun c => OK.ret (Or.inl ⟨c, rfl⟩)) (fun f0 f1 ta => ?_)
  obtain ⟨p, pr, hP, pv, p4⟩ := hC.pie ta
  have n8 := hP.2.1
  refine c_xo h ta (by decide) (v_lay h hC hI hS hQ f0 f1 (fun w' V' h' hl => ?_))
  have hP' := PIE_PL hl.pl hP
  have yes : ∀ v, 0 ≤ t → t ≤ 3 → OK (some (.inl v, w', sz) : Option ((Int32 ⊕ Nat) × Mp × Nat)) (fun q => (¬ (0 ≤ f ∧ f < s 9) ∧ q = (.inr 2, w, sz + 1)) ∨ (0 ≤ f ∧ f < s 9 ∧ ¬ (0 ≤ t ∧ t ≤ 3) ∧ LQ B w0 T V R I O N A f sz (.inr 1) q) ∨ (0 ≤ f ∧ f < s 9 ∧ (0 ≤ t ∧ t ≤ 3) ∧ ∃ v, LQ B w0 T V R I O N A f sz (.inl v) q)) := fun v a b => OK.ret (Or.inr (Or.inr ⟨f0, f1, ⟨a, b⟩, v, V', h', hl, rfl, Nat.le_refl _⟩))
  refine OK.ite (fun c => ?_) (fun c0 => ?_)
  · exact c_xo h' ta (by decide) (n_size h' ta pr hP' (fun v => yes _ (by rw [c]; decide) (by rw [c]; decide)))
  refine OK.ite (fun c => ?_) (fun c1 => ?_)
  · exact c_xo h' ta (by decide) (n_bot h' ta pr hP' (fun v => c_xo h' ta (by decide) (n_top h' ta pr hP' (fun v => yes _ (by rw [c]; decide) (by rw [c]; decide)))))
  refine OK.ite (fun c => ?_) (fun c2 => ?_)
  · exact c_gRs h' ta pr (by decide) (c_aL h' hP.1 (by decide) (by clear hP hP'; lia) (yes _ (by rw [c]; decide) (by rw [c]; decide)))
  refine OK.ite (fun c => ?_) (fun c3 => ?_)
  · exact c_gI h' ta (by decide) (yes _ (by rw [c]; decide) (by rw [c]; decide))
  exact OK.ret (Or.inr (Or.inl ⟨f0, f1, by lia, V', h', hl, rfl, Nat.le_succ _⟩))
theorem sl_at {a b c : Int32} (h : LL B g w sz) : OK (f_Law_at w sz (some B) a b c (some (B + 28))) (fun q => OK ((xo q.2.1 (some (B + 11)) 5).bind fun b_9 => f_Mod_at q.2.1 b_9 a b c) (fun q2 => LL B g q2.2 q.2.2)) := by
  obtain ⟨T, K, V, R, I, O, N, a5, a6, a7, s, A, hX⟩ := h.get
  obtain ⟨h1, h2, h3, h4, h5, h6, hM, hI, hO, hS, hQ⟩ := id hX
  unfold f_Law_at
  refine c_xo h1 h2.1.1.1 (by decide) (OK.call (w_at h1 h2 hI hS hQ) (fun q hq => ?_))
  rcases hq with ⟨c1, rfl⟩ | ⟨c1, c2, v, V', v1, v2, e1, e2⟩
  · exact sw_r (OK.ifP rfl (OK.ret (k_xo hM <| (m_at hM hI).mono (fun q2 ⟨d, e, _⟩ => LL.fin (CX.of h1 hO) h2 (h3.le (by show sz ≤ sz + 1; omega)) (by show B + 29 ≤ sz + 1; omega) h5 h6 e (MI.sc rfl hI) (hS.code d) (hQ.code d)))))
  · rw [e1]
    exact sw_l ((CX.of v1 hO).put (fun w2 hx _ => OK.ret (k_xo (hx.mod hM) <| (m_at (hx.mod hM) hI).mono (fun q2 ⟨d, e, _⟩ => hX.lq c1 c2 v2 hx e e2))))
theorem sl_balance {a : Int32} (h : LL B g w sz) : OK (f_Law_balance w sz (some B) a (some (B + 28))) (fun q => OK ((xo q.2.1 (some (B + 11)) 5).bind fun b_9 => f_Mod_balance q.2.1 b_9 a) (fun q2 => LL B g q2.2 q.2.2)) := by
  obtain ⟨T, K, V, R, I, O, N, a5, a6, a7, s, A, hX⟩ := h.get
  obtain ⟨h1, h2, h3, h4, h5, h6, hM, hI, hO, hS, hQ⟩ := id hX
  unfold f_Law_balance
  refine c_xo h1 h2.1.1.1 (by decide) (OK.call (w_balance h1 h2 hI hS hQ) (fun q hq => ?_))
  rcases hq with ⟨c1, rfl⟩ | ⟨c1, c2, v, V', v1, v2, e1, e2⟩
  · exact sw_r (OK.ifP rfl (OK.ret (k_xo hM <| (m_balance hM hI).mono (fun q2 ⟨d, e, _⟩ => LL.fin (CX.of h1 hO) h2 (h3.le (by show sz ≤ sz + 1; omega)) (by show B + 29 ≤ sz + 1; omega) h5 h6 e (MI.sc rfl hI) (hS.code d) (hQ.code d)))))
  · rw [e1]
    exact sw_l (OK.ite (fun _ => (CX.of v1 hO).put (fun w2 hx _ => OK.ret (k_xo (hx.mod hM) <| (m_balance (hx.mod hM) hI).mono (fun q2 ⟨d, e, _⟩ => hX.lq c1 c2 v2 hx e e2)))) (fun _ => (CX.of v1 hO).put (fun w2 hx _ => OK.ret (k_xo (hx.mod hM) <| (m_balance (hx.mod hM) hI).mono (fun q2 ⟨d, e, _⟩ => hX.lq c1 c2 v2 hx e e2)))))
theorem sl_about {a b : Int32} (h : LL B g w sz) : OK (f_Law_about w sz (some B) a b (some (B + 28))) (fun q => OK ((xo q.2.1 (some (B + 11)) 5).bind fun b_9 => f_Mod_about q.2.1 b_9 a b) (fun q2 => LL B g q2.2 q.2.2)) := by
  obtain ⟨T, K, V, R, I, O, N, a5, a6, a7, s, A, hX⟩ := h.get
  obtain ⟨h1, h2, h3, h4, h5, h6, hM, hI, hO, hS, hQ⟩ := id hX
  unfold f_Law_about
  refine c_xo h1 h2.1.1.1 (by decide) (OK.call (w_about h1 h2 hI hS hQ) (fun q hq => ?_))
  rcases hq with ⟨c1, rfl⟩ | ⟨c1, c2, c3, V', v1, v2, e1, e2⟩ | ⟨c1, c2, c3, v, V', v1, v2, e1, e2⟩
  · exact sw_r (OK.ifP rfl (OK.ret (k_xo hM <| (m_about hM hI).mono (fun q2 ⟨d, e, _⟩ => LL.fin (CX.of h1 hO) h2 (h3.le (by show sz ≤ sz + 1; omega)) (by show B + 29 ≤ sz + 1; omega) h5 h6 e (MI.sc rfl hI) (hS.code d) (hQ.code d)))))
  · rw [e1]
    have hx := CX.of v1 hO
    exact sw_r (OK.ifN (by decide) (OK.ifP rfl (OK.ret (k_xo (hx.mod hM) <| (m_about (hx.mod hM) hI).mono (fun q2 ⟨d, e, _⟩ => hX.lq c1 c2 v2 hx e e2)))))
  · rw [e1]
    exact sw_l ((CX.of v1 hO).put (fun w2 hx _ => OK.ret (k_xo (hx.mod hM) <| (m_about (hx.mod hM) hI).mono (fun q2 ⟨d, e, _⟩ => hX.lq c1 c2 v2 hx e e2))))
theorem w_planned {k t : Int32} (h : CW B w0 T V R I O N w) (hC : CI B T K V R O N) : OK (f_LM_planned w sz B k t) (fun q => q.2.1 = w ∧ sz ≤ q.2.2 ∧ CE [0, 2, 1] q.1) := by
  obtain ⟨⟨⟨t0, t1, t2, t3, t4, t5, t6, t10⟩, ⟨m1, m2, m4, m5, m6, m10⟩, ⟨r0, r2, r4, r5, p0, p3, p4⟩, -, -⟩, -, -, -, -, -, c7⟩ := hC
  have no : ∀ j : Nat, j ∈ [0, 2, 1] → OK (some (.inr j, w, sz + 1) : Option ((Int32 ⊕ Nat) × Mp × Nat)) (fun q => q.2.1 = w ∧ sz ≤ q.2.2 ∧ CE [0, 2, 1] q.1) := fun j hj => OK.ret ⟨rfl, Nat.le_succ _, Or.inr ⟨j, hj, rfl⟩⟩
  have yes : ∀ v : Int32, OK (some (.inl v, w, sz) : Option ((Int32 ⊕ Nat) × Mp × Nat)) (fun q => q.2.1 = w ∧ sz ≤ q.2.2 ∧ CE [0, 2, 1] q.1) := fun v => OK.ret ⟨rfl, Nat.le_refl _, Or.inl ⟨v, rfl⟩⟩
  unfold f_LM_planned
  refine c_gRs h t0 r4 (by decide) (c_gI h t3 (by decide) (OK.ite (fun c => no 0 (by decide)) (fun c => ?_)))
  refine c_gRs h t0 r4 (by decide) (c_gI h t3 (by decide) (n_isWithin (fun a1 a2 => OK.ifN (by decide) ?_) (fun c => OK.ifP rfl (no 2 (by decide)))))
  have k8 : k < V (B + 3) 1 ∧ k < 8 := by constructor <;> lia
  refine OK.ite (fun c => ?_) (fun c0 => OK.ite (fun c => ?_) (fun c1 => ?_))
  · exact c_gRs h t0 r4 (by decide) (c_gRs h t3 p3 (by decide) (c_aI h t5 a1 (by rw [m5]; exact k8.2) (yes _)))
  · exact c_gRs h t0 r4 (by decide) (c_gRs h t3 p4 (by decide) (c_aI h t6 a1 (by rw [m6]; exact k8.2) (yes _)))
  · exact no 1 (by decide)
theorem sl_planned {a b : Int32} (h : LL B g w sz) : OK (f_Law_planned w sz (some B) a b (some (B + 28))) (fun q => OK ((xo q.2.1 (some (B + 11)) 5).bind fun b_9 => f_Mod_planned q.2.1 b_9 a b) (fun q2 => LL B g q2.2 q.2.2)) := by
  obtain ⟨T, K, V, R, I, O, N, a5, a6, a7, s, A, hX⟩ := h.get
  obtain ⟨h1, h2, h3, h4, h5, h6, hM, hI, hO, hS, hQ⟩ := id hX
  unfold f_Law_planned
  refine c_xo h1 h2.1.1.1 (by decide) (OK.call (w_planned h1 h2) (fun q ⟨ew, ez, hc⟩ => ?_))
  have hx : CX B w T V R I O N q.2.1 := by rw [ew]; exact CX.of h1 hO
  have fin : ∀ w2 w3 d, CX B w T V R I O N w2 → MW B w2 (up s 0 d) A w3 → LL B g w3 q.2.2 := fun w2 w3 d hx e => LL.fin hx h2 (h3.le ez) (by omega) h5 h6 e (MI.sc rfl hI) (hS.code d) (hQ.code d)
  refine sw_c hc (fun v _ => hx.put (fun w2 hx2 _ => OK.ret (k_xo (hx2.mod hM) <| (m_planned (hx2.mod hM) hI).mono (fun q2 ⟨d, e, _⟩ => fin _ _ d hx2 e)))) (fun k hk => ?_)
  have ek : k = 0 ∨ k = 2 ∨ k = 1 := by simpa using hk
  rcases ek with rfl | rfl | rfl
  · exact OK.ifP rfl (OK.ret (k_xo (hx.mod hM) <| (m_planned (hx.mod hM) hI).mono (fun q2 ⟨d, e, _⟩ => fin _ _ d hx e)))
  · exact OK.ifN (by decide) (OK.ifP rfl (OK.ret (k_xo (hx.mod hM) <| (m_planned (hx.mod hM) hI).mono (fun q2 ⟨d, e, _⟩ => fin _ _ d hx e))))
  · exact OK.ifN (by decide) (OK.ifN (by decide) (OK.ifP rfl (OK.ret (k_xo (hx.mod hM) <| (m_planned (hx.mod hM) hI).mono (fun q2 ⟨d, e, _⟩ => fin _ _ d hx e)))))
end VL6
