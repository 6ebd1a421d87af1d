/-! number, both sides -/
def ltr (kd : Int32) : Int32 := if kd = 0 then 66 else if kd = 1 then 83 else if kd = 2 then 82 else 68
def rf3 (A : Nat → Int32 → Int32) (fc kd : Int32) : Nat → Int32 → Int32 := upA (wdig (upA A 21 0 70) (fc + 1) 5 1 (pw (fc + 1))) 21 (1 + wlen (fc + 1)) (ltr kd)
def rf4 (A : Nat → Int32 → Int32) (fc kd num : Int32) : (Nat → Int32 → Int32) × Int32 := (wdig (rf3 A fc kd) num 5 (1 + wlen (fc + 1) + 1) (pw num), 1 + wlen (fc + 1) + 1 + wlen num)
def rfx (r : (Nat → Int32 → Int32) × Int32) (m x : Int32) : (Nat → Int32 → Int32) × Int32 := if m = 0 then r else (upA r.1 21 r.2 x, r.2 + 1)
def rfA (A : Nat → Int32 → Int32) (fc kd num mi tu : Int32) : (Nat → Int32 → Int32) × Int32 := rfx (rfx (rf4 A fc kd num) mi 109) tu 116
def numV (A : Nat → Int32 → Int32) (f k i : Int32) : Int32 := if (rfA A f (A 10 f) (A 3 (pcs A f k)) (mmir A f k) (mtur A f k)).2 ≤ i then -1 else (rfA A f (A 10 f) (A 3 (pcs A f k)) (mmir A f k) (mtur A f k)).1 21 i
def vpc (s : Nat → Int32) (A : Nat → Int32 → Int32) (f k : Int32) : Prop := 0 ≤ f ∧ f < s 9 ∧ 0 ≤ k ∧ k < A 11 f
section VL4
variable {B : Nat} {w0 w u : Mp} {s : Nat → Int32} {A : Nat → Int32 → Int32} {T K : Nat → Nat} {V : Nat → Nat → Int32} {R : Nat → Nat → Option Nat} {I : Nat → Int32 → Int32} {O : Nat → Int32 → Option Nat} {N : Nat → Int32} {z sz g : Nat} {c : Int32} {f : Nat → Int32} {β : Type} {P : β → Prop}
theorem OK.J1p {α : Type} {ff : α → Option β} {F : (α → Option β) → Option β} {Q : α → Prop} (hf : ∀ x, Q x → OK (ff x) P) (hF : ∀ gg : α → Option β, (∀ x, Q x → OK (gg x) P) → OK (F gg) P) : OK (xJ1 ff F) P := hF ff hf
theorem OK.J2p {α1 α2 : Type} {ff : α1 → α2 → Option β} {F : (α1 → α2 → Option β) → Option β} {Q : α1 → α2 → Prop} (hf : ∀ x y, Q x y → OK (ff x y) P) (hF : ∀ gg : α1 → α2 → Option β, (∀ x y, Q x y → OK (gg x y) P) → OK (F gg) P) : OK (xJ2 ff F) P := hF ff hf
theorem wlen_1 {fc : Int32} (f0 : 0 ≤ fc) (f1 : fc ≤ 7) : wlen (fc + 1) = 1 := if_pos (by lia)
theorem ltr_c {kd : Int32} (k0 : 0 ≤ kd) (k1 : kd ≤ 3) : ([66, 83, 82, 68] : List Int32).getD kd.toNatClampNeg 0 = ltr kd ∧ chr (nb (ltr kd)) = ltr kd := by
  have : kd = 0 ∨ kd = 1 ∨ kd = 2 ∨ kd = 3 := by lia
  rcases this with rfl | rfl | rfl | rfl <;> exact ⟨by decide, by decide⟩
theorem n_writtenx {F : Option Nat × Mp × Nat → Option β} {fc kd : Int32} {q l : Nat} (h : CW B w0 T V R I O N w) (hF : FR T sz) (hz : B + 29 ≤ sz) (f0 : 0 ≤ fc) (f1 : fc ≤ 7) (k0 : 0 ≤ kd) (k1 : kd ≤ 3) (tq : T q = 2) (rl : R q 0 = some l) (tl : T l = 1) (m0 : 0 ≤ V l 2) (m1 : V l 2 ≤ 1000) (A : Nat → Int32 → Int32) (hp : ∀ w' f' c', TX sz c' f' w w' → 0 ≤ c' → c' ≤ 16 → c' = (rfA A fc kd (V l 2) (V q 1) (V q 2)).2 → RT c' f' (rfA A fc kd (V l 2) (V q 1) (V q 2)).1 → OK (F (some sz, w', sz + 2)) P) : OK ((f_LM_writtenOn w sz fc kd (some q)).bind F) P := by
  refine OK.call (P := fun r => r.1 = some sz ∧ r.2.2 = sz + 2 ∧ ∃ f' c', TX sz c' f' w r.2.1 ∧ 0 ≤ c' ∧ c' ≤ 16 ∧ c' = (rfA A fc kd (V l 2) (V q 1) (V q 2)).2 ∧ RT c' f' (rfA A fc kd (V l 2) (V q 1) (V q 2)).1) ?_ (fun r hr => by obtain ⟨q1, q2, q3⟩ := r; obtain ⟨rfl, rfl, f', c', e1, e2, e3, e4, e5⟩ := hr; exact hp _ _ _ e1 e2 e3 e4 e5)
  unfold f_LM_writtenOn
  refine t_new (fun w1 x1 => t_xo x1 (t_app0 x1 (by decide) (by decide) (by decide) (fun w2 x2 => ?_)))
  have r2 : RT (0 + 1) (upd (fun _ => 0) (0 : Int32).toNatClampNeg (nb 70)) (upA A 21 0 70) := RT_0 (fun i i0 i1 => absurd i1 (by lia)) (by decide) (by decide) (by decide)
  rw [show (0 : Int32) + 1 = 1 by decide] at r2
  have x2 : TX sz 1 (upd (fun _ => 0) (0 : Int32).toNatClampNeg (nb 70)) w w2 := by rw [← show (0 : Int32) + 1 = 1 by decide]; exact x2
  generalize upd (fun _ => 0) (0 : Int32).toNatClampNeg (nb 70) = f2 at x2 r2
  refine t_xo x2 (t_app1x x2 (by decide) (by decide) (by lia) (by lia) (fun w3 x3 => ?_))
  have r3 := RT_1 r2 (by decide) (by decide) (show 0 ≤ fc + 1 by lia) (show fc + 1 ≤ 1000 by lia)
  have e1 := wlen_1 f0 f1
  generalize gcx f2 (fc + 1) (1 + wlen (fc + 1)) = f3 at x3 r3
  have l3 : 1 + wlen (fc + 1) = 2 := by rw [e1]; decide
  refine t_str k0 k1 (fun v v1 ev => t_xo x3 (t_app0 x3 (by rw [l3]; decide) (by rw [l3]; decide) v1 (fun w4 x4 => ?_)))
  rw [(ltr_c k0 k1).1] at ev
  subst ev
  have r4 := RT_0 r3 (by rw [l3]; decide) (by rw [l3]; decide) (ltr_c k0 k1).2
  have x4 : TX sz (1 + wlen (fc + 1) + 1) (upd f3 (1 + wlen (fc + 1)).toNatClampNeg (nb (ltr kd))) w w4 := x4
  generalize upd f3 (1 + wlen (fc + 1)).toNatClampNeg (nb (ltr kd)) = f4 at x4 r4
  have l4 : 1 + wlen (fc + 1) + 1 = 3 := by rw [l3]; decide
  have h4 := CW_tx h hF hz x4
  refine c_gRs h4 tq rl (by decide) (c_gI h4 tl (by decide) (t_xo x4 (t_app1x x4 (by rw [l4]; decide) (by rw [l4]; decide) m0 m1 (fun w5 x5 => ?_))))
  have r5 : RT (rf4 A fc kd (V l 2)).2 (gcx f4 (V l 2) (1 + wlen (fc + 1) + 1 + wlen (V l 2))) (rf4 A fc kd (V l 2)).1 := RT_1 r4 (by rw [l4]; decide) (by rw [l4]; decide) m0 m1
  have x5 : TX sz (rf4 A fc kd (V l 2)).2 (gcx f4 (V l 2) (1 + wlen (fc + 1) + 1 + wlen (V l 2))) w w5 := x5
  have b5 : 4 ≤ (rf4 A fc kd (V l 2)).2 ∧ (rf4 A fc kd (V l 2)).2 ≤ 7 := by
    have wb := wl (v := V l 2)
    show 4 ≤ 1 + wlen (fc + 1) + 1 + wlen (V l 2) ∧ 1 + wlen (fc + 1) + 1 + wlen (V l 2) ≤ 7
    rw [l4]
    clear r5 x5 r4 x4 r3 x3
    constructor <;> lia
  generalize gcx f4 (V l 2) (1 + wlen (fc + 1) + 1 + wlen (V l 2)) = f5 at x5 r5
  have h5 := CW_tx h hF hz x5
  have go : ∀ (w6 : Mp) (f6 : Nat → Int32) (r : (Nat → Int32 → Int32) × Int32), r = rfx (rf4 A fc kd (V l 2)) (V q 1) 109 → 4 ≤ r.2 → r.2 ≤ 8 → TX sz r.2 f6 w w6 → RT r.2 f6 r.1 → OK ((gI w6 (some q) 2 2).bind fun v_18 => if v_18 = 0 then (some ((some sz), w6, sz + 2)) else ((xo w6 (some sz) 6).bind fun b_20 => (f_SB_append0 w6 b_20 (116 : Int32)).bind fun q_19 => some ((some sz), q_19.2, sz + 2))) (fun r => r.1 = some sz ∧ r.2.2 = sz + 2 ∧ ∃ f' c', TX sz c' f' w r.2.1 ∧ 0 ≤ c' ∧ c' ≤ 16 ∧ c' = (rfA A fc kd (V l 2) (V q 1) (V q 2)).2 ∧ RT c' f' (rfA A fc kd (V l 2) (V q 1) (V q 2)).1) := fun w6 f6 r er a6 b6 x6 r6 => by
    have h6 := CW_tx h hF hz x6
    have eA : rfA A fc kd (V l 2) (V q 1) (V q 2) = rfx r (V q 2) 116 := by unfold rfA; rw [er]
    refine c_gI h6 tq (by decide) (OK.ite (fun e9 => OK.ret ⟨rfl, rfl, f6, r.2, x6, by lia, by lia, ?_, ?_⟩) (fun e9 => t_xo x6 (t_app0 x6 (by lia) (by lia) (by decide) (fun w7 x7 => OK.ret ⟨rfl, rfl, _, r.2 + 1, x7, by lia, by lia, ?_, ?_⟩))))
    · rw [eA]; unfold rfx; rw [if_pos e9]
    · rw [eA]; unfold rfx; rw [if_pos e9]; exact r6
    · rw [eA]; unfold rfx; rw [if_neg e9]
    · rw [eA]; unfold rfx; rw [if_neg e9]; exact RT_0 r6 (by lia) (by lia) (by decide)
  refine c_gI h5 tq (by decide) (OK.J1 (OK.ite (fun e9 => ?_) (fun e9 => t_xo x5 (t_app0 x5 (by lia) (by lia) (by decide) (fun w6 x6 => ?_)))))
  · exact go _ f5 (rf4 A fc kd (V l 2)) (by unfold rfx; rw [if_pos e9]) b5.1 (by lia) x5 r5
  · exact go _ _ (upA (rf4 A fc kd (V l 2)).1 21 (rf4 A fc kd (V l 2)).2 109, (rf4 A fc kd (V l 2)).2 + 1) (by unfold rfx; rw [if_neg e9]) (by show 4 ≤ (rf4 A fc kd (V l 2)).2 + 1; lia) (by show (rf4 A fc kd (V l 2)).2 + 1 ≤ 8; lia) x6 (RT_0 r5 (by lia) (by lia) (by decide))
theorem u_number {fc k i : Int32} (h : CW B w0 T V R I O N w) (hC : CI B T K V R O N) (hF : FR T sz) (hz : B + 29 ≤ sz) (hI : MI s A) (hS : SIM B V R I O N s A) : OK (f_LM_number w sz B fc k i) (fun q => (¬ vpc s A fc k ∧ q = (.inr 2, w, sz + 1)) ∨ (vpc s A fc k ∧ ¬ 0 ≤ i ∧ q = (.inr 1, w, sz + 1)) ∨ (vpc s A fc k ∧ 0 ≤ i ∧ CW B w0 T V R I O N q.2.1 ∧ q.2.2 = sz + 2 ∧ q.1 = .inl (numV A fc k i))) := by
  have t0 := hC.1.1.1
  have fcE := hS.2.1.1
  have s8 := hI.2.1.2
  unfold f_LM_number
  refine c_xo h t0 (by decide) (n_faceOrNull h hC (fun a f0 f1 ea ta => OK.ifN sne ?_) (fun c => OK.ifP rfl (OK.ret (Or.inl ⟨fun z => c ⟨z.1, by rw [fcE]; exact z.2.1⟩, rfl⟩))))
  obtain ⟨p, pr, hP, pv, p4⟩ := hC.pie ta
  rw [fcE] at f1
  obtain ⟨e1, e2, -⟩ := hS.2.1.2 fc f0 f1
  rw [la_eq ea] at e1
  have e2' := e2
  rw [fpc_eq ea pr] at e2
  refine c_xo h ta (by decide) (n_hasPiece h ta pr hP.1 hP.2.1.1 hP.2.1.2 (fun k0 k1 => OK.ifN (by decide) ?_) (fun c => OK.ifP rfl (OK.ret (Or.inl ⟨fun z => c ⟨z.2.2.1, by rw [e2]; exact z.2.2.2⟩, rfl⟩))))
  have kk : k < A 11 fc := by rw [← e2]; exact k1
  refine OK.ite (fun i0 => ?_) (fun i0 => OK.ret (Or.inr (Or.inl ⟨⟨f0, f1, k0, kk⟩, i0, rfl⟩)))
  obtain ⟨c1, c2, c3, c4, c5, ⟨⟨-, l2, -⟩, -⟩⟩ := c_piece hC hI hS f0 f1 k0 kk
  have qo := (hC.fc f0 (by rw [fcE]; exact f1)).2.2.2.2.2 k k0 (by rw [e2']; exact kk)
  rw [fpc_eq ea pr] at c1 c2 c3 c4 qo
  have nbd := (m_pc hI f0 f1 k0 kk).2.2.2.2.2
  rw [← l2] at nbd
  refine c_gI h ta (by decide) (c_gRs h ta pr (by decide) (c_aRs h hP.1 (by decide) k0 k1 qo.2 (n_writtenx h hF hz f0 (by lia) pv.1 pv.2 c4 c3 c5 nbd.1 nbd.2 A (fun w' f' c' hx b0 b1 ec hr => ?_))))
  have h' := CW_tx h hF hz hx
  rw [e1, l2, c1, c2] at ec hr
  refine t_xo hx (t_len hx (OK.ite (fun c9 => OK.ret (Or.inr (Or.inr ⟨⟨f0, f1, k0, kk⟩, i0, h', rfl, ?_⟩))) (fun c9 => t_xo hx (t_chr hx i0 (by lia) b1 (fun v hv => OK.ret (Or.inr (Or.inr ⟨⟨f0, f1, k0, kk⟩, i0, h', rfl, ?_⟩)))))))
  · show Sum.inl _ = Sum.inl _
    unfold numV
    rw [← ec, if_pos c9]
  · show Sum.inl v = Sum.inl _
    unfold numV
    rw [← ec, if_neg c9, hv]
    have := hr i i0 (by lia)
    exact congrArg _ this
theorem mm_eq {A' : Nat → Int32 → Int32} (e : A' 10 = A 10) (f k : Int32) : mmir A' f k = mmir A f k ∧ mtur A' f k = mtur A f k := by
  unfold mmir mtur
  rw [e]
  exact ⟨rfl, rfl⟩
theorem rf3_n {fc kd : Int32} {j : Nat} (hj : j ≠ 21) : rf3 A fc kd j = A j := by unfold rf3; rw [u21 hj, wdig_ne hj, u21 hj]
theorem rf4_n {fc kd num : Int32} {j : Nat} (hj : j ≠ 21) : (rf4 A fc kd num).1 j = A j := by show wdig (rf3 A fc kd) num 5 (1 + wlen (fc + 1) + 1) (pw num) j = A j; rw [wdig_ne hj, rf3_n hj]
theorem rfx_n {r : (Nat → Int32 → Int32) × Int32} {m x : Int32} {j : Nat} (hj : j ≠ 21) : (rfx r m x).1 j = r.1 j := by
  unfold rfx
  by_cases e : m = 0
  · rw [if_pos e]
  · rw [if_neg e]; exact u21 hj
theorem rfA_n {fc kd num mi tu : Int32} {j : Nat} (hj : j ≠ 21) : (rfA A fc kd num mi tu).1 j = A j := by unfold rfA; rw [rfx_n hj, rfx_n hj, rf4_n hj]
theorem u_mnumber {fc k i : Int32} (h : MW B w0 s A w) (hI : MI s A) : OK (f_Mod_number w (B + 11) fc k i) (fun q => (¬ vpc s A fc k ∧ MW B w0 (up s 0 1) A q.2) ∨ (vpc s A fc k ∧ ¬ 0 ≤ i ∧ MW B w0 (up s 0 2) A q.2) ∨ (vpc s A fc k ∧ 0 ≤ i ∧ q.1 = numV A fc k i ∧ MW B w0 (up s 0 0) (rfA A fc (A 10 fc) (A 3 (pcs A fc k)) (mmir A fc k) (mtur A fc k)).1 q.2)) := by
  have s8 := hI.2.1.2
  unfold f_Mod_number
  refine k_xo h (m_noPiece h hI (fun w1 f0 f1 k0 k1 h1 => OK.ifP rfl ?_) (fun w1 c h1 => OK.ifN ne1 (OK.ret (Or.inl ⟨c, h1⟩))))
  have p := m_pc hI f0 f1 k0 k1
  have e1 := wlen_1 f0 (show fc ≤ 7 by clear p; lia)
  have l3 : 1 + wlen (fc + 1) = 2 := by rw [e1]; decide
  have l4 : 1 + wlen (fc + 1) + 1 = 3 := by rw [l3]; decide
  have wb := wl (v := A 3 (pcs A fc k))
  have f8 : fc < 8 := by clear p; lia
  refine OK.J1 (OK.ite (fun i0 => ?_) (fun i0 => k_pF2 h1 (by decide) (fun w2 h2 => k_gIa h2 (by decide) (OK.ifN (by decide) (OK.ret (Or.inr (Or.inl ⟨⟨f0, f1, k0, k1⟩, i0, h2⟩)))))))
  refine k_pF2 h1 (by decide) (fun w2 h2 => k_gIa h2 (by decide) (OK.ifP (by decide) ?_))
  refine k_gR h2 (by decide) (k_sI h2 (by decide) (by decide) (by decide) (by decide) (fun w3 h3 => ?_))
  refine k_xo h3 (m_writeNumber h3 (by decide) (by decide) (by clear p; lia) (by clear p; lia) (fun w4 h4 => ?_))
  refine k_gR h4 (by decide) (k_gR h4 (by decide) (k_aI h4 (by decide) (by decide) f0 (show fc < mln 10 from f8) ?_))
  rw [w10, u10]
  refine OK.J1p (Q := fun x => x = ltr (A 10 fc)) (fun x ex => ?_) (fun J hJ => ?_)
  · subst ex
    refine k_sI h4 (by decide) (by decide) (by show (0 : Int32) ≤ 1 + wlen (fc + 1); rw [l3]; decide) (by show 1 + wlen (fc + 1) < mln 21; rw [l3]; decide) (fun w5 h5 => ?_)
    have h5 : MW B w0 (up s 0 0) (rf3 A fc (A 10 fc)) w5 := h5
    refine k_gR h5 (by decide) (k_gR h5 (by decide) (k_aI h5 (by decide) (by decide) p.1.1 (show 8 * fc + k < mln 12 from p.1.2) ?_))
    rw [rf3_n (by decide), p.2.1]
    refine k_aI h5 (by decide) (by decide) p.2.2.1.1 (show pcs A fc k < mln 3 from p.2.2.1.2) ?_
    rw [rf3_n (by decide)]
    refine k_xo h5 (m_writeNumber h5 (by show (0 : Int32) ≤ 1 + wlen (fc + 1) + 1; rw [l4]; decide) (by show 1 + wlen (fc + 1) + 1 ≤ 20; rw [l4]; decide) p.2.2.2.2.2.1 p.2.2.2.2.2.2 (fun w6 h6 => ?_))
    have h6 : MW B w0 (up s 0 0) (rf4 A fc (A 10 fc) (A 3 (pcs A fc k))).1 w6 := h6
    have l6 : (rf4 A fc (A 10 fc) (A 3 (pcs A fc k))).2 = 1 + wlen (fc + 1) + 1 + wlen (A 3 (pcs A fc k)) := rfl
    have b6 : 4 ≤ (rf4 A fc (A 10 fc) (A 3 (pcs A fc k))).2 ∧ (rf4 A fc (A 10 fc) (A 3 (pcs A fc k))).2 ≤ 7 := by
      rw [l6, l4]
      clear p
      constructor <;> lia
    have m6 := mm_eq (A' := (rf4 A fc (A 10 fc) (A 3 (pcs A fc k))).1) (A := A) (rf4_n (by decide)) fc k
    refine k_xo h6 (m_isMirrored h6 f0 f8 ?_)
    rw [m6.1]
    refine OK.J2p (Q := fun x w' => x = (rfx (rf4 A fc (A 10 fc) (A 3 (pcs A fc k))) (mmir A fc k) 109).2 ∧ MW B w0 (up s 0 0) (rfx (rf4 A fc (A 10 fc) (A 3 (pcs A fc k))) (mmir A fc k) 109).1 w') (fun x w7 hq => ?_) (fun J hJ => ?_)
    · obtain ⟨ex, h7⟩ := hq
      have b7 : 4 ≤ x ∧ x ≤ 8 := by
        rw [ex]
        unfold rfx
        by_cases e : mmir A fc k = 0
        · rw [if_pos e]; clear p; constructor <;> lia
        · rw [if_neg e]; clear p
          show 4 ≤ (rf4 A fc (A 10 fc) (A 3 (pcs A fc k))).2 + 1 ∧ (rf4 A fc (A 10 fc) (A 3 (pcs A fc k))).2 + 1 ≤ 8
          constructor <;> lia
      have m7 := mm_eq (A' := (rfx (rf4 A fc (A 10 fc) (A 3 (pcs A fc k))) (mmir A fc k) 109).1) (A := A) (by rw [rfx_n (by decide), rf4_n (by decide)]) fc k
      refine k_xo h7 (m_isTurned h7 f0 f8 ?_)
      rw [m7.2]
      refine OK.J2p (Q := fun x w' => x = (rfA A fc (A 10 fc) (A 3 (pcs A fc k)) (mmir A fc k) (mtur A fc k)).2 ∧ x ≤ 9 ∧ MW B w0 (up s 0 0) (rfA A fc (A 10 fc) (A 3 (pcs A fc k)) (mmir A fc k) (mtur A fc k)).1 w') (fun y w8 hq => ?_) (fun J hJ => ?_)
      · obtain ⟨ey, y9, h8⟩ := hq
        refine OK.ite (fun c9 => OK.ret (Or.inr (Or.inr ⟨⟨f0, f1, k0, k1⟩, i0, ?_, h8⟩))) (fun c9 => k_gR h8 (by decide) (k_aI h8 (by decide) (by decide) i0 (by show i < (32 : Int32); clear p; lia) (OK.ret (Or.inr (Or.inr ⟨⟨f0, f1, k0, k1⟩, i0, ?_, h8⟩)))))
        · unfold numV; rw [← ey, if_pos c9]
        · unfold numV; rw [← ey, if_neg c9]
      · refine OK.ite (fun e9 => hJ _ _ ⟨?_, by clear p; lia, ?_⟩) (fun e9 => k_gR h7 (by decide) (k_sI h7 (by decide) (by decide) (by clear p; lia) (by show x < (32 : Int32); clear p; lia) (fun w8 h8 => hJ _ _ ⟨?_, by clear p; lia, ?_⟩)))
        · unfold rfA rfx; rw [if_pos e9]; exact ex
        · unfold rfA; rw [rfx, if_pos e9]; exact h7
        · unfold rfA; rw [rfx, if_neg e9, ex]
        · unfold rfA; rw [rfx, if_neg e9, ← ex]; exact h8
    · refine OK.ite (fun e9 => hJ _ _ ⟨?_, ?_⟩) (fun e9 => k_gR h6 (by decide) (k_sI h6 (by decide) (by decide) (by show 0 ≤ (rf4 A fc (A 10 fc) (A 3 (pcs A fc k))).2; clear p; lia) (by show (rf4 A fc (A 10 fc) (A 3 (pcs A fc k))).2 < (32 : Int32); clear p; lia) (fun w7 h7 => hJ _ _ ⟨?_, ?_⟩)))
      · unfold rfx; rw [if_pos e9]; rfl
      · unfold rfx; rw [if_pos e9]; exact h6
      · unfold rfx; rw [if_neg e9]; rfl
      · unfold rfx; rw [if_neg e9]; exact h7
  · refine OK.ite (fun e => hJ _ (by unfold ltr; rw [if_pos e])) (fun e => k_gR h4 (by decide) (k_aI h4 (by decide) (by decide) f0 (show fc < mln 10 from f8) ?_))
    rw [w10, u10]
    refine OK.ite (fun e2 => hJ _ (by unfold ltr; rw [if_neg e, if_pos e2])) (fun e2 => k_gR h4 (by decide) (k_aI h4 (by decide) (by decide) f0 (show fc < mln 10 from f8) ?_))
    rw [w10, u10]
    exact OK.ite (fun e3 => hJ _ (by unfold ltr; rw [if_neg e, if_neg e2, if_pos e3])) (fun e3 => hJ _ (by unfold ltr; rw [if_neg e, if_neg e2, if_neg e3]))
theorem st_number {a b c : Int32} (h : LL B g w sz) : OK (f_Law_number w sz (some B) a b c (some (B + 28))) (fun q => OK ((xo q.2.1 (some (B + 11)) 5).bind fun b_9 => f_Mod_number q.2.1 b_9 a b c) (fun q2 => LL B g q2.2 q.2.2 ∧ CM B q.1 q2.2 q2.1.toInt64)) := by
  obtain ⟨T, K, V, R, I, O, N, a5, a6, a7, s, A, hX⟩ := h.get
  obtain ⟨h1, h2, h3, h4, h5, h6, hM, hI, hO, hS⟩ := id hX
  unfold f_Law_number
  refine c_xo h1 h2.1.1.1 (by decide) (OK.call (u_number h1 h2 h3 h4 hI hS) (fun q hq => ?_))
  rcases hq with ⟨c1, rfl⟩ | ⟨c1, c2, rfl⟩ | ⟨c1, c2, m1, e2, e1⟩
  · refine sw_r (OK.ifP rfl (OK.ret (k_xo hM <| (u_mnumber hM hI).mono (fun q2 hq2 => ?_))))
    rcases hq2 with ⟨d1, e⟩ | ⟨d1, -⟩ | ⟨d1, -⟩
    · exact hX.no e (by first | exact ne1 | exact ne2 | exact ne3)
    · exact absurd d1 c1
    · exact absurd d1 c1
  · refine sw_r (OK.ifN (by decide) (OK.ifP rfl (OK.ret (k_xo hM <| (u_mnumber hM hI).mono (fun q2 hq2 => ?_)))))
    rcases hq2 with ⟨d1, e⟩ | ⟨d1, d2, e⟩ | ⟨d1, d2, -⟩
    · exact absurd c1 d1
    · exact hX.no e (by first | exact ne1 | exact ne2 | exact ne3)
    · exact absurd d2 c2
  · rw [e1, e2]
    refine sw_l ((CX.of m1 hO).put (fun w2 hx hf => OK.ret (k_xo (hx.mod hM) <| (u_mnumber (hx.mod hM) hI).mono (fun q2 hq2 => ?_))))
    rcases hq2 with ⟨d1, e⟩ | ⟨d1, d2, e⟩ | ⟨d1, d2, ev, e⟩
    · exact absurd c1 d1
    · exact absurd c2 d2
    · have ea : ∀ j, j ≠ 21 → (rfA A a (A 10 a) (A 3 (pcs A a b)) (mmir A a b) (mtur A a b)).1 j = A j := fun j hj => rfA_n hj
      exact ⟨LL.fin hx h2 (h3.le (by show sz ≤ sz + 2; omega)) (by show B + 29 ≤ sz + 2; omega) h5 h6 e (MI_congr hI rfl rfl rfl (ea 2 (by decide)) (ea 3 (by decide)) (ea 4 (by decide)) (ea 5 (by decide)) (ea 10 (by decide)) (ea 11 (by decide)) (ea 12 (by decide)) (ea 14 (by decide))) (hS.ref rfl rfl rfl (fun k hk => ea k (by omega))), CM.yes e rfl (by rw [ev]; exact hf)⟩
end VL4
