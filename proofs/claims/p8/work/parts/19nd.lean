/-! the class: a face made -/
def cmir (kd k : Int32) : Int32 := if k - k / 2 * 2 = 1 then (if kd = 0 then 1 else if kd = 3 then 1 else 0) else 0
def ctur (kd k : Int32) : Int32 := if kd = 3 then (if k < 2 then 0 else 1) else if k - k / 2 * 2 = 1 then (if kd = 2 then 1 else 0) else 0
theorem cmir_b (kd k : Int32) : cmir kd k = 0 ∨ cmir kd k = 1 := by grind [cmir]
theorem ctur_b (kd k : Int32) : ctur kd k = 0 ∨ ctur kd k = 1 := by grind [ctur]
def pv0 (m t : Int32) : Nat → Int32 := up (up (up (up (fun _ => 0) 3 0) 4 0) 1 m) 2 t
section CPd
variable {B : Nat} {w0 : Mp} {T K : Nat → Nat} {V : Nat → Nat → Int32} {R : Nat → Nat → Option Nat} {I : Nat → Int32 → Int32} {O : Nat → Int32 → Option Nat} {N : Nat → Int32} {w : Mp} {sz : Nat} {β : Type} {P : β → Prop}
theorem n_pinit {F : Unit × Mp → Option β} {z l : Nat} {m t : Int32} (h : CW B w0 T (va_up V z (fun _ => 0)) (va_up R z (fun _ => none)) I O N w) (tz : T z = 2) (hm : m = 0 ∨ m = 1) (ht : t = 0 ∨ t = 1) (hp : ∀ w', CW B w0 T (va_up V z (pv0 m t)) (va_up R z (upr (fun _ => none) 0 (some l))) I O N w' → OK (F ((), w')) P) : OK ((f_Piece_init w z (some l) m t).bind F) P := by
  unfold f_Piece_init
  exact OK.bind (c_pIz h tz (by decide) (fun w1 h1 => c_pIz h1 tz (by decide) (fun w2 h2 => c_pRz h2 tz (by decide) (fun w3 h3 => OK.ifP hm (c_pIz h3 tz (by decide) (fun w4 h4 => OK.ifP ht (c_pIz h4 tz (by decide) (fun w5 h5 => OK.ret (hp w5 h5)))))))))
/-- the pieces that have been made -/
def PM (T T' : Nat → Nat) (V' : Nat → Nat → Int32) (R' : Nat → Nat → Option Nat) (O' : Nat → Int32 → Option Nat) (c : Int32 → Option Nat) (kd : Int32) (sz m : Nat) : Prop := ∀ j, j < m → O' (sz + 1) (Int32.ofNat j) = some (sz + 2 + j) ∧ T' (sz + 2 + j) = 2 ∧ (∃ l, R' (sz + 2 + j) 0 = some l ∧ T l = 1 ∧ c (Int32.ofNat j) = some l) ∧ V' (sz + 2 + j) 1 = cmir kd (Int32.ofNat j) ∧ V' (sz + 2 + j) 2 = ctur kd (Int32.ofNat j) ∧ V' (sz + 2 + j) 3 = 0 ∧ V' (sz + 2 + j) 4 = 0
theorem n_finit_L {kd n : Int32} {c : Int32 → Option Nat} (hz : B + 29 ≤ sz) (n8 : n ≤ 8) (hN : N (B + 10) = 32) (hNs : N (sz + 1) = n) (hT10 : T (B + 10) = tr 1) (hc : O (B + 10) = c) (hl : ∀ j, 0 ≤ j → j < n → ∃ b, c j = some b ∧ T b = 1) (hs : T sz = 3) (hs1 : T (sz + 1) = tr 3) (hr : R sz 1 = some (sz + 1)) (lt : ∀ b, T b = 1 → b < sz) : ∀ (m : Nat) (k : Int32) (T' : Nat → Nat) (V' : Nat → Nat → Int32) (R' : Nat → Nat → Option Nat) (O' : Nat → Int32 → Option Nat) (w : Mp), CW B w0 T' V' R' I O' N w → 0 ≤ k → k ≤ n → (n - k).toInt < m → (∀ a, a < sz + 2 → T' a = T a ∧ V' a = V a ∧ R' a = R a) → (∀ a, a ≠ sz + 1 → O' a = O a) → FR T' (sz + 2 + k.toNatClampNeg) → PM T T' V' R' O' c kd sz k.toNatClampNeg → OK (f_Face_init_L20 sz kd (some (B + 10)) n m k w (sz + 2 + k.toNatClampNeg)) (fun q => ∃ T' V' R' O', CW B w0 T' V' R' I O' N q.2.2.1 ∧ (∀ a, a < sz + 2 → T' a = T a ∧ V' a = V a ∧ R' a = R a) ∧ (∀ a, a ≠ sz + 1 → O' a = O a) ∧ FR T' (sz + 2 + n.toNatClampNeg) ∧ PM T T' V' R' O' c kd sz n.toNatClampNeg ∧ q.2.2.2 = sz + 2 + n.toNatClampNeg) := by
  intro m
  induction m with
  | zero => intro k T' V' R' O' w _ b0 b1 hn; exact (fu_zero b0 b1 hn).elim
  | succ m ih =>
    intro k T' V' R' O' w h b0 b1 hn e1 e2 hf hp
    rw [f_Face_init_L20]
    refine OK.ite (fun d => ?_) (fun d => ?_)
    · have e : k = n := by clear ih hn hl e1 e2 hp lt hf; lia
      rw [e] at hf hp
      exact OK.ret ⟨T', V', R', O', h, e1, e2, hf, hp, by rw [e]⟩
    · have y : k < n := by clear ih hn hl e1 e2 hp lt hf; lia
      have fs := fu_step b0 y hn
      have k32 : k < 32 := by clear ih hn hl e1 e2 hp lt hf fs; lia
      have nx : 0 ≤ k + 1 ∧ k + 1 ≤ n := by clear ih hn hl e1 e2 hp lt hf fs; constructor <;> lia
      have ks := cl_succ b0 (by clear ih hn hl e1 e2 hp lt hf fs; lia)
      obtain ⟨l, el, tl⟩ := hl k b0 y
      have go : ∀ x6 x8, x6 = cmir kd k → x8 = ctur kd k → OK ((gR w (some sz) 3 1).bind fun v_10 => (xnO w (sz + 2 + k.toNatClampNeg) 2 [.null, .int 0, .int 0, .int 0, .int 0]).bind fun w_11 => (aR w_11 (some (B + 10)) 1 k).bind fun v_12 => (xo w_11 (some (sz + 2 + k.toNatClampNeg)) 2).bind fun b_14 => (f_Piece_init w_11 b_14 v_12 x6 x8).bind fun q_13 => (sR q_13.2 v_10 3 2 k (some (sz + 2 + k.toNatClampNeg))).bind fun w_15 => f_Face_init_L20 sz kd (some (B + 10)) n m (k + 1) w_15 (sz + 2 + k.toNatClampNeg + 1)) (fun q => ∃ T' V' R' O', CW B w0 T' V' R' I O' N q.2.2.1 ∧ (∀ a, a < sz + 2 → T' a = T a ∧ V' a = V a ∧ R' a = R a) ∧ (∀ a, a ≠ sz + 1 → O' a = O a) ∧ FR T' (sz + 2 + n.toNatClampNeg) ∧ PM T T' V' R' O' c kd sz n.toNatClampNeg ∧ q.2.2.2 = sz + 2 + n.toNatClampNeg) := fun x6 x8 h6 h8 => by
        generalize hz2 : sz + 2 + k.toNatClampNeg = z
        have zz : sz + 2 ≤ z := by omega
        have tz := hf z (by omega)
        have g1 := e1 sz (by omega)
        have g2 := e1 (sz + 1) (by omega)
        have g3 := e1 (B + 10) (by omega)
        refine c_gRs h (by rw [g1.1]; exact hs) (by rw [g1.2.2]; exact hr) (by decide) ?_
        refine c_xnO (v := fun _ => 0) (r := fun _ => none) h tz (by omega) (by decide) rfl (fun w1 h1 => ?_)
        refine c_aRs h1 (by rw [vup_n (by omega), g3.1]; exact hT10) (by decide) b0 (by rw [hN]; exact k32) (by rw [e2 _ (by omega), hc]; exact el) ?_
        refine c_xo h1 vup_s (by decide) (n_pinit h1 vup_s (by rw [h6]; exact cmir_b kd k) (by rw [h8]; exact ctur_b kd k) (fun w2 h2 => ?_))
        refine c_sR h2 (by rw [vup_n (by omega), g2.1]; exact hs1) (by decide) b0 (by rw [hNs]; exact y) (fun b hb => by cases hb; exact vup_s) (fun w3 h3 => ?_)
        have zk : z + 1 = sz + 2 + (k + 1).toNatClampNeg := by omega
        rw [zk]
        refine ih (k + 1) _ _ _ _ w3 h3 nx.1 nx.2 fs (fun a ha => ?_) (fun a ha => ?_) (fun a ha => ?_) (fun j hj => ?_)
        · rw [vup_n (show a ≠ z by omega), vup_n (show a ≠ z by omega), vup_n (show a ≠ z by omega)]
          exact e1 a ha
        · rw [vup_n ha]
          exact e2 a ha
        · rw [vup_n (show a ≠ z by omega)]
          exact hf a (by omega)
        · rw [vup_s]
          by_cases ej : j = k.toNatClampNeg
          · have ek : Int32.ofNat j = k := by rw [ej]; exact of_cl b0
            have ez : sz + 2 + j = z := by omega
            rw [ez, ek, if_pos rfl, vup_s, vup_s, vup_s]
            exact ⟨rfl, rfl, ⟨l, rfl, tl, el⟩, by rw [← h6]; rfl, by rw [← h8]; rfl, rfl, rfl⟩
          · have hj' : j < k.toNatClampNeg := by omega
            have nk : Int32.ofNat j ≠ k := fun z => ej (by
              have o := of_lt b0 hj'
              have := cl_ofNat (n := j) (by have := cl_int b0; have := Int32.toInt_lt k; omega)
              rw [z] at this
              omega)
            have nz : sz + 2 + j ≠ z := by omega
            obtain ⟨q1, q2, q3, q4, q5⟩ := hp j hj'
            rw [if_neg nk, vup_n nz, vup_n nz, vup_n nz]
            exact ⟨q1, q2, q3, q4, q5⟩
      have J9 : ∀ x4, x4 = (if k - k / 2 * 2 = 1 then (1 : Int32) else 0) → ∀ x6, x6 = cmir kd k → OK (xJ1 (fun (x_8 : Int32) => (gR w (some sz) 3 1).bind fun v_10 => (xnO w (sz + 2 + k.toNatClampNeg) 2 [.null, .int 0, .int 0, .int 0, .int 0]).bind fun w_11 => (aR w_11 (some (B + 10)) 1 k).bind fun v_12 => (xo w_11 (some (sz + 2 + k.toNatClampNeg)) 2).bind fun b_14 => (f_Piece_init w_11 b_14 v_12 x6 x_8).bind fun q_13 => (sR q_13.2 v_10 3 2 k (some (sz + 2 + k.toNatClampNeg))).bind fun w_15 => f_Face_init_L20 sz kd (some (B + 10)) n m (k + 1) w_15 (sz + 2 + k.toNatClampNeg + 1)) fun J_9 => if kd = (3 : Int32) then (if k < (2 : Int32) then (J_9 (0 : Int32)) else (J_9 (1 : Int32))) else (if x4 = 0 then (J_9 (0 : Int32)) else (if kd = (2 : Int32) then (J_9 (1 : Int32)) else (J_9 (0 : Int32))))) (fun q => ∃ T' V' R' O', CW B w0 T' V' R' I O' N q.2.2.1 ∧ (∀ a, a < sz + 2 → T' a = T a ∧ V' a = V a ∧ R' a = R a) ∧ (∀ a, a ≠ sz + 1 → O' a = O a) ∧ FR T' (sz + 2 + n.toNatClampNeg) ∧ PM T T' V' R' O' c kd sz n.toNatClampNeg ∧ q.2.2.2 = sz + 2 + n.toNatClampNeg) := fun x4 h4 x6 h6 => by
        refine OK.J1 ?_
        refine OK.ite (fun d1 => OK.ite (fun d2 => go _ _ h6 ?_) (fun d2 => go _ _ h6 ?_)) (fun d1 => OK.ite (fun d2 => go _ _ h6 ?_) (fun d2 => OK.ite (fun d3 => go _ _ h6 ?_) (fun d3 => go _ _ h6 ?_)))
        · unfold ctur; rw [if_pos d1, if_pos d2]
        · unfold ctur; rw [if_pos d1, if_neg d2]
        · unfold ctur
          rw [if_neg d1, if_neg (fun z => by rw [h4, if_pos z] at d2; exact absurd d2 (by decide))]
        · unfold ctur
          rw [if_neg d1]
          by_cases z : k - k / 2 * 2 = 1
          · rw [if_pos z, if_pos d3]
          · rw [h4, if_neg z] at d2; exact absurd rfl d2
        · unfold ctur
          rw [if_neg d1]
          by_cases z : k - k / 2 * 2 = 1
          · rw [if_pos z, if_neg d3]
          · rw [h4, if_neg z] at d2; exact absurd rfl d2
      refine OK.J1 ?_
      refine OK.ite (fun o => OK.J1 ?_) (fun o => OK.J1 ?_)
      · refine OK.ifN (by decide) (OK.ite (fun d1 => J9 1 (by rw [if_pos o]) _ ?_) (fun d1 => OK.ite (fun d2 => J9 1 (by rw [if_pos o]) _ ?_) (fun d2 => J9 1 (by rw [if_pos o]) _ ?_)))
        · unfold cmir; rw [if_pos o, if_pos d1]
        · unfold cmir; rw [if_pos o, if_neg d1, if_pos d2]
        · unfold cmir; rw [if_pos o, if_neg d1, if_neg d2]
      · refine OK.ifP rfl (J9 0 (by rw [if_neg o]) _ ?_)
        unfold cmir; rw [if_neg o]
end CPd
