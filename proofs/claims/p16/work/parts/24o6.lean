/-! the law's loop -/
def NumOK (B : Nat) : Prop := ∀ (g : Nat) (w : Mp) (sz : Nat) (n a b c : Int32), LC B g w sz n → OK (f_LM_number w sz B a b c) (CR B g w n [2, 1])
section OL6
variable {B : Nat} {w w' : Mp} {sz g : Nat} {n m : Int32} {β : Type} {P : β → Prop}
theorem o_xsc {F : Int32 → Option β} {L : Nat} {xs : Nat → Int32} {i : Int32} (h0 : 0 ≤ i) (h1 : i < Int32.ofNat L) (hL : L < 2147483648) (hp : ∀ x, x = xs i.toNatClampNeg → OK (F x) P) : OK ((xsc L xs i).bind F) P := by
  have z := cl_in h0 h1
  rw [cl_ofNat hL] at z
  refine OK.eq ?_ (hp _ rfl)
  unfold xsc
  rw [if_neg z]
theorem o_aJ {F : Int64 → Option β} {f : Nat → Int64} (h : w (B + 28) = some (.inr (5, 1, .inr (.inl f)))) (hp : OK (F (f 0)) P) : OK ((aJ w (some (B + 28)) 5 (0 : Int32)).bind F) P := by
  refine OK.eq ?_ hp
  simp only [aJ, h]
  rfl
theorem ar_L {x l : Int32} (x0 : 0 ≤ x) (l1 : l ≤ 2560) (h : ¬ l - 5 < x) (l0 : 0 ≤ l) : (x < l ∧ 0 ≤ x + 1 ∧ x + 1 < l) ∧ (0 ≤ x + 2 ∧ x + 2 < l) ∧ (0 ≤ x + 3 ∧ x + 3 < l) ∧ (0 ≤ x + 4 ∧ x + 4 < l) ∧ (0 ≤ x + 5 ∧ x + 5 ≤ l) := by
  refine ⟨⟨by lia, by lia, by lia⟩, ⟨by lia, by lia⟩, ⟨by lia, by lia⟩, ⟨by lia, by lia⟩, by lia, by lia⟩
theorem fu_five {x l : Int32} {n : Nat} (x0 : 0 ≤ x) (x5 : x + 5 ≤ l) (y : 0 ≤ x + 5) (l1 : l ≤ 2560) (h : (l - x).toInt < 5 * ((n + 1 : Nat) : Int)) : (l - (x + 5)).toInt < 5 * (n : Int) := by
  have hx : x < 2561 := by lia
  rw [Int32.le_iff_toInt_le] at x5 y l1 x0
  rw [Int32.lt_iff_toInt_lt, show (2561 : Int32).toInt = 2561 by decide] at hx
  rw [show (0 : Int32).toInt = 0 by decide] at x0 y
  rw [show (2560 : Int32).toInt = 2560 by decide] at l1
  have e5 : (x + 5).toInt = x.toInt + 5 := by rw [Int32.toInt_add, show (5 : Int32).toInt = 5 by decide, Int.bmod_eq_of_le (by omega) (by omega)]
  rw [e5] at x5 y
  rw [Int32.toInt_sub, Int.bmod_eq_of_le (by omega) (by omega)] at h
  rw [Int32.toInt_sub, e5, Int.bmod_eq_of_le (by omega) (by omega)]
  omega
theorem lg_self (x : Int64) : lg_cmp x x = 0 := by simp [lg_cmp]
set_option maxHeartbeats 4000000 in
theorem law_loop {L b : Nat} {xs : Nat → Int32} (hL : L ≤ 2560) (hN : NumOK B) : ∀ (k : Nat) (x : Int32) (w : Mp) (sz g : Nat) (n : Int32), LSt B g w sz n n → 0 ≤ x → x ≤ Int32.ofNat L → (Int32.ofNat L - x).toInt < 5 * (k : Int) → OK (f_Law_law_L23 L xs b (some B) (some (B + 11)) (some (B + 28)) k x w sz g) (fun q => q.1 = 0) := by
  have L31 : L < 2147483648 := by omega
  have lb : 0 ≤ Int32.ofNat L ∧ Int32.ofNat L ≤ 2560 := by
    have := Int32.toInt_ofNat_of_lt (n := L) (by omega)
    rw [Int32.le_iff_toInt_le, Int32.le_iff_toInt_le, this, show (0 : Int32).toInt = 0 by decide, show (2560 : Int32).toInt = 2560 by decide]
    omega
  intro k
  induction k with
  | zero =>
    intro x w sz g n _ x0 x1 hn
    exfalso
    exact fu_zero x0 x1 (by simpa using hn)
  | succ k ih =>
    intro x w sz g n h x0 x1 hn
    rw [f_Law_law_L23]
    refine OK.ite (fun _ => OK.ret rfl) (fun c => ?_)
    obtain ⟨⟨y0, y1a, y1b⟩, ⟨y2a, y2b⟩, ⟨y3a, y3b⟩, ⟨y4a, y4b⟩, y5a, y5b⟩ := ar_L x0 lb.2 c lb.1
    have fs := fu_five x0 y5b y5a lb.2 hn
    have R : ∀ w' sz' g' n', LSt B g' w' sz' n' n' → OK (f_Law_law_L23 L xs b (some B) (some (B + 11)) (some (B + 28)) k (x + 5) w' sz' g') (fun q => q.1 = 0) := fun w' sz' g' n' h' => ih _ w' sz' g' n' h' y5a y5b fs
    have X1 : ∀ {F : Int32 → Option (Nat × Int32 × Mp × Nat)} {P : Nat × Int32 × Mp × Nat → Prop}, OK (F (xs (x + 1).toNatClampNeg)) P → OK ((xsc L xs (x + 1)).bind F) P := fun hp => o_xsc y1a y1b L31 (fun v e => by rw [e]; exact hp)
    have X2 : ∀ {F : Int32 → Option (Nat × Int32 × Mp × Nat)} {P : Nat × Int32 × Mp × Nat → Prop}, OK (F (xs (x + 2).toNatClampNeg)) P → OK ((xsc L xs (x + 2)).bind F) P := fun hp => o_xsc y2a y2b L31 (fun v e => by rw [e]; exact hp)
    have X3 : ∀ {F : Int32 → Option (Nat × Int32 × Mp × Nat)} {P : Nat × Int32 × Mp × Nat → Prop}, OK (F (xs (x + 3).toNatClampNeg)) P → OK ((xsc L xs (x + 3)).bind F) P := fun hp => o_xsc y3a y3b L31 (fun v e => by rw [e]; exact hp)
    have X4 : ∀ {F : Int32 → Option (Nat × Int32 × Mp × Nat)} {P : Nat × Int32 × Mp × Nat → Prop}, OK (F (xs (x + 4).toNatClampNeg)) P → OK ((xsc L xs (x + 4)).bind F) P := fun hp => o_xsc y4a y4b L31 (fun v e => by rw [e]; exact hp)
    refine o_xsc x0 y0 L31 (fun v _ => ?_)
    refine OK.ite (fun _ => ?_) (fun _ => ?_)
    · exact X1 (X2 (X3 (X4 (OK.call (h_leaf h) (fun q h1 => X1 (X2 (X3 (X4 (o_xom h1.2.1 (OK.call (o_mleaf h1.2.1) (fun q2 hq2 => R _ _ _ _ (h1.mdl hq2.1 hq2.2))))))))))))
    refine OK.ite (fun _ => ?_) (fun _ => ?_)
    · exact X1 (X2 (X3 (X4 (OK.call (h_pixel h) (fun q h1 => X1 (X2 (X3 (X4 (o_xom h1.2.1 (OK.call (o_mpixel h1.2.1) (fun q2 hq2 => R _ _ _ _ (h1.mdl hq2.1 hq2.2))))))))))))
    refine OK.ite (fun _ => ?_) (fun _ => ?_)
    · exact X1 (X2 (OK.call (h_reserve h) (fun q h1 => X1 (X2 (o_xom h1.2.1 (OK.call (o_mreserve h1.2.1) (fun q2 hq2 => R _ _ _ _ (h1.mdl hq2.1 hq2.2))))))))
    refine OK.ite (fun _ => ?_) (fun _ => ?_)
    · exact X1 (X2 (OK.call (h_match h) (fun q h1 => X1 (X2 (o_xom h1.2.1 (OK.call (o_mmatch h1.2.1) (fun q2 hq2 => R _ _ _ _ (h1.mdl hq2.1 hq2.2))))))))
    refine OK.ite (fun _ => ?_) (fun _ => ?_)
    · exact X1 (OK.call (h_apart h) (fun q h1 => X1 (o_xom h1.2.1 (OK.call (o_mapart h1.2.1) (fun q2 hq2 => R _ _ _ _ (h1.mdl hq2.1 hq2.2))))))
    refine OK.ite (fun _ => ?_) (fun _ => ?_)
    · exact X1 (X2 (X3 (OK.call (h_place h) (fun q h1 => X1 (X2 (X3 (o_xom h1.2.1 (OK.call (o_mplace h1.2.1) (fun q2 hq2 => R _ _ _ _ (h1.mdl hq2.1 hq2.2))))))))))
    refine OK.ite (fun _ => ?_) (fun _ => ?_)
    · exact X1 (X2 (X3 (OK.call (h_at h) (fun q h1 => X1 (X2 (X3 (o_xom h1.2.1 (OK.call (o_mat h1.2.1) (fun q2 hq2 => R _ _ _ _ (h1.mdl hq2.1 hq2.2))))))))))
    refine OK.ite (fun _ => ?_) (fun _ => ?_)
    · exact X1 (X2 (OK.call (h_about h) (fun q h1 => X1 (X2 (o_xom h1.2.1 (OK.call (o_mabout h1.2.1) (fun q2 hq2 => R _ _ _ _ (h1.mdl hq2.1 hq2.2))))))))
    refine OK.ite (fun _ => ?_) (fun _ => ?_)
    · exact X1 (X2 (OK.call (h_seam h) (fun q h1 => X1 (X2 (o_xom h1.2.1 (OK.call (o_mseam h1.2.1) (fun q2 hq2 => R _ _ _ _ (h1.mdl hq2.1 hq2.2))))))))
    refine OK.ite (fun _ => ?_) (fun _ => ?_)
    · exact X1 (X2 (X3 (OK.call (h_sum h) (fun q h1 => X1 (X2 (X3 (o_xom h1.2.1 (OK.call (o_msum h1.2.1) (fun q2 hq2 => R _ _ _ _ (h1.mdl hq2.1 hq2.2))))))))))
    refine OK.ite (fun _ => ?_) (fun _ => ?_)
    · exact X1 (X2 (OK.call (h_mirrored h) (fun q h1 => X1 (X2 (o_xom h1.2.1 (OK.call (o_mmirrored h1.2.1) (fun q2 hq2 => R _ _ _ _ (h1.mdl hq2.1 hq2.2))))))))
    refine OK.ite (fun _ => ?_) (fun _ => ?_)
    · exact X1 (OK.call (h_balance h) (fun q h1 => X1 (o_xom h1.2.1 (OK.call (o_mbalance h1.2.1) (fun q2 hq2 => R _ _ _ _ (h1.mdl hq2.1 hq2.2))))))
    refine OK.ite (fun _ => ?_) (fun _ => ?_)
    · exact X1 (X2 (X3 (OK.call (h_number h (hN _ _ _ _ _ _ _ h.1)) (fun q h1 => X1 (X2 (X3 (o_xom h1.2.1 (OK.call (o_mnumber h1.2.1) (fun q2 hq2 => R _ _ _ _ (h1.mdl hq2.1 hq2.2))))))))))
    refine OK.ite (fun _ => ?_) (fun _ => ?_)
    · refine X1 (OK.call (h_want h) (fun q hq => X1 ?_))
      have nb := (o_want (x := 0) h.1).1
      rcases hq with ⟨c1, e, h1⟩ | ⟨c1, c2, e, h1⟩ | ⟨c1, c2, c3, e, h1, -⟩
      · refine o_xom h1.2.1 (OK.call (o_mwant h1.2.1).2 (fun q2 ⟨hs, hq2⟩ => ?_))
        rcases hq2 with ⟨d1, d2, d3⟩ | ⟨d1, -⟩ | ⟨d1, -⟩
        · exact R _ _ _ _ (h1.mdl (q := q2) d2 hs)
        · exact absurd d1 (by lia)
        · exact absurd d1 (by lia)
      · refine o_xom h1.2.1 (OK.call (o_mwant h1.2.1).2 (fun q2 ⟨hs, hq2⟩ => ?_))
        rcases hq2 with ⟨d1, -⟩ | ⟨d1, -, d2, d3⟩ | ⟨d1, d4, d5, -⟩
        · exact absurd d1 (by lia)
        · exact R _ _ _ _ (h1.mdl (q := q2) d2 hs)
        · exact absurd ⟨d4, d5⟩ c2
      · refine o_xom h1.2.1 (OK.call (o_mwant h1.2.1).2 (fun q2 ⟨hs, hq2⟩ => ?_))
        rcases hq2 with ⟨d1, -⟩ | ⟨d1, d4, -⟩ | ⟨d1, -, -, ev, d2, d3⟩
        · exact absurd d1 (by lia)
        · exact absurd ⟨c2, c3⟩ d4
        · exact R _ _ _ _ (h1.mdl (q := q2) d2 hs)
    refine OK.ite (fun _ => ?_) (fun _ => ?_)
    · refine o_xo h.1 (OK.call (o_clear h.1) (fun q ⟨hs, e, hl⟩ => ?_))
      have h1 : LSt B g q.2 sz 0 n := ⟨hl, h.2.1.same hs, h.2.2.same hs⟩
      exact o_xom h1.2.1 (OK.call (o_mclear h1.2.1) (fun q2 ⟨a1, a2, e2⟩ => OK.ifP (by rw [e, e2]) (R _ _ _ _ (h1.mdl (q := q2) a1 a2))))
    refine OK.ite (fun _ => ?_) (fun _ => ?_)
    · refine X1 (OK.ifN (fun z => absurd (o_faces h.1).1 (Nat.not_le_of_gt z)) (OK.call (h_faces h) (fun q h1 => X1 (o_xom h1.2.1 (OK.call (o_mfaces h1.2.1) (fun q2 hq2 => R _ _ _ _ (h1.mdl hq2.1 hq2.2)))))))
    refine OK.ite (fun _ => ?_) (fun _ => ?_)
    · exact X1 (X2 (OK.call (h_planned h) (fun q h1 => X1 (X2 (o_xom h1.2.1 (OK.call (o_mplanned h1.2.1) (fun q2 hq2 => R _ _ _ _ (h1.mdl hq2.1 hq2.2))))))))
    exact R _ _ _ _ h
end OL6
