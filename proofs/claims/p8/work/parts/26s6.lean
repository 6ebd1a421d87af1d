/-! the law's loop, class and reference together -/
section SM6
variable {B : Nat} {w w' : Mp} {sz g : Nat} {n m : Int32} {β : Type} {P : β → Prop}
theorem OK.b2 {α γ : Type} {x : Option α} {G : α → Option γ} {F : γ → Option β} {Q : γ → Prop} (h : OK (x.bind G) Q) (hq : ∀ a, Q a → OK (F a) P) : OK (x.bind fun b => (G b).bind F) P := by
  obtain ⟨c, e, hc⟩ := h
  obtain ⟨a, rfl, e2⟩ := Option.bind_eq_some_iff.mp e
  exact OK.eq rfl (OK.eq e2 (hq c hc))
theorem LL.xo0 {F : Nat → Option β} (h : LL B g w sz) (hp : OK (F B) P) : OK ((xo w (some B) 0).bind F) P := by
  obtain ⟨T, K, V, R, I, O, N, a5, a6, a7, s, A, h1, h2, -⟩ := h
  exact c_xo h1 h2.1.1.1 (by decide) hp
theorem LL.xo5 {F : Nat → Option β} (h : LL B g w sz) (hp : OK (F (B + 11)) P) : OK ((xo w (some (B + 11)) 5).bind F) P := by
  obtain ⟨T, K, V, R, I, O, N, a5, a6, a7, s, A, -, -, -, -, -, -, hM, -⟩ := h
  exact k_xo hM hp
theorem o_xsc {F : Int32 → Option β} {L : Nat} {xs : Nat → Int32} {i : Int32} (h0 : 0 ≤ i) (h1 : i < Int32.ofNat L) (hL : L < 2147483648) (hp : ∀ x, x = xs i.toNatClampNeg → OK (F x) P) : OK ((xsc L xs i).bind F) P := by
  have z := cl_in h0 h1
  rw [cl_ofNat hL] at z
  refine OK.eq ?_ (hp _ rfl)
  unfold xsc
  rw [if_neg z]
theorem o_aJ {F : Int64 → Option β} {f : Nat → Int64} (h : w (B + 28) = some (.inr (5, 1, .inr (.inl f)))) (hp : OK (F (f 0)) P) : OK ((aJ w (some (B + 28)) 5 (0 : Int32)).bind F) P := by
  refine OK.eq ?_ hp
  simp only [aJ, h]
  rfl
theorem ar_L {x l : Int32} (x0 : 0 ≤ x) (l1 : l ≤ 2560) (h : ¬ l - 5 < x) (l0 : 0 ≤ l) : (x < l ∧ 0 ≤ x + 1 ∧ x + 1 < l) ∧ (0 ≤ x + 2 ∧ x + 2 < l) ∧ (0 ≤ x + 3 ∧ x + 3 < l) ∧ (0 ≤ x + 4 ∧ x + 4 < l) ∧ (0 ≤ x + 5 ∧ x + 5 ≤ l) := by
  refine ⟨⟨by lia, by lia, by lia⟩, ⟨by lia, by lia⟩, ⟨by lia, by lia⟩, ⟨by lia, by lia⟩, by lia, by lia⟩
theorem fu_five {x l : Int32} {n : Nat} (x0 : 0 ≤ x) (x5 : x + 5 ≤ l) (y : 0 ≤ x + 5) (l1 : l ≤ 2560) (h : (l - x).toInt < 5 * ((n + 1 : Nat) : Int)) : (l - (x + 5)).toInt < 5 * (n : Int) := by
  have hx : x < 2561 := by lia
  rw [Int32.le_iff_toInt_le] at x5 y l1 x0
  rw [Int32.lt_iff_toInt_lt, show (2561 : Int32).toInt = 2561 by decide] at hx
  rw [show (0 : Int32).toInt = 0 by decide] at x0 y
  rw [show (2560 : Int32).toInt = 2560 by decide] at l1
  have e5 : (x + 5).toInt = x.toInt + 5 := by rw [Int32.toInt_add, show (5 : Int32).toInt = 5 by decide, Int.bmod_eq_of_le (by omega) (by omega)]
  rw [e5] at x5 y
  rw [Int32.toInt_sub, Int.bmod_eq_of_le (by omega) (by omega)] at h
  rw [Int32.toInt_sub, e5, Int.bmod_eq_of_le (by omega) (by omega)]
  omega
theorem lg_self (x : Int64) : lg_cmp x x = 0 := by simp [lg_cmp]
set_option maxHeartbeats 4000000 in
theorem law_loop {L b : Nat} {xs : Nat → Int32} (hL : L ≤ 2560) : ∀ (k : Nat) (x : Int32) (w : Mp) (sz g : Nat), LL B g w sz → 0 ≤ x → x ≤ Int32.ofNat L → (Int32.ofNat L - x).toInt < 5 * (k : Int) → OK (f_Law_law_L23 L xs b (some B) (some (B + 11)) (some (B + 28)) k x w sz g) (fun q => q.1 = 0) := by
  have L31 : L < 2147483648 := by omega
  have lb : 0 ≤ Int32.ofNat L ∧ Int32.ofNat L ≤ 2560 := by
    have := Int32.toInt_ofNat_of_lt (n := L) (by omega)
    rw [Int32.le_iff_toInt_le, Int32.le_iff_toInt_le, this, show (0 : Int32).toInt = 0 by decide, show (2560 : Int32).toInt = 2560 by decide]
    omega
  intro k
  induction k with
  | zero =>
    intro x w sz g _ x0 x1 hn
    exfalso
    exact fu_zero x0 x1 (by simpa using hn)
  | succ k ih =>
    intro x w sz g h x0 x1 hn
    rw [f_Law_law_L23]
    refine OK.ite (fun _ => OK.ret rfl) (fun c => ?_)
    obtain ⟨⟨y0, y1a, y1b⟩, ⟨y2a, y2b⟩, ⟨y3a, y3b⟩, ⟨y4a, y4b⟩, y5a, y5b⟩ := ar_L x0 lb.2 c lb.1
    have fs := fu_five x0 y5b y5a lb.2 hn
    have R : ∀ w' sz' g', LL B g' w' sz' → OK (f_Law_law_L23 L xs b (some B) (some (B + 11)) (some (B + 28)) k (x + 5) w' sz' g') (fun q => q.1 = 0) := fun w' sz' g' h' => ih _ w' sz' g' h' y5a y5b fs
    have X1 : ∀ {F : Int32 → Option (Nat × Int32 × Mp × Nat)} {P : Nat × Int32 × Mp × Nat → Prop}, OK (F (xs (x + 1).toNatClampNeg)) P → OK ((xsc L xs (x + 1)).bind F) P := fun hp => o_xsc y1a y1b L31 (fun v e => by rw [e]; exact hp)
    have X2 : ∀ {F : Int32 → Option (Nat × Int32 × Mp × Nat)} {P : Nat × Int32 × Mp × Nat → Prop}, OK (F (xs (x + 2).toNatClampNeg)) P → OK ((xsc L xs (x + 2)).bind F) P := fun hp => o_xsc y2a y2b L31 (fun v e => by rw [e]; exact hp)
    have X3 : ∀ {F : Int32 → Option (Nat × Int32 × Mp × Nat)} {P : Nat × Int32 × Mp × Nat → Prop}, OK (F (xs (x + 3).toNatClampNeg)) P → OK ((xsc L xs (x + 3)).bind F) P := fun hp => o_xsc y3a y3b L31 (fun v e => by rw [e]; exact hp)
    have X4 : ∀ {F : Int32 → Option (Nat × Int32 × Mp × Nat)} {P : Nat × Int32 × Mp × Nat → Prop}, OK (F (xs (x + 4).toNatClampNeg)) P → OK ((xsc L xs (x + 4)).bind F) P := fun hp => o_xsc y4a y4b L31 (fun v e => by rw [e]; exact hp)
    refine o_xsc x0 y0 L31 (fun v _ => ?_)
    refine OK.ite (fun _ => ?_) (fun _ => ?_)
    · exact X1 (X2 (X3 (X4 (OK.call (st_leaf h) (fun q hq => X1 (X2 (X3 (X4 (OK.b2 hq (fun q2 hq2 => R _ _ _ hq2.1))))))))))
    refine OK.ite (fun _ => ?_) (fun _ => ?_)
    · exact X1 (X2 (X3 (X4 (OK.call (st_pixel h) (fun q hq => X1 (X2 (X3 (X4 (OK.b2 hq (fun q2 hq2 => R _ _ _ hq2.1))))))))))
    refine OK.ite (fun _ => ?_) (fun _ => ?_)
    · exact X1 (X2 (OK.call (st_reserve h) (fun q hq => X1 (X2 (OK.b2 hq (fun q2 hq2 => R _ _ _ hq2.1))))))
    refine OK.ite (fun _ => ?_) (fun _ => ?_)
    · exact X1 (X2 (OK.call (st_match h) (fun q hq => X1 (X2 (OK.b2 hq (fun q2 hq2 => R _ _ _ hq2.1))))))
    refine OK.ite (fun _ => ?_) (fun _ => ?_)
    · exact X1 (OK.call (st_apart h) (fun q hq => X1 (OK.b2 hq (fun q2 hq2 => R _ _ _ hq2.1))))
    refine OK.ite (fun _ => ?_) (fun _ => ?_)
    · exact X1 (X2 (X3 (OK.call (st_place h) (fun q hq => X1 (X2 (X3 (OK.b2 hq (fun q2 hq2 => R _ _ _ hq2.1))))))))
    refine OK.ite (fun _ => ?_) (fun _ => ?_)
    · refine X1 (X2 (X3 (OK.call (st_at h) (fun q hq => X1 (X2 (X3 (OK.b2 hq (fun q2 hq2 => ?_))))))))
      obtain ⟨hl, hc⟩ := hq2
      refine hl.xo5 (OK.eq hc.1 (OK.ifP rfl (OK.ite (fun c0 => ?_) (fun _ => R _ _ _ hl))))
      obtain ⟨f, f1, f2⟩ := hc.2 c0
      refine o_aJ f1 ?_
      rw [f2]
      exact OK.ifP (lg_self _) (R _ _ _ hl)
    refine OK.ite (fun _ => ?_) (fun _ => ?_)
    · exact X1 (X2 (OK.call (sl_about h) (fun q hq => X1 (X2 (OK.b2 hq (fun q2 hq2 => R _ _ _ hq2))))))
    refine OK.ite (fun _ => ?_) (fun _ => ?_)
    · exact X1 (X2 (OK.call (st_seam h) (fun q hq => X1 (X2 (OK.b2 hq (fun q2 hq2 => R _ _ _ hq2.1))))))
    refine OK.ite (fun _ => ?_) (fun _ => ?_)
    · exact X1 (X2 (X3 (OK.call (st_sum h) (fun q hq => X1 (X2 (X3 (OK.b2 hq (fun q2 hq2 => R _ _ _ hq2.1))))))))
    refine OK.ite (fun _ => ?_) (fun _ => ?_)
    · exact X1 (X2 (OK.call (st_mirrored h) (fun q hq => X1 (X2 (OK.b2 hq (fun q2 hq2 => R _ _ _ hq2.1))))))
    refine OK.ite (fun _ => ?_) (fun _ => ?_)
    · exact X1 (OK.call (sl_balance h) (fun q hq => X1 (OK.b2 hq (fun q2 hq2 => R _ _ _ hq2))))
    refine OK.ite (fun _ => ?_) (fun _ => ?_)
    · exact X1 (X2 (X3 (OK.call (sl_number h) (fun q hq => X1 (X2 (X3 (OK.b2 hq (fun q2 hq2 => R _ _ _ hq2))))))))
    refine OK.ite (fun _ => ?_) (fun _ => ?_)
    · exact X1 (OK.call (st_want h) (fun q hq => X1 (OK.b2 hq (fun q2 hq2 => R _ _ _ hq2.1))))
    refine OK.ite (fun _ => ?_) (fun _ => ?_)
    · exact h.xo0 (OK.call (st_clear h) (fun q hq => OK.b2 hq (fun q2 hq2 => R _ _ _ hq2.1)))
    refine OK.ite (fun _ => ?_) (fun _ => ?_)
    · exact X1 (OK.ifN (fun z => absurd (sl_faces h).1 (Nat.not_le_of_gt z)) (OK.call (sl_faces h).2 (fun q hq => X1 (OK.b2 hq (fun q2 hq2 => R _ _ _ hq2)))))
    refine OK.ite (fun _ => ?_) (fun _ => ?_)
    · exact X1 (X2 (OK.call (sl_planned h) (fun q hq => X1 (X2 (OK.b2 hq (fun q2 hq2 => R _ _ _ hq2))))))
    exact R _ _ _ h
end SM6
