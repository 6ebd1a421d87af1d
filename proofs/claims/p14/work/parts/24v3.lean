/-! number: the same letters on both sides -/
def chr (v : Int32) : Int32 := ((v &&& (255 : Int32)).toUInt32 % 65536).toInt32
def nb (x : Int32) : Int32 := vp_nar .byte x.toInt8.toInt32
def rm (x : Int32) : Int32 := (-x) / 100 * 100 - (-x)
def fx (g : Nat → Int32) (y p : Int32) : Nat → Int32 := if y ≤ 9 then upd g (p + (-1)).toNatClampNeg (vp_nar .byte (xd1 y.toNatClampNeg)) else upd (upd g (p + (-1)).toNatClampNeg (vp_nar .byte (xd1 y.toNatClampNeg))) (p + (-1) + (-1)).toNatClampNeg (vp_nar .byte (xd2 y.toNatClampNeg))
def gcx (g : Nat → Int32) (x n : Int32) : Nat → Int32 := if x < 100 then fx g x n else fx (upd (upd g (n + (-1)).toNatClampNeg (vp_nar .byte (xd1 (rm x).toNatClampNeg))) (n + (-1) + (-1)).toNatClampNeg (vp_nar .byte (xd2 (rm x).toNatClampNeg))) (-((-x) / 100)) (n + (-1) + (-1))
section VL3
variable {B : Nat} {w0 w u : Mp} {s : Nat → Int32} {A : Nat → Int32 → Int32} {T K : Nat → Nat} {V : Nat → Nat → Int32} {R : Nat → Nat → Option Nat} {I : Nat → Int32 → Int32} {O : Nat → Int32 → Option Nat} {N : Nat → Int32} {z sz g : Nat} {c : Int32} {f : Nat → Int32} {β : Type} {P : β → Prop}
theorem t_dig1 {F : Int32 → Option β} {i : Int32} (h0 : 0 ≤ i) (h1 : i < 100) (hp : OK (F (xd1 i.toNatClampNeg)) P) : OK ((xdig 1 i).bind F) P := t_dig h0 h1 (by rw [if_pos rfl]; exact hp)
theorem t_dig2 {F : Int32 → Option β} {i : Int32} (h0 : 0 ≤ i) (h1 : i < 100) (hp : OK (F (xd2 i.toNatClampNeg)) P) : OK ((xdig 2 i).bind F) P := t_dig h0 h1 (by rw [if_neg (by decide)]; exact hp)
theorem DGs_w {k x : Int32} (h : DGs k (-x)) (x0 : 0 ≤ x) (x1 : x ≤ 1000) : k = wlen x := by
  unfold wlen
  rcases h with ⟨e, a⟩ | ⟨e, a, b⟩ | ⟨e, a, b⟩ | ⟨e, a, b⟩ | ⟨e, a, b⟩ | ⟨e, a, b⟩ | ⟨e, a, b⟩ | ⟨e, a, b⟩ | ⟨e, a, b⟩ | ⟨e, a⟩
  · rw [if_pos (by lia)]; exact e
  · rw [if_neg (by lia), if_pos (by lia)]; exact e
  · rw [if_neg (by lia), if_neg (by lia), if_pos (by lia)]; exact e
  · rw [if_neg (by lia), if_neg (by lia), if_neg (by lia)]; exact e
  · exact absurd b (by lia)
  · exact absurd b (by lia)
  · exact absurd b (by lia)
  · exact absurd b (by lia)
  · exact absurd b (by lia)
  · exact absurd a (by lia)
theorem t_sizex {F : Int32 → Option β} {x : Int32} (x0 : 0 ≤ x) (x1 : x ≤ 1000) (hp : OK (F (wlen x)) P) : OK ((f_Int_stringSize w x).bind F) P := by
  refine t_size (fun k d y hx hk => ?_)
  rcases hx with ⟨e, -, -⟩ | ⟨-, rfl, rfl⟩
  · exact absurd e (by lia)
  · rw [DGs_w hk x0 x1, Int32.add_zero]
    exact hp
theorem gx_1 {i p x6 : Int32} {m : Nat} (h : TX z c f u w) (hb : -100 < i) : OK (f_Int_getChars_L22 (some (z + 1)) x6 (m + 1) i p w) (fun q => q.2.1 = i ∧ q.2.2.1 = p ∧ TX z c f u q.2.2.2) := by
  rw [f_Int_getChars_L22]
  exact OK.ifP hb (OK.ret ⟨rfl, rfl, h⟩)
theorem gx_2 {i p x6 : Int32} {m : Nat} (h : TX z c f u w) (hi : i ≤ -100) (hb : -10000 < i) (p0 : 3 ≤ p) (p1 : p ≤ 16) : OK (f_Int_getChars_L22 (some (z + 1)) x6 (m + 2) i p w) (fun q => q.2.1 = i / 100 ∧ q.2.2.1 = p + (-1) + (-1) ∧ TX z c (upd (upd f (p + (-1)).toNatClampNeg (vp_nar .byte (xd1 (i / 100 * 100 - i).toNatClampNeg))) (p + (-1) + (-1)).toNatClampNeg (vp_nar .byte (xd2 (i / 100 * 100 - i).toNatClampNeg))) u q.2.2.2) := by
  obtain ⟨q, e, a1, a2, a3, b3, b4, -⟩ := dv100 hi
  show OK (f_Int_getChars_L22 (some (z + 1)) x6 ((m + 1) + 1) i p w) _
  rw [f_Int_getChars_L22, e]
  refine OK.ifN (by lia) (t_dig1 a2 a3 (t_sI h (by clear a2 a3 b3 b4; lia) (by clear a2 a3 b3 b4; lia) (fun w1 h1 => t_dig2 a2 a3 (t_sI h1 (by clear a2 a3 b3 b4; lia) (by clear a2 a3 b3 b4; lia) (fun w2 h2 => gx_1 h2 (b4 hb))))))
theorem t_fx {gg : Nat → Int32} {y p : Int32} {w1 : Mp} (h1 : TX z c gg u w1) (y0 : 0 ≤ y) (y1 : y < 100) (p0 : 1 ≤ p) (p1 : p ≤ 16) (p2 : 9 < y → 2 ≤ p) : OK ((xdig 1 (-(-y))).bind fun v_10 => (sI w1 (some (z + 1)) 6 (p + (-1)) (vp_nar .byte v_10)).bind fun w_11 => xJ2 (fun (x_12 : Int32) (w_13 : Mp) => if (0 : Int32) = 0 then (some (x_12, w_13)) else ((sI w_13 (some (z + 1)) 6 (x_12 + (-1)) (vp_nar .byte (45 : Int32))).bind fun w_15 => some (x_12 + (-1), w_15))) fun J_14 => if (-9 : Int32) ≤ -y then (J_14 (p + (-1)) w_11) else ((xdig 2 (-(-y))).bind fun v_16 => (sI w_11 (some (z + 1)) 6 ((p + (-1)) + (-1)) (vp_nar .byte v_16)).bind fun w_17 => J_14 ((p + (-1)) + (-1)) w_17)) (fun q => TX z c (fx gg y p) u q.2) := by
  rw [Int32.neg_neg]
  refine t_dig1 y0 y1 (t_sI h1 (by lia) (by lia) (fun w2 h2 => OK.J2 (OK.ite (fun c9 => ?_) (fun c9 => t_dig2 y0 y1 (t_sI h2 (by lia) (by lia) (fun w3 h3 => ?_))))))
  · refine OK.ifP rfl (OK.ret ?_)
    unfold fx
    rw [if_pos (by lia)]
    exact h2
  · refine OK.ifP rfl (OK.ret ?_)
    unfold fx
    rw [if_neg (by lia)]
    exact h3
theorem t_getx {F : Int32 × Mp → Option β} {x n : Int32} (h : TX z c f u w) (x0 : 0 ≤ x) (x1 : x ≤ 1000) (n0 : wlen x ≤ n) (n1 : n ≤ 16) (hp : ∀ v w', TX z c (gcx f x n) u w' → OK (F (v, w')) P) : OK ((f_Int_getChars w x n (some (z + 1))).bind F) P := by
  refine OK.call (P := fun q => TX z c (gcx f x n) u q.2) ?_ (fun q hq => by obtain ⟨q1, q2⟩ := q; exact hp _ _ hq)
  have wl : (x ≤ 9 → 1 ≤ n) ∧ (9 < x → 2 ≤ n) ∧ (99 < x → 3 ≤ n) ∧ (999 < x → 4 ≤ n) := by
    unfold wlen at n0
    refine ⟨fun q => ?_, fun q => ?_, fun q => ?_, fun q => ?_⟩ <;> grind
  unfold f_Int_getChars
  refine OK.J1 (OK.ifP x0 (OK.J1 (OK.ifP rfl ?_)))
  by_cases cx : x < 100
  · refine OK.call (gx_1 (m := 99999) h (by clear n0 wl; lia)) (fun q ⟨e1, e2, h1⟩ => ?_)
    rw [e1, e2]
    have e : gcx f x n = fx f x n := if_pos cx
    rw [e]
    exact t_fx h1 x0 cx (by clear n0; lia) n1 wl.2.1
  · have hi : -x ≤ -100 := by clear n0 wl; lia
    refine OK.call (gx_2 (m := 99998) h hi (by clear n0 wl; lia) (wl.2.2.1 (by clear n0 wl; lia)) n1) (fun q ⟨e1, e2, h1⟩ => ?_)
    obtain ⟨qq, e, a1, a2, a3, b3, b4, -⟩ := dv100 hi
    have hq : gcx f x n = fx (upd (upd f (n + (-1)).toNatClampNeg (vp_nar .byte (xd1 (rm x).toNatClampNeg))) (n + (-1) + (-1)).toNatClampNeg (vp_nar .byte (xd2 (rm x).toNatClampNeg))) (-((-x) / 100)) (n + (-1) + (-1)) := if_neg cx
    have e3 : q.2.1 = -(-((-x) / 100)) := by rw [e1, Int32.neg_neg]
    have n3 := wl.2.2.1 (by clear n0 wl a2 a3 b3 b4; lia)
    rw [e3, e2, hq]
    refine t_fx h1 ?_ ?_ (by clear n0 wl a2 a3 b3 b4; lia) (by clear n0 wl a2 a3 b3 b4; lia) (fun q9 => ?_)
    · have := b4 (by clear n0 wl a2 a3 b3; lia)
      rw [e]; clear n0 wl a2 a3 b3 b4; lia
    · have := b4 (by clear n0 wl a2 a3 b3; lia)
      rw [e]; clear n0 wl a2 a3 b3 b4; lia
    · rw [e] at q9
      have z1 := b3
      have n4 := wl.2.2.2 (by
        by_cases q8 : 999 < x
        · exact q8
        · have := b3 (by clear n0 wl a2 a3 b3 b4; lia)
          clear n0 wl a2 a3 b3 b4
          lia)
      clear n0 wl a2 a3 b3 b4 z1
      lia
theorem t_app1x {F : Option Nat × Mp → Option β} {x : Int32} (h : TX z c f u w) (c0 : 0 ≤ c) (c1 : c ≤ 5) (x0 : 0 ≤ x) (x1 : x ≤ 1000) (hp : ∀ w', TX z (c + wlen x) (gcx f x (c + wlen x)) u w' → OK (F (some z, w')) P) : OK ((f_SB_append1 w z x).bind F) P := by
  refine OK.call (P := fun q => q.1 = some z ∧ TX z (c + wlen x) (gcx f x (c + wlen x)) u q.2) ?_ (fun q hq => by obtain ⟨q1, q2⟩ := q; obtain ⟨rfl, e2⟩ := hq; exact hp _ e2)
  unfold f_SB_append1
  refine t_xo h (OK.call (P := fun q => TX z (c + wlen x) (gcx f x (c + wlen x)) u q.2) ?_ (fun q hq => OK.ret ⟨rfl, hq⟩))
  unfold f_ASB_append1
  have wb := wl (v := x)
  exact t_gc h (t_sizex x0 x1 (t_xo h (t_ens h (by lia) (by lia) (t_xo h (t_lat h (OK.ifN (by decide) (t_gv h (t_getx h x0 x1 (by lia) (by lia) (fun v w1 h1 => t_pc h1 (fun w2 h2 => OK.ret h2))))))))))
/-! the letters -/
def dchk (x : Int32) : Bool := if x ≤ 9 then chr (vp_nar .byte (xd1 x.toNatClampNeg)) == dg x 1 else if x ≤ 99 then chr (vp_nar .byte (xd1 x.toNatClampNeg)) == dg x 1 && chr (vp_nar .byte (xd2 x.toNatClampNeg)) == dg x 10
  else if x ≤ 999 then chr (vp_nar .byte (xd1 (rm x).toNatClampNeg)) == dg x 1 && (chr (vp_nar .byte (xd2 (rm x).toNatClampNeg)) == dg x 10 && (decide (-((-x) / 100) ≤ 9) && chr (vp_nar .byte (xd1 (-((-x) / 100)).toNatClampNeg)) == dg x 100))
  else chr (vp_nar .byte (xd1 (rm x).toNatClampNeg)) == dg x 1 && (chr (vp_nar .byte (xd2 (rm x).toNatClampNeg)) == dg x 10 && (decide (¬ -((-x) / 100) ≤ 9) && (chr (vp_nar .byte (xd1 (-((-x) / 100)).toNatClampNeg)) == dg x 100 && chr (vp_nar .byte (xd2 (-((-x) / 100)).toNatClampNeg)) == dg x 1000)))
set_option maxRecDepth 100000 in
theorem dchk_all : ∀ n : Nat, n < 1001 → dchk (Int32.ofNat n) = true := by decide +kernel
theorem dchk_x {x : Int32} (x0 : 0 ≤ x) (x1 : x ≤ 1000) : dchk x = true := by
  have a := cl_int x0
  rw [Int32.le_iff_toInt_le, show (1000 : Int32).toInt = 1000 by decide] at x1
  have := dchk_all x.toNatClampNeg (by omega)
  rwa [ofn_cl x0] at this
theorem upd_i {gg : Nat → Int32} {p i x : Int32} (p0 : 0 ≤ p) (i0 : 0 ≤ i) : upd gg p.toNatClampNeg x i.toNatClampNeg = if i = p then x else gg i.toNatClampNeg := by
  unfold upd
  by_cases e : i = p
  · rw [if_pos e, if_pos (by rw [e])]
  · rw [if_neg e, if_neg (fun q => e (cl_inj i0 p0 q))]
theorem u21_at {i x : Int32} : ∀ y, upA A 21 i x 21 y = if y = i then x else A 21 y := fun y => by simp [upA]
theorem wdg1 {v x : Int32} : wdig A v 5 x 1 = upA A 21 x (dg v 1) := by
  rw [wdig, if_neg (by decide), show (1 : Int32) / 10 = 0 by decide, wdig, if_pos (by decide)]
theorem wdg2 {v x : Int32} : wdig A v 5 x 10 = upA (upA A 21 x (dg v 10)) 21 (x + 1) (dg v 1) := by
  rw [wdig, if_neg (by decide), show (10 : Int32) / 10 = 1 by decide, wdig, if_neg (by decide), show (1 : Int32) / 10 = 0 by decide, wdig, if_pos (by decide)]
theorem wdg3 {v x : Int32} : wdig A v 5 x 100 = upA (upA (upA A 21 x (dg v 100)) 21 (x + 1) (dg v 10)) 21 (x + 1 + 1) (dg v 1) := by
  rw [wdig, if_neg (by decide), show (100 : Int32) / 10 = 10 by decide, wdig, if_neg (by decide), show (10 : Int32) / 10 = 1 by decide, wdig, if_neg (by decide), show (1 : Int32) / 10 = 0 by decide, wdig, if_pos (by decide)]
theorem wdg4 {v x : Int32} : wdig A v 5 x 1000 = upA (upA (upA (upA A 21 x (dg v 1000)) 21 (x + 1) (dg v 100)) 21 (x + 1 + 1) (dg v 10)) 21 (x + 1 + 1 + 1) (dg v 1) := by
  rw [wdig, if_neg (by decide), show (1000 : Int32) / 10 = 100 by decide, wdig, if_neg (by decide), show (100 : Int32) / 10 = 10 by decide, wdig, if_neg (by decide), show (10 : Int32) / 10 = 1 by decide, wdig, if_neg (by decide), show (1 : Int32) / 10 = 0 by decide, wdig, if_pos (by decide)]
def RT (c : Int32) (f : Nat → Int32) (A : Nat → Int32 → Int32) : Prop := ∀ i, 0 ≤ i → i < c → chr (f i.toNatClampNeg) = A 21 i
theorem RT_0 {x : Int32} (h : RT c f A) (c0 : 0 ≤ c) (c1 : c < 16) (hx : chr (nb x) = x) : RT (c + 1) (upd f c.toNatClampNeg (nb x)) (upA A 21 c x) := fun i i0 i1 => by
  rw [upd_i c0 i0, u21_at]
  by_cases e : i = c
  · rw [if_pos e, if_pos e, hx]
  · rw [if_neg e, if_neg e]
    exact h i i0 (by lia)
theorem RT_1 {x : Int32} (h : RT c f A) (c0 : 0 ≤ c) (c1 : c ≤ 5) (x0 : 0 ≤ x) (x1 : x ≤ 1000) : RT (c + wlen x) (gcx f x (c + wlen x)) (wdig A x 5 c (pw x)) := fun i i0 i1 => by
  have dc := dchk_x x0 x1
  unfold dchk at dc
  unfold wlen at i1 ⊢
  unfold pw gcx fx
  by_cases k1 : x ≤ 9
  · rw [if_pos k1] at i1 dc
    simp only [if_pos k1]
    rw [if_pos (by lia), wdg1, show c + 1 + (-1) = c by lia, upd_i c0 i0, u21_at]
    by_cases e : i = c
    · rw [if_pos e, if_pos e]; exact eq_of_beq dc
    · rw [if_neg e, if_neg e]; exact h i i0 (by lia)
  · rw [if_neg k1] at i1 dc
    simp only [if_neg k1]
    by_cases k2 : x ≤ 99
    · rw [if_pos k2] at i1 dc
      simp only [if_pos k2]
      rw [Bool.and_eq_true] at dc
      rw [if_pos (by lia), wdg2, show c + 2 + (-1) = c + 1 by lia, show c + 1 + (-1) = c by lia, upd_i c0 i0, upd_i (by lia) i0, u21_at, u21_at]
      by_cases e : i = c
      · rw [if_pos e, if_neg (by lia), if_pos e]; exact eq_of_beq dc.2
      · by_cases e1 : i = c + 1
        · rw [if_neg e, if_pos e1, if_pos e1]; exact eq_of_beq dc.1
        · rw [if_neg e, if_neg e1, if_neg e1, if_neg e]; exact h i i0 (by lia)
    · rw [if_neg k2] at i1 dc
      simp only [if_neg k2]
      by_cases k3 : x ≤ 999
      · rw [if_pos k3] at i1 dc
        simp only [if_pos k3]
        rw [Bool.and_eq_true, Bool.and_eq_true, Bool.and_eq_true, decide_eq_true_eq] at dc
        obtain ⟨g1, g2, g3, g4⟩ := dc
        rw [if_neg (by clear g1 g2 g3 g4; lia), if_pos g3, wdg3, show c + 3 + (-1) = c + 1 + 1 by lia, show c + 1 + 1 + (-1) = c + 1 by lia, show c + 1 + (-1) = c by lia, upd_i c0 i0, upd_i (by lia) i0, upd_i (by lia) i0, u21_at, u21_at, u21_at]
        clear g3
        by_cases e : i = c
        · rw [if_pos e, if_neg (by clear g1 g2 g4; lia), if_neg (by clear g1 g2 g4; lia), if_pos e]; exact eq_of_beq g4
        · by_cases e1 : i = c + 1
          · rw [if_neg e, if_pos e1, if_neg (by clear g1 g2 g4; lia), if_pos e1]; exact eq_of_beq g2
          · by_cases e2 : i = c + 1 + 1
            · rw [if_neg e, if_neg e1, if_pos e2, if_pos e2]; exact eq_of_beq g1
            · rw [if_neg e, if_neg e1, if_neg e2, if_neg e2, if_neg e1, if_neg e]; exact h i i0 (by clear g1 g2 g4; lia)
      · rw [if_neg k3] at i1 dc
        simp only [if_neg k3]
        rw [Bool.and_eq_true, Bool.and_eq_true, Bool.and_eq_true, Bool.and_eq_true, decide_eq_true_eq] at dc
        obtain ⟨g1, g2, g3, g4, g5⟩ := dc
        rw [if_neg (by clear g1 g2 g3 g4 g5; lia), if_neg g3, wdg4, show c + 4 + (-1) = c + 1 + 1 + 1 by lia, show c + 1 + 1 + 1 + (-1) = c + 1 + 1 by lia, show c + 1 + 1 + (-1) = c + 1 by lia, show c + 1 + (-1) = c by lia, upd_i c0 i0, upd_i (by lia) i0, upd_i (by lia) i0, upd_i (by lia) i0, u21_at, u21_at, u21_at, u21_at]
        clear g3
        by_cases e : i = c
        · rw [if_pos e, if_neg (by clear g1 g2 g4 g5; lia), if_neg (by clear g1 g2 g4 g5; lia), if_neg (by clear g1 g2 g4 g5; lia), if_pos e]; exact eq_of_beq g5
        · by_cases e1 : i = c + 1
          · rw [if_neg e, if_pos e1, if_neg (by clear g1 g2 g4 g5; lia), if_neg (by clear g1 g2 g4 g5; lia), if_pos e1]; exact eq_of_beq g4
          · by_cases e2 : i = c + 1 + 1
            · rw [if_neg e, if_neg e1, if_pos e2, if_neg (by clear g1 g2 g4 g5; lia), if_pos e2]; exact eq_of_beq g2
            · by_cases e3 : i = c + 1 + 1 + 1
              · rw [if_neg e, if_neg e1, if_neg e2, if_pos e3, if_pos e3]; exact eq_of_beq g1
              · rw [if_neg e, if_neg e1, if_neg e2, if_neg e3, if_neg e3, if_neg e2, if_neg e1, if_neg e]; exact h i i0 (by clear g1 g2 g4 g5; lia)
end VL3
