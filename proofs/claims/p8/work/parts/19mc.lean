/-! the reference's plan: sums of widths, rows, losses -/
theorem sh_all : ∀ n, n < 9 → (1 : Int32) <<< (Int32.ofNat n &&& 31) = Int32.ofNat (2 ^ n) := by decide +kernel
theorem xr_all : ∀ f, f < 8 → ∀ m, m < 256 → (0 ≤ Int32.ofNat m ^^^ ((1 : Int32) <<< (Int32.ofNat f &&& 31)) ∧ Int32.ofNat m ^^^ ((1 : Int32) <<< (Int32.ofNat f &&& 31)) < 256) := by decide +kernel
theorem xr_lim : ∀ n, n < 9 → ∀ f, f < n → ∀ m, m < 2 ^ n → Int32.ofNat m ^^^ ((1 : Int32) <<< (Int32.ofNat f &&& 31)) < Int32.ofNat (2 ^ n) := by decide +kernel
theorem cl_lt {x : Int32} {n : Nat} (h0 : 0 ≤ x) (h1 : x < Int32.ofNat n) (hn : n < 2147483648) : x.toNatClampNeg < n := by
  have a := cl_int h0
  rw [Int32.lt_iff_toInt_lt, Int32.toInt_ofNat_of_lt hn] at h1
  omega
theorem al_b {x : Int32} (h0 : 0 ≤ x) (h1 : x ≤ 8) : 1 ≤ (1 : Int32) <<< (x &&& 31) ∧ (1 : Int32) <<< (x &&& 31) ≤ 256 := by
  have h := sh_all x.toNatClampNeg (cl_lt h0 (n := 9) (by show x < 9; lia) (by decide))
  rw [of_cl h0] at h
  rw [h]
  have b : x.toNatClampNeg < 9 := cl_lt h0 (n := 9) (by show x < 9; lia) (by decide)
  generalize x.toNatClampNeg = n at b
  rcases (by omega : n = 0 ∨ n = 1 ∨ n = 2 ∨ n = 3 ∨ n = 4 ∨ n = 5 ∨ n = 6 ∨ n = 7 ∨ n = 8) with rfl | rfl | rfl | rfl | rfl | rfl | rfl | rfl | rfl <;> decide
theorem xr_b {x f : Int32} (h0 : 0 ≤ x) (h1 : x < 256) (f0 : 0 ≤ f) (f1 : f < 8) : 0 ≤ x ^^^ ((1 : Int32) <<< (f &&& 31)) ∧ x ^^^ ((1 : Int32) <<< (f &&& 31)) < 256 := by
  have h := xr_all f.toNatClampNeg (cl_lt f0 (n := 8) f1 (by decide)) x.toNatClampNeg (cl_lt h0 (n := 256) h1 (by decide))
  rw [of_cl h0, of_cl f0] at h
  exact h
theorem xr_l {x f n : Int32} (n0 : 0 ≤ n) (n1 : n ≤ 8) (h0 : 0 ≤ x) (h1 : x < (1 : Int32) <<< (n &&& 31)) (f0 : 0 ≤ f) (f1 : f < n) : x ^^^ ((1 : Int32) <<< (f &&& 31)) < (1 : Int32) <<< (n &&& 31) := by
  have nb : n.toNatClampNeg < 9 := cl_lt n0 (n := 9) (by show n < 9; lia) (by decide)
  have e := sh_all n.toNatClampNeg nb
  rw [of_cl n0] at e
  rw [e] at h1 ⊢
  have p : 2 ^ n.toNatClampNeg < 2147483648 := by
    generalize n.toNatClampNeg = m at nb
    rcases (by omega : m = 0 ∨ m = 1 ∨ m = 2 ∨ m = 3 ∨ m = 4 ∨ m = 5 ∨ m = 6 ∨ m = 7 ∨ m = 8) with rfl | rfl | rfl | rfl | rfl | rfl | rfl | rfl | rfl <;> decide
  have h := xr_lim n.toNatClampNeg nb f.toNatClampNeg (cl_mono f0 f1) x.toNatClampNeg (cl_lt h0 h1 p)
  rw [of_cl h0, of_cl f0] at h
  exact h
def wsN (A : Nat → Int32 → Int32) (i : Int32) : Nat → Int32
  | 0 => 0
  | n + 1 => wsN A i n + A 4 (A 19 (i + Int32.ofNat n))
def ws (A : Nat → Int32 → Int32) (i k : Int32) : Int32 := wsN A i k.toNatClampNeg
theorem ws_step {A : Nat → Int32 → Int32} {i k : Int32} (h0 : 0 ≤ k) (h1 : k < 1000) : ws A i (k + 1) = ws A i k + A 4 (A 19 (i + k)) := by
  unfold ws
  rw [cl_succ h0 h1, wsN, of_cl h0]
/-- whether the row from i goes on with its k-th leaf -/
def nxt (A : Nat → Int32 → Int32) (rs i k : Int32) : Prop := i + k < rs ∧ (k = 0 ∨ A 3 (A 19 (i + k)) = A 3 (A 19 (i + k - 1)) + 1)
/-- m leaves from i make a row of the width wd, none fewer; or there is none (m = 0) -/
def mm (A : Nat → Int32 → Int32) (rs i wd m : Int32) : Prop := (0 < m ∧ i + m ≤ rs ∧ m ≤ 32 ∧ wd ≤ ws A i m ∧ (∀ k, 0 ≤ k → k < m → nxt A rs i k ∧ ws A i k < wd)) ∨ (m = 0 ∧ ∃ k, 0 ≤ k ∧ k ≤ 32 ∧ ¬ nxt A rs i k ∧ (∀ j, 0 ≤ j → j < k → nxt A rs i j) ∧ (∀ j, 0 ≤ j → j ≤ k → ws A i j < wd))
def RW (s : Nat → Int32) (A : Nat → Int32 → Int32) : Prop := 0 ≤ s 18 ∧ s 18 ≤ s 1 ∧ s 1 ≤ 32 ∧ ∀ j, 0 ≤ j → j < s 18 → 0 ≤ A 19 j ∧ A 19 j < 32 ∧ 1 ≤ A 4 (A 19 j) ∧ A 4 (A 19 j) ≤ 12
theorem ar_i1 {i k rs : Int32} (i0 : 0 ≤ i) (k0 : 0 ≤ k) (h : i + k < rs) (kb : k ≤ 32) (ib : i ≤ 32) (rb : rs ≤ 32) : 0 ≤ i + k ∧ i + k < 32 ∧ i + (k + 1) ≤ rs := by
  refine ⟨by lia, by lia, by grind⟩
section MPc
variable {B : Nat} {w0 : Mp} {s : Nat → Int32} {A : Nat → Int32 → Int32} {w : Mp} {β : Type} {P : β → Prop}
theorem m_many_L {i wd : Int32} (h : MW B w0 s A w) (hR : RW s A) (i0 : 0 ≤ i) (i1 : i ≤ s 18) (w1 : wd ≤ 100) : ∀ (n : Nat) (k : Int32), 0 ≤ k → k ≤ 32 → i + k ≤ s 18 → (33 - k).toInt < n → (0 ≤ ws A i k ∧ ws A i k ≤ 12 * k) → (∀ j, 0 ≤ j → j < k → nxt A (s 18) i j ∧ ws A i j < wd) → OK (f_Mod_manyFrom_L5 w (B + 11) i wd n (ws A i k) k) (fun q => (q.1 = 0 ∧ 0 ≤ q.2.2 ∧ i + q.2.2 ≤ s 18 ∧ q.2.2 ≤ 32 ∧ wd ≤ ws A i q.2.2 ∧ (∀ j, 0 ≤ j → j < q.2.2 → nxt A (s 18) i j ∧ ws A i j < wd)) ∨ (q.1 = 1 ∧ ∃ k, 0 ≤ k ∧ k ≤ 32 ∧ ¬ nxt A (s 18) i k ∧ (∀ j, 0 ≤ j → j < k → nxt A (s 18) i j) ∧ (∀ j, 0 ≤ j → j ≤ k → ws A i j < wd))) := by
  obtain ⟨r0, r1, r2, r3⟩ := hR
  have rb : s 18 ≤ 32 := by lia
  have ib : i ≤ 32 := by lia
  intro n
  induction n with
  | zero => intro k k0 k1 _ hn; exact (fu_zero k0 (by lia) hn).elim
  | succ n ih =>
    intro k k0 k1 kr hn kb kn
    rw [f_Mod_manyFrom_L5]
    refine OK.ite (fun c => OK.ret (Or.inl ⟨rfl, k0, kr, k1, c, kn⟩)) (fun c => ?_)
    refine k_gI h (by decide) ?_
    refine OK.J1 ?_
    have stop : ¬ nxt A (s 18) i k → OK (some (1, ws A i k, k) : Option (Nat × Int32 × Int32)) (fun q => (q.1 = 0 ∧ 0 ≤ q.2.2 ∧ i + q.2.2 ≤ s 18 ∧ q.2.2 ≤ 32 ∧ wd ≤ ws A i q.2.2 ∧ (∀ j, 0 ≤ j → j < q.2.2 → nxt A (s 18) i j ∧ ws A i j < wd)) ∨ (q.1 = 1 ∧ ∃ k, 0 ≤ k ∧ k ≤ 32 ∧ ¬ nxt A (s 18) i k ∧ (∀ j, 0 ≤ j → j < k → nxt A (s 18) i j) ∧ (∀ j, 0 ≤ j → j ≤ k → ws A i j < wd))) := fun z => OK.ret (Or.inr ⟨rfl, k, k0, k1, z, fun j j0 j1 => (kn j j0 j1).1, fun j j0 j1 => by
      by_cases e : j = k
      · rw [e]; clear ih hn kn; lia
      · exact (kn j j0 (by clear ih hn kn; lia)).2⟩)
    refine OK.ite (fun c1 => OK.ifP rfl (stop (fun z => absurd z.1 (by clear ih hn kn; lia)))) (fun c1 => ?_)
    have c1' : i + k < s 18 := by clear ih hn kn; lia
    obtain ⟨x1, x2, x3⟩ := ar_i1 i0 k0 c1' k1 ib rb
    obtain ⟨y1, y2, y3, y4⟩ := r3 (i + k) x1 c1'
    have k32 : k < 32 := by clear ih hn kn x3; lia
    have go : nxt A (s 18) i k → OK ((gR w (some (B + 11)) 5 4).bind fun v_4 => (gR w (some (B + 11)) 5 19).bind fun v_5 => (aI w v_5 0 (i + k)).bind fun v_6 => (aI w v_4 0 v_6).bind fun v_7 => f_Mod_manyFrom_L5 w (B + 11) i wd n (ws A i k + v_7) (k + 1)) (fun q => (q.1 = 0 ∧ 0 ≤ q.2.2 ∧ i + q.2.2 ≤ s 18 ∧ q.2.2 ≤ 32 ∧ wd ≤ ws A i q.2.2 ∧ (∀ j, 0 ≤ j → j < q.2.2 → nxt A (s 18) i j ∧ ws A i j < wd)) ∨ (q.1 = 1 ∧ ∃ k, 0 ≤ k ∧ k ≤ 32 ∧ ¬ nxt A (s 18) i k ∧ (∀ j, 0 ≤ j → j < k → nxt A (s 18) i j) ∧ (∀ j, 0 ≤ j → j ≤ k → ws A i j < wd))) := fun z => by
      refine k_gR h (by decide) (k_gR h (by decide) (k_aI h (by decide) (by decide) x1 x2 (k_aI h (by decide) (by decide) y1 y2 ?_)))
      have st := ws_step (A := A) (i := i) k0 (by clear ih hn kn; lia)
      rw [← st]
      refine ih (k + 1) (by clear ih hn kn x3; lia) (by clear ih hn kn x3; lia) x3 (fu_step k0 (by clear ih hn kn x3; lia) hn) ?_ (fun j j0 j1 => ?_)
      · rw [st]; clear ih hn kn x3 c1 c1' x1 x2 kr st; constructor <;> lia
      · by_cases e : j = k
        · rw [e]; exact ⟨z, by clear ih hn kn; lia⟩
        · exact kn j j0 (by clear ih hn kn x3; lia)
    refine OK.ite (fun c2 => OK.ifN (by decide) (go ⟨c1', Or.inl c2⟩)) (fun c2 => ?_)
    have u1 : 0 ≤ i + k - 1 ∧ i + k - 1 < s 18 := by clear ih hn kn kr x3; constructor <;> lia
    obtain ⟨z1, z2, z3, z4⟩ := r3 (i + k - 1) u1.1 u1.2
    refine k_gR h (by decide) (k_gR h (by decide) (k_aI h (by decide) (by decide) x1 x2 (k_aI h (by decide) (by decide) y1 y2 ?_)))
    refine k_gR h (by decide) (k_gR h (by decide) (k_aI h (by decide) (by decide) u1.1 (by show i + k - 1 < (32 : Int32); clear ih hn kn; lia) (k_aI h (by decide) (by decide) z1 z2 ?_)))
    refine OK.ite (fun c3 => OK.ifN (by decide) (go ⟨c1', Or.inr c3⟩)) (fun c3 => OK.ifP rfl (stop (fun z => z.2.elim c2 c3)))
theorem m_manyFrom {F : Int32 → Option β} {i wd : Int32} (h : MW B w0 s A w) (hR : RW s A) (i0 : 0 ≤ i) (i1 : i ≤ s 18) (wd0 : 1 ≤ wd) (wd1 : wd ≤ 100) (hp : ∀ m, mm A (s 18) i wd m → OK (F m) P) : OK ((f_Mod_manyFrom w (B + 11) i wd).bind F) P := by
  refine OK.call (P := fun m => mm A (s 18) i wd m) ?_ (fun m hm => hp m hm)
  unfold f_Mod_manyFrom
  have w00 : ws A i 0 = 0 := rfl
  have L := m_many_L h hR i0 i1 wd1 100000 0 (by decide) (by decide) (by rw [Int32.add_zero]; exact i1) (by decide) (by rw [w00]; decide) (fun j j0 j1 => by lia)
  rw [w00] at L
  refine OK.call L (fun q hq => ?_)
  rcases hq with ⟨e, q1, q2, q3, q4, q5⟩ | ⟨e, k, hk⟩
  · rw [if_pos e]
    refine OK.ret (Or.inl ⟨?_, q2, q3, q4, q5⟩)
    by_cases e0 : q.2.2 = 0
    · rw [e0, w00] at q4; lia
    · lia
  · rw [if_neg (by rw [e]; decide), if_pos e]
    exact OK.ret (Or.inr ⟨rfl, k, hk⟩)
theorem m_loss_L {i wd m : Int32} (h : MW B w0 s A w) (hR : RW s A) (i0 : 0 ≤ i) (m0 : 0 ≤ m) (m1 : m ≤ 32) (i1 : i ≤ 32) (im : i + m ≤ s 18) : ∀ (n : Nat) (k : Int32), 0 ≤ k → k ≤ m → (m - k).toInt < n → OK (f_Mod_lossFrom_L7 w (B + 11) i m n (-wd + ws A i k) k) (fun q => q.2.1 = -wd + ws A i m) := by
  obtain ⟨r0, r1, r2, r3⟩ := hR
  intro n
  induction n with
  | zero => intro k k0 k1 hn; exact (fu_zero k0 k1 hn).elim
  | succ n ih =>
    intro k k0 k1 hn
    rw [f_Mod_lossFrom_L7]
    refine OK.ite (fun c => OK.ret (by show -wd + ws A i k = _; rw [show k = m by clear ih hn; lia])) (fun c => ?_)
    have km : k < m := by clear ih hn; lia
    have x1 : 0 ≤ i + k ∧ i + k < s 18 := by clear ih hn; constructor <;> lia
    obtain ⟨y1, y2, y3, y4⟩ := r3 (i + k) x1.1 x1.2
    refine k_gR h (by decide) (k_gR h (by decide) (k_aI h (by decide) (by decide) x1.1 (by show i + k < (32 : Int32); clear ih hn im; lia) (k_aI h (by decide) (by decide) y1 y2 ?_)))
    rw [Int32.add_assoc, ← ws_step k0 (by clear ih hn im; lia)]
    exact ih (k + 1) (by clear ih hn im x1; lia) (by clear ih hn im x1; lia) (fu_step k0 km hn)
theorem m_lossFrom {F : Int32 → Option β} {i wd m : Int32} (h : MW B w0 s A w) (hR : RW s A) (i0 : 0 ≤ i) (i1 : i ≤ 32) (m0 : 0 ≤ m) (m1 : m ≤ 32) (im : i + m ≤ s 18) (hp : OK (F (-wd + ws A i m)) P) : OK ((f_Mod_lossFrom w (B + 11) i m wd).bind F) P := by
  refine OK.call (P := fun v => v = -wd + ws A i m) ?_ (fun v e => by rw [e]; exact hp)
  unfold f_Mod_lossFrom
  have L := m_loss_L (wd := wd) h hR i0 m0 m1 i1 im 100000 0 (by decide) m0 (fu_any (by lia) m0)
  rw [show ws A i 0 = 0 from rfl, Int32.add_zero] at L
  exact OK.call L (fun q hq => OK.ret hq)
end MPc
