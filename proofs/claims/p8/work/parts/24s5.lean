/-! match and apart, on both sides -/
section SM5
variable {B : Nat} {w0 w w' : Mp} {T K : Nat → Nat} {V V' : Nat → Nat → Int32} {R R' : Nat → Nat → Option Nat} {I I' : Nat → Int32 → Int32} {O O' : Nat → Int32 → Option Nat} {N N' : Nat → Int32} {s s' : Nat → Int32} {A A' : Nat → Int32 → Int32} {sz g : Nat} {β : Type} {P : β → Prop}
theorem pos_inj {fb : Int32 → Bool} {nm : Int32 → Int32} {i k k' : Int32} (i1 : i ≤ 1000) (k0 : 0 ≤ k) (k1 : k < i) (hk : fb k = true) (k0' : 0 ≤ k') (k1' : k' < i) (hk' : fb k' = true) (e : posG fb nm i.toNatClampNeg k = posG fb nm i.toNatClampNeg k') : k = k' := by
  have a := fun v => pos_le_iff (nm := nm) (v := v) k0 k1 i1 hk
  have b := fun v => pos_le_iff (nm := nm) (v := v) k0' k1' i1 hk'
  have en : nm k = nm k' := by
    by_cases c : nm k < nm k'
    · have x := (a (nm k)).1 (Int32.le_refl _)
      have y := (b (nm k)).2 c
      omega
    · by_cases d : nm k' < nm k
      · have x := (b (nm k')).1 (Int32.le_refl _)
        have y := (a (nm k')).2 d
        omega
      · clear a b e; lia
  unfold posG at e
  rw [en] at e
  have step : ∀ x y : Int32, 0 ≤ x → x < y → y < i → fb x = true → nm x = nm k' → cn (qEq fb nm (nm k')) x.toNatClampNeg < cn (qEq fb nm (nm k')) y.toNatClampNeg := fun x y x0 xy yi fx nx => by
    have st := cn_step (p := qEq fb nm (nm k')) x0 (by clear a b e; lia)
    have q : qEq fb nm (nm k') x = true := by unfold qEq; rw [fx, nx]; simp
    rw [if_pos q] at st
    have m := cn_mono (qEq fb nm (nm k')) (x + 1).toNatClampNeg y.toNatClampNeg (by
      have p0 : 0 ≤ x + 1 := by clear a b e st q; lia
      have p1 : x + 1 ≤ y := by clear a b e st q; lia
      have z1 := cl_int p0
      have z2 := cl_int (show 0 ≤ y by clear a b e st q; lia)
      rw [Int32.le_iff_toInt_le] at p1
      omega)
    omega
  by_cases c : k < k'
  · have := step k k' k0 c k1' hk en
    omega
  · by_cases d : k' < k
    · have := step k' k k0' d k1 hk' rfl
      omega
    · clear a b e step; lia
theorem ofn_in {x : Int32} {i : Nat} (h : i < x.toNatClampNeg) : 0 ≤ Int32.ofNat i ∧ Int32.ofNat i < x := by
  have hb : x.toInt < 2147483648 := Int32.toInt_lt x
  have hx : (x.toNatClampNeg : Int) = max x.toInt 0 := by
    show ((x.toInt.toNat : Nat) : Int) = _
    omega
  have e := Int32.toInt_ofNat_of_lt (n := i) (by omega)
  rw [Int32.le_iff_toInt_le, Int32.lt_iff_toInt_lt, e, show (0 : Int32).toInt = 0 by decide]
  omega
theorem fb_eq (h : SL B V R I O s A) {fl k : Int32} (k0 : 0 ≤ k) (k1 : k < s 1) : fbC B V O fl k = frb A fl k := by
  obtain ⟨⟨e1, -, -, -, e5, e6⟩, -⟩ := h.2 k k0 k1
  unfold fbC frb
  rw [e1, e5, e6]
theorem nm_eq (h : SL B V R I O s A) {k : Int32} (k0 : 0 ≤ k) (k1 : k < s 1) : nmC B V O k = A 3 k := (h.2 k k0 k1).1.2.1
theorem cnt_eq (h : SL B V R I O s A) (fl : Int32) : cntC B V O fl = cntf s A fl := by
  unfold cntC cntf
  rw [h.1]
  congr 1
  exact cn_congr _ (fun i hi => fb_eq h (ofn_in hi).1 (ofn_in hi).2)
theorem pos_eq (h : SL B V R I O s A) {fl k : Int32} (k0 : 0 ≤ k) (k1 : k < s 1) : posG (fbC B V O fl) (nmC B V O) (V B 1).toNatClampNeg k = posM s A fl k := by
  unfold posG posM
  rw [h.1, nm_eq h k0 k1]
  have e : ∀ i : Int32, 0 ≤ i → i < s 1 → qLt (fbC B V O fl) (nmC B V O) (A 3 k) i = pLt A fl (A 3 k) i ∧ qEq (fbC B V O fl) (nmC B V O) (A 3 k) i = pEq A fl (A 3 k) i := fun i i0 i1 => by
    unfold qLt qEq pLt pEq
    rw [fb_eq h i0 i1, nm_eq h i0 i1]
    exact ⟨rfl, rfl⟩
  congr 1
  · exact cn_congr _ (fun i hi => (e _ (ofn_in hi).1 (ofn_in hi).2).1)
  · refine cn_congr _ (fun i hi => ?_)
    have z := ofn_in hi
    exact (e _ z.1 (by have := z.2; clear e hi; lia)).2
/-- both gather the same leaves -/
theorem gat_eq {fl rs : Int32} {r : Int32 → Int32} {c : Int32 → Option Nat} (hI : MI s A) (h : SL B V R I O s A) (hG : GA B T V O fl c) (hR : RI s A fl rs r) (hs : rs = cntf s A fl) {j : Int32} (j0 : 0 ≤ j) (j1 : j < rs) : c j = O (B + 1) (r j) ∧ 0 ≤ r j ∧ r j < s 1 := by
  obtain ⟨⟨-, g2⟩, -, -⟩ := hG
  have j2 : j < cntC B V O fl := by rw [cnt_eq h, ← hs]; exact j1
  obtain ⟨k, k0, k1, k2, k3, k4⟩ := g2 j j0 j2
  obtain ⟨r0, r1, r2, r3⟩ := hR j j0 j1
  rw [h.1] at k1
  have b := hI.1
  rw [pos_eq h k0 k1] at k4
  rw [fb_eq h k0 k1] at k2
  have pl : posM s A fl (r j) = j.toNatClampNeg := by
    have q : posM s A fl (r j) < 2147483648 := by
      have x := cn_le (pLt A fl (A 3 (r j))) (s 1).toNatClampNeg
      have y := cn_le (pEq A fl (A 3 (r j))) (r j).toNatClampNeg
      have z1 := cl_int b.1
      have z2 := cl_int r0
      have b2 := b.2
      rw [Int32.le_iff_toInt_le, show (32 : Int32).toInt = 32 by decide] at b2
      rw [Int32.lt_iff_toInt_lt] at r1
      unfold posM
      omega
    have z9 := congrArg Int32.toNatClampNeg r3
    rw [cl_ofNat q] at z9
    exact z9
  have e : k = r j := by
    refine pos_inj (fb := frb A fl) (nm := A 3) (i := s 1) (by have := b.2; clear k4 pl r3; lia) k0 k1 k2 r0 r1 r2 ?_
    show posM s A fl k = posM s A fl (r j)
    rw [k4, pl]
  rw [k3, e]
  exact ⟨rfl, r0, r1⟩
theorem brk_iff {n : Int32} {r : Int32 → Int32} {c : Int32 → Option Nat} (h : SL B V R I O s A) (hc : ∀ j, 0 ≤ j → j < n → c j = O (B + 1) (r j) ∧ 0 ≤ r j ∧ r j < s 1) (n8 : n ≤ 8) : cbrk V c n ↔ mbrk A r n := by
  have e : ∀ j, 0 ≤ j → j < n → nmo V (c j) = A 3 (r j) := fun j j0 j1 => by
    obtain ⟨z1, z2, z3⟩ := hc j j0 j1
    rw [z1]
    exact nm_eq h z2 z3
  constructor
  · rintro ⟨k, k0, k1, q⟩
    rw [e k (by lia) k1, e (k - 1) (by lia) (by lia)] at q
    exact ⟨k, k0, k1, q⟩
  · rintro ⟨k, k0, k1, q⟩
    refine ⟨k, k0, k1, ?_⟩
    rw [e k (by lia) k1, e (k - 1) (by lia) (by lia)]
    exact q
theorem lf_inj (hC : CI B T K V R O N) {i j : Int32} (i0 : 0 ≤ i) (i1 : i < V B 1) (j0 : 0 ≤ j) (j1 : j < V B 1) (e : la (O (B + 1)) i = la (O (B + 1)) j) : i = j := by
  have a := (hC.lf i0 i1).2.2
  have b := (hC.lf j0 j1).2.2
  rw [e, b] at a
  exact a.symm
theorem ofn_cl {k : Int32} (k0 : 0 ≤ k) : Int32.ofNat k.toNatClampNeg = k := by
  apply Int32.toInt_inj.mp
  have z := cl_int k0
  have hb : k.toInt < 2147483648 := Int32.toInt_lt k
  rw [Int32.toInt_ofNat_of_lt (by omega)]
  omega
theorem SIM_match {kd n rs : Int32} {r pc us : Int32 → Int32} {c : Int32 → Option Nat} (hC : CI B T K V R O N) (hI : MI s A) (hF : FR T sz) (hz : B + 29 ≤ sz) (hS : SIM B V R I O N s A) (s8 : s 9 ≠ 8) (n0 : 2 ≤ n) (n8 : n ≤ 8) (hc : ∀ j, 0 ≤ j → j < n → c j = O (B + 1) (r j) ∧ 0 ≤ r j ∧ r j < s 1) (hP : PU A (s 9) n r pc us) {T' : Nat → Nat} {V1 V' : Nat → Nat → Int32} {R' : Nat → Nat → Option Nat} {O' : Nat → Int32 → Option Nat}
    (m1 : ∀ a, a < sz → T' a = T a ∧ R' a = R a) (m2 : T' sz = 3) (m3 : R' sz 1 = some (sz + 1)) (m4 : PM T T' V1 R' O' c kd sz n.toNatClampNeg) (m5 : ∀ a, a < sz → V1 a = V a) (m6 : V1 sz 0 = kd)
    (m7 : ∃ V2, MK T' R' O' (sz + 1) 1 n V1 V2 ∧ ∀ a j, (a ≠ B ∨ j ≠ 3) → (a ≠ B + 3 ∨ j ≠ 2) → V' a j = V2 a j) (m8 : V' B 3 = V B 3 + 1) (m9 : ∀ a, a ≠ sz + 1 → a ≠ B + 2 → a ≠ B + 10 → O' a = O a) (m11 : O' (B + 2) = (fun y => if y = V B 3 then some sz else O (B + 2) y)) :
    SIM B V' R' I O' (va_up N (sz + 1) n) (up (up (up (up s 18 rs) 0 0) 9 (s 9 + 1)) 15 0) (upPU (upA (upA (upR A r) 10 (s 9) kd) 11 (s 9) n) pc us) := by
  obtain ⟨hL, ⟨f1, f2⟩, ⟨w1, w2⟩, z⟩ := hS
  obtain ⟨⟨t0, t1, t2, t3, t4, t5, t6, t10⟩, -, -, ⟨kw, -, -⟩, -⟩ := hC.1
  have l1 := hL.1
  obtain ⟨V2, ⟨k1, k2, k3⟩, k4⟩ := m7
  have lt : ∀ a, T a ≠ 10 → a < sz := fun a ha => Nat.lt_of_not_le (fun q => ha (hF a q))
  have n3 : ∀ a, T a ≠ 4 → a ≠ B + 3 := fun a ha e => ha (by rw [e]; exact t3)
  have nB : ∀ a, T a ≠ 0 → a ≠ B := fun a ha e => ha (by rw [e]; exact t0)
  have o1 : O' (B + 1) = O (B + 1) := m9 _ (by omega) (by omega) (by omega)
  have s9 := hI.2.1
  have pc1 : ∀ k, 0 ≤ k → k < n → la (O' (sz + 1)) k = sz + 2 + k.toNatClampNeg ∧ T' (sz + 2 + k.toNatClampNeg) = 2 ∧ R' (sz + 2 + k.toNatClampNeg) 0 = O (B + 1) (r k) ∧ V1 (sz + 2 + k.toNatClampNeg) 1 = cmir kd k ∧ V1 (sz + 2 + k.toNatClampNeg) 2 = ctur kd k := fun k k0 kn => by
    have e0 := ofn_cl k0
    have q := m4 k.toNatClampNeg (by
      have a := cl_int k0
      have b := cl_int (show 0 ≤ n by lia)
      rw [Int32.lt_iff_toInt_lt] at kn
      omega)
    rw [e0] at q
    obtain ⟨q1, q2, ⟨l, q3, q4, q5⟩, q6, q7⟩ := q
    exact ⟨la_eq q1, q2, by rw [q3, ← q5]; exact (hc k k0 kn).1, q6, q7.1⟩
  have lfe : ∀ k, 0 ≤ k → k < n → lfp R' O' (sz + 1) k = la (O (B + 1)) (r k) := fun k k0 kn => by
    unfold lfp
    rw [(pc1 k k0 kn).1, (pc1 k k0 kn).2.2.1]
    rfl
  have old : ∀ a j, T a ≠ 10 → T a ≠ 1 ∨ j ≠ 7 → (a ≠ B ∨ j ≠ 3) → (a ≠ B + 3 ∨ j ≠ 2) → V' a j = V a j := fun a j ta h1 h2 h3 => by
    rw [k4 a j h2 h3, k1 a j (by rw [(m1 a (lt a ta)).1]; exact h1), m5 a (lt a ta)]
  refine ⟨SL_mod hC hL (old B 1 (by rw [t0]; decide) (Or.inr (by decide)) (Or.inr (by decide)) (Or.inr (by decide))) o1 (fun a j ta j6 j7 => old a j (by rw [ta]; decide) (Or.inr j7) (Or.inl (nB a (by rw [ta]; decide))) (Or.inl (n3 a (by rw [ta]; decide)))) (fun a ta => (m1 a (lt a (by rw [ta]; decide))).2) (fun _ _ _ => rfl) rfl rfl rfl rfl rfl rfl (fun i a0 a1 => ?_), ⟨by rw [m8, f1]; rfl, fun f g0 g1 => ?_⟩, ⟨by rw [old (B + 3) 1 (by rw [t3]; decide) (Or.inr (by decide)) (Or.inr (by decide)) (Or.inr (by decide))]; exact w1, w2⟩, fun i a0 a1 => ?_, z.2⟩
  · obtain ⟨ta, ea, va⟩ := hC.lf a0 (by rw [l1]; exact a1)
    obtain ⟨⟨-, -, -, -, e5, e6⟩, -⟩ := hL.2 i a0 a1
    refine ⟨by rw [old _ 6 (by rw [ta]; decide) (Or.inr (by decide)) (Or.inr (by decide)) (Or.inr (by decide))]; exact e5, ?_⟩
    show V' (la (O (B + 1)) i) 7 = us i
    rw [k4 _ 7 (Or.inr (by decide)) (Or.inr (by decide))]
    by_cases c9 : ∃ k, 0 ≤ k ∧ k < n ∧ r k = i
    · obtain ⟨k, k0, kn, ek⟩ := c9
      have := k2 k k0 kn
      rw [lfe k k0 kn, ek] at this
      rw [this, ← ek]
      exact (hP.2.2.1 k k0 kn).symm
    · rw [k3 _ (fun k k0 kn e => c9 ⟨k, k0, kn, ?_⟩), m5 _ (lt _ (by rw [ta]; decide)), hP.2.2.2 i (fun k k0 kn e => c9 ⟨k, k0, kn, e⟩)]
      · exact e6
      · rw [lfe k k0 kn] at e
        exact lf_inj hC (hc k k0 kn).2.1 (by rw [l1]; exact (hc k k0 kn).2.2) a0 (by rw [l1]; exact a1) e
  · have g1 : f < s 9 + 1 := g1
    rw [m11]
    by_cases ef : f = s 9
    · subst ef
      have el : la (fun y => if y = V B 3 then some sz else O (B + 2) y) (s 9) = sz := la_s f1.symm
      have fp : fpc B R' O' (s 9) = sz + 1 := by unfold fpc; rw [m11, el, m3]; rfl
      rw [el, fp]
      have b10 : upPU (upA (upA (upR A r) 10 (s 9) kd) 11 (s 9) n) pc us 10 (s 9) = kd := by simp [upPU, upA]
      have b11 : upPU (upA (upA (upR A r) 10 (s 9) kd) 11 (s 9) n) pc us 11 (s 9) = n := by simp [upPU, upA]
      unfold FE PE
      rw [b10, b11, vup_s]
      refine ⟨?_, rfl, fun k k0 kn => ?_⟩
      · rw [k4 sz 0 (Or.inr (by decide)) (Or.inr (by decide)), k1 sz 0 (Or.inr (by decide))]; exact m6
      · obtain ⟨q1, q2, q3, q4, q5⟩ := pc1 k k0 kn
        rw [q1]
        refine ⟨?_, ?_, ?_⟩
        · rw [k4 _ 1 (Or.inr (by decide)) (Or.inr (by decide)), k1 _ 1 (Or.inr (by decide))]; exact q4
        · rw [k4 _ 2 (Or.inr (by decide)) (Or.inl (by omega)), k1 _ 2 (Or.inr (by decide))]; exact q5
        · rw [q3, o1]
          show O (B + 1) (r k) = O (B + 1) (pc (8 * s 9 + k))
          rw [hP.1 k k0 kn]
    · have g2 : f < s 9 := by lia
      obtain ⟨ta, ea, ra, tp, hn, hk⟩ := hC.fc g0 (by rw [f1]; exact g2)
      obtain ⟨e1, e2, e3⟩ := f2 f g0 g2
      have el : la (fun y => if y = V B 3 then some sz else O (B + 2) y) f = la (O (B + 2)) f := la_n (by rw [f1]; exact ef)
      have fp : fpc B R' O' f = fpc B R O f := by unfold fpc; rw [m11, el, (m1 _ (lt _ (by rw [ta]; decide))).2]
      have p0 := lt _ (show T (fpc B R O f) ≠ 10 by rw [tp]; decide)
      have op : O' (fpc B R O f) = O (fpc B R O f) := m9 _ (by omega) (fun e => by rw [e, t2] at tp; cases tp) (fun e => by rw [e, t10] at tp; cases tp)
      rw [el, fp]
      have b10 : upPU (upA (upA (upR A r) 10 (s 9) kd) 11 (s 9) n) pc us 10 f = A 10 f := by simp [upPU, upA, upR, ef]
      have b11 : upPU (upA (upA (upR A r) 10 (s 9) kd) 11 (s 9) n) pc us 11 f = A 11 f := by simp [upPU, upA, upR, ef]
      unfold FE PE
      rw [b10, b11, vup_n (by omega), op]
      refine ⟨by rw [old _ 0 (by rw [ta]; decide) (Or.inr (by decide)) (Or.inr (by decide)) (Or.inr (by decide))]; exact e1, e2, fun k k0 kn => ?_⟩
      obtain ⟨q1, q2, q3⟩ := e3 k k0 kn
      obtain ⟨tq, -⟩ := hk k k0 (by rw [e2]; exact kn)
      have a8 := (hI.2.2.2.2.1 f g0 g2).2.2.2.1
      refine ⟨by rw [old _ 1 (by rw [tq]; decide) (Or.inr (by decide)) (Or.inr (by decide)) (Or.inr (by decide))]; exact q1, by rw [old _ 2 (by rw [tq]; decide) (Or.inr (by decide)) (Or.inr (by decide)) (Or.inl (n3 _ (by rw [tq]; decide)))]; exact q2, ?_⟩
      rw [(m1 _ (lt _ (by rw [tq]; decide))).2, q3, o1]
      show O (B + 1) (A 12 (8 * f + k)) = O (B + 1) (pc (8 * f + k))
      rw [hP.2.1 (8 * f + k) (Or.inl (ar_8 (j := 0) (n := 0) g0 g2 (by lia) k0 (by clear hc hP m4 hk; lia)))]
  · have q := z.1 i a0 a1
    refine ⟨q.1, ?_, q.2.2⟩
    show us i = 0
    rw [hP.2.2.2 i (fun k k0 kn e => ?_)]
    · exact q.2.1
    · have := (hc k k0 kn).2.2
      have a0 : s 1 ≤ i := a0
      clear q
      lia
theorem SX_match {kd n rs : Int32} {r pc us : Int32 → Int32} {c : Int32 → Option Nat} (hC : CI B T K V R O N) (hI : MI s A) (hF : FR T sz) (hz : B + 29 ≤ sz) (hS : SIM B V R I O N s A) (hQ : SX B V R O s A) (s8 : s 9 ≠ 8) (n0 : 2 ≤ n) (n8 : n ≤ 8) (hc : ∀ j, 0 ≤ j → j < n → c j = O (B + 1) (r j) ∧ 0 ≤ r j ∧ r j < s 1) (hj : ∀ j, 0 ≤ j → j < n → A 7 (r j) = 0) {m : Int32 → Nat} (hm : ∀ j, 0 ≤ j → j < n → Int32.ofNat (m (r j)) = j) (hP : PU A (s 9) n r pc us) {T' : Nat → Nat} {V1 V' : Nat → Nat → Int32} {R' : Nat → Nat → Option Nat} {O' : Nat → Int32 → Option Nat}
    (m1 : ∀ a, a < sz → T' a = T a ∧ R' a = R a) (m2 : T' sz = 3) (m3 : R' sz 1 = some (sz + 1)) (m4 : PM T T' V1 R' O' c kd sz n.toNatClampNeg) (m5 : ∀ a, a < sz → V1 a = V a)
    (m7 : ∃ V2, MK T' R' O' (sz + 1) 1 n V1 V2 ∧ ∀ a j, (a ≠ B ∨ j ≠ 3) → (a ≠ B + 3 ∨ j ≠ 2) → V' a j = V2 a j) (m9 : ∀ a, a ≠ sz + 1 → a ≠ B + 2 → a ≠ B + 10 → O' a = O a) (m11 : O' (B + 2) = (fun y => if y = V B 3 then some sz else O (B + 2) y)) :
    SX B V' R' O' (up (up (up (up s 18 rs) 0 0) 9 (s 9 + 1)) 15 0) (upPU (upA (upA (upR A r) 10 (s 9) kd) 11 (s 9) n) pc us) := by
  obtain ⟨⟨j1, j2⟩, jq⟩ := hQ
  obtain ⟨hL, ⟨f1, f2⟩, -, -⟩ := hS
  obtain ⟨⟨t0, t1, t2, t3, t4, t5, t6, t10⟩, -, -, -, -⟩ := hC.1
  obtain ⟨V2, ⟨k1, k2, k3⟩, k4⟩ := m7
  have lt : ∀ a, T a ≠ 10 → a < sz := fun a ha => Nat.lt_of_not_le (fun q => ha (hF a q))
  have s9 := hI.2.1
  have e11 : ∀ f, upPU (upA (upA (upR A r) 10 (s 9) kd) 11 (s 9) n) pc us 11 f = if f = s 9 then n else A 11 f := fun f => by simp [upPU, upA, upR]
  have old : ∀ f k, 0 ≤ f → f < s 9 → 0 ≤ k → k < A 11 f → pc (8 * f + k) = pcs A f k := fun f k a0 a1 b0 b1 => by
    have a8 := (hI.2.2.2.2.1 f a0 a1).2.2.2.1
    exact hP.2.1 (8 * f + k) (Or.inl (ar_8 (j := 0) (n := 0) a0 a1 (by clear a8 hc hj hm hP m4; lia) b0 (by clear hc hj hm hP m4; lia)))
  have cases : ∀ f k, vp (up (up (up (up s 18 rs) 0 0) 9 (s 9 + 1)) 15 0) (upPU (upA (upA (upR A r) 10 (s 9) kd) 11 (s 9) n) pc us) f k → (f = s 9 ∧ 0 ≤ k ∧ k < n ∧ pc (8 * f + k) = r k) ∨ (f ≠ s 9 ∧ vp s A f k ∧ pc (8 * f + k) = pcs A f k) := fun f k hv => by
    obtain ⟨a0, a1, b0, b1⟩ := hv
    have a1 : f < s 9 + 1 := a1
    rw [e11] at b1
    by_cases ef : f = s 9
    · rw [if_pos ef] at b1
      exact Or.inl ⟨ef, b0, b1, by rw [ef]; exact hP.1 k b0 b1⟩
    · rw [if_neg ef] at b1
      have a2 : f < s 9 := by clear hc hj hm hP m4; lia
      exact Or.inr ⟨ef, ⟨a0, a2, b0, b1⟩, old f k a0 a2 b0 b1⟩
  have nw : ∀ k f' k', 0 ≤ k → k < n → vp s A f' k' → r k ≠ pcs A f' k' := fun k f' k' b0 b1 hv e => by
    have x := j2 f' k' hv
    rw [← e] at x
    exact x (hj k b0 b1)
  refine ⟨⟨fun f k f' k' hv hv' e => ?_, fun f k hv => ?_⟩, fun f a0 a1 => ?_⟩
  · have e : pc (8 * f + k) = pc (8 * f' + k') := e
    rcases cases f k hv with ⟨q1, q2, q3, q4⟩ | ⟨q1, q2, q3⟩
    · rcases cases f' k' hv' with ⟨p1, p2, p3, p4⟩ | ⟨p1, p2, p3⟩
      · refine ⟨q1.trans p1.symm, ?_⟩
        rw [q4, p4] at e
        rw [← hm k q2 q3, e, hm k' p2 p3]
      · rw [q4, p3] at e
        exact absurd e (nw k f' k' q2 q3 p2)
    · rcases cases f' k' hv' with ⟨p1, p2, p3, p4⟩ | ⟨p1, p2, p3⟩
      · rw [q3, p4] at e
        exact absurd e.symm (nw k' f k p2 p3 q2)
      · rw [q3, p3] at e
        exact j1 f k f' k' q2 p2 e
  · show us (pc (8 * f + k)) ≠ 0
    rcases cases f k hv with ⟨q1, q2, q3, q4⟩ | ⟨q1, q2, q3⟩
    · rw [q4, hP.2.2.1 k q2 q3]; decide
    · rw [q3, hP.2.2.2 _ (fun k' b0 b1 e => nw k' f k b0 b1 q2 e)]
      exact j2 f k q2
  · have a1 : f < s 9 + 1 := a1
    by_cases ef : f = s 9
    · have el : la (fun y => if y = V B 3 then some sz else O (B + 2) y) f = sz := la_s (ef.trans f1.symm)
      have fp : fpc B R' O' f = sz + 1 := by unfold fpc; rw [m11, el, m3]; rfl
      obtain ⟨q1, q2, -, -, -, q6, q7⟩ := m4 0 (by
        have := cl_int (show 0 ≤ n by clear hc hj hm hP m4; lia)
        rw [Int32.le_iff_toInt_le, show (2 : Int32).toInt = 2 by decide] at n0
        omega)
      have q1 : O' (sz + 1) 0 = some (sz + 2 + 0) := q1
      rw [fp, la_eq q1, k4 _ 3 (Or.inl (by omega)) (Or.inr (by decide)), k4 _ 4 (Or.inr (by decide)) (Or.inr (by decide)), k1 _ 3 (Or.inr (by decide)), k1 _ 4 (Or.inr (by decide))]
      exact ⟨q6, q7⟩
    · have a2 : f < s 9 := by clear hc hj hm hP m4; lia
      obtain ⟨ta, ea, ra, tp, hn, hk⟩ := hC.fc a0 (by rw [f1]; exact a2)
      have el : la (fun y => if y = V B 3 then some sz else O (B + 2) y) f = la (O (B + 2)) f := la_n (by rw [f1]; exact ef)
      have fp : fpc B R' O' f = fpc B R O f := by unfold fpc; rw [m11, el, (m1 _ (lt _ (by rw [ta]; decide))).2]
      have p0 := lt _ (show T (fpc B R O f) ≠ 10 by rw [tp]; decide)
      have op : O' (fpc B R O f) = O (fpc B R O f) := m9 _ (by omega) (fun e => by rw [e, t2] at tp; cases tp) (fun e => by rw [e, t10] at tp; cases tp)
      obtain ⟨tq, -⟩ := hk 0 (by decide) (by clear hc hj hm hP m4 hk; lia)
      have q0 := lt _ (show T (la (O (fpc B R O f)) 0) ≠ 10 by rw [tq]; decide)
      rw [fp, op, k4 _ 3 (Or.inl (fun e => by rw [e, t0] at tq; cases tq)) (Or.inr (by decide)), k4 _ 4 (Or.inr (by decide)) (Or.inr (by decide)), k1 _ 3 (Or.inr (by decide)), k1 _ 4 (Or.inr (by decide)), m5 _ q0]
      exact jq f a0 a2
theorem SX_apart {f : Int32} {us kd sn pc : Int32 → Int32} {c : Int32 → Option Nat} {V1 V' : Nat → Nat → Int32} (hC : CI B T K V R O N) (hI : MI s A) (hS : SIM B V R I O N s A) (hQ : SX B V R O s A) (f0 : 0 ≤ f) (f1 : f < s 9) (hU : US A f (A 11 f) us) (c1 : shf (A 10) kd f (s 9 - 1) 1) (c2 : shf (A 11) sn f (s 9 - 1) 1) (c3 : shf (A 12) pc (8 * f) (8 * s 9 - 8) 8) (m1 : MK T R O (fpc B R O f) 0 (N (fpc B R O f)) V V1) (m2 : ∀ a j, (a ≠ B ∨ j ≠ 3) → (a ≠ B + 3 ∨ j ≠ 2) → V' a j = V1 a j) (m4 : ∀ g, 0 ≤ g → g < V B 3 - 1 → c g = if f ≤ g then O (B + 2) (g + 1) else O (B + 2) g) : SX B V' R (va_up O (B + 2) c) (up (up (up s 0 0) 9 (s 9 - 1)) 15 0) (upF A us kd sn pc) := by
  have hk := AP_hk (us := us) hI f0 f1 c1 c2 c3
  obtain ⟨⟨j1, j2⟩, jq⟩ := hQ
  obtain ⟨hL, ⟨g1, g2⟩, -, -⟩ := hS
  obtain ⟨⟨t0, t1, t2, t3, t4, t5, t6, t10⟩, -, -, -, -⟩ := hC.1
  obtain ⟨k1, k2, k3⟩ := m1
  have cases : ∀ g k, vp (up (up (up s 0 0) 9 (s 9 - 1)) 15 0) (upF A us kd sn pc) g k → ∃ g', g' = (if f ≤ g then g + 1 else g) ∧ g' ≠ f ∧ vp s A g' k ∧ pc (8 * g + k) = pcs A g' k := fun g k hv => by
    obtain ⟨a0, a1, b0, b1⟩ := hv
    have a1 : g < s 9 - 1 := a1
    obtain ⟨g', eg, x0, x1, x2, x3, x4⟩ := hk g a0 a1
    have b1 : k < sn g := b1
    rw [x3] at b1
    have a8 := (hI.2.2.2.2.1 g' x0 x1).2.2.2.1
    refine ⟨g', eg, fun e => ?_, ⟨x0, x1, b0, b1⟩, x4 k b0 (by clear hk c1 c2 c3 x4; lia)⟩
    rw [e] at eg
    clear hk c1 c2 c3 x4
    by_cases q : f ≤ g
    · rw [if_pos q] at eg; have := hI.2.1; lia
    · rw [if_neg q] at eg; lia
  refine ⟨⟨fun a k a' k' hv hv' e => ?_, fun a k hv => ?_⟩, fun a a0 a1 => ?_⟩
  · have e : pc (8 * a + k) = pc (8 * a' + k') := e
    obtain ⟨x, ex, x1, x2, x3⟩ := cases a k hv
    obtain ⟨y, ey, y1, y2, y3⟩ := cases a' k' hv'
    rw [x3, y3] at e
    obtain ⟨z1, z2⟩ := j1 x k y k' x2 y2 e
    refine ⟨?_, z2⟩
    have v0 := hv.1
    have v1 : a < s 9 - 1 := hv.2.1
    have v0' := hv'.1
    have v1' : a' < s 9 - 1 := hv'.2.1
    have s9 := hI.2.1
    rw [z1, ey] at ex
    clear hk c1 c2 c3 cases e x3 y3 x2 y2 hv hv'
    by_cases q : f ≤ a
    · by_cases q' : f ≤ a'
      · rw [if_pos q, if_pos q'] at ex; lia
      · rw [if_pos q, if_neg q'] at ex; lia
    · by_cases q' : f ≤ a'
      · rw [if_neg q, if_pos q'] at ex; lia
      · rw [if_neg q, if_neg q'] at ex; exact ex.symm
  · show us (pc (8 * a + k)) ≠ 0
    obtain ⟨x, ex, x1, x2, x3⟩ := cases a k hv
    rw [x3, hU.2 _ (fun k' b0 b1 e => x1 (j1 f k' x k ⟨f0, f1, b0, b1⟩ x2 e).1.symm)]
    exact j2 x k x2
  · have a1 : a < s 9 - 1 := a1
    obtain ⟨g', eg, x0, x1, x2, x3, x4⟩ := hk a a0 a1
    have oc : c a = O (B + 2) g' := by
      rw [m4 a a0 (by rw [g1]; exact a1), eg]
      by_cases q : f ≤ a
      · rw [if_pos q, if_pos q]
      · rw [if_neg q, if_neg q]
    have el : la c a = la (O (B + 2)) g' := by unfold la; rw [oc]
    have fp : fpc B R (va_up O (B + 2) c) a = fpc B R O g' := by unfold fpc; rw [vup_s, el]
    obtain ⟨ta, ea, ra, tp, hn, hq⟩ := hC.fc x0 (by rw [g1]; exact x1)
    obtain ⟨tq, -⟩ := hq 0 (by decide) (by clear hk c1 c2 c3 hq x4; lia)
    rw [fp, vup_n (fun e => by rw [e, t2] at tp; cases tp), m2 _ 3 (Or.inl (fun e => by rw [e, t0] at tq; cases tq)) (Or.inr (by decide)), m2 _ 4 (Or.inr (by decide)) (Or.inr (by decide)), k1 _ 3 (Or.inr (by decide)), k1 _ 4 (Or.inr (by decide))]
    exact jq g' x0 x1
theorem st_match {a b : Int32} (h : LL B g w sz) : OK (f_Law_match w sz (some B) a b (some (B + 28))) (fun q => OK ((xo q.2.1 (some (B + 11)) 5).bind fun b_9 => f_Mod_match q.2.1 b_9 a b) (fun q2 => LL B g q2.2 q.2.2 ∧ CM B q.1 q2.2 q2.1.toInt64)) := by
  obtain ⟨T, K, V, R, I, O, N, a5, a6, a7, s, A, hX⟩ := h.get
  obtain ⟨h1, h2, h3, h4, h5, h6, hM, hI, hO, hS, hQ⟩ := id hX
  have fc := hS.2.1.1
  have ce := cnt_eq hS.1
  have s9 := hI.2.1
  have kb := KP_PL (I := I) h2 (fun _ _ _ => rfl : PL T V V)
  have rowk : ∀ (rs c : Int32) (r : Int32 → Int32) {V' : Nat → Nat → Int32} {R' : Nat → Nat → Option Nat} {I' : Nat → Int32 → Int32} {O' : Nat → Int32 → Option Nat} {N' : Nat → Int32}, SIM B V' R' I' O' N' s A → SIM B V' R' I' O' N' (up (up s 18 rs) 0 c) (upR A r) := fun rs c r _ _ _ _ _ hs => hs.ref rfl rfl rfl (fun k hk => by simp [upR, Nat.ne_of_lt (Nat.lt_of_lt_of_le hk (by decide : 15 ≤ 19))])
  have rowq : ∀ (rs c : Int32) (r : Int32 → Int32) {V' : Nat → Nat → Int32} {R' : Nat → Nat → Option Nat} {O' : Nat → Int32 → Option Nat}, SX B V' R' O' s A → SX B V' R' O' (up (up s 18 rs) 0 c) (upR A r) := fun rs c r _ _ _ hs => hs.ref rfl rfl rfl rfl
  have mik : ∀ (rs c : Int32) (r : Int32 → Int32), MI (up (up s 18 rs) 0 c) (upR A r) := fun rs c r => MI_congr hI rfl rfl rfl rfl rfl rfl rfl rfl rfl rfl rfl
  unfold f_Law_match
  refine c_xo h1 h2.1.1.1 (by decide) (OK.call (n_match h1 h2 h3 h4) (fun q hq => ?_))
  rcases hq with ⟨c1, rfl⟩ | ⟨fl, ⟨c1, c2, c3, c4, c5⟩, ⟨c6, rfl⟩ | ⟨c, hG, ⟨c6, c7, e1, e2, m1⟩ | ⟨c6, c7, e1, e2, T', V1, V', R', O', m1, m2, m3, p1, p2, p3, p4, p5, p6, p7, p8, p9, -, p11⟩⟩⟩
  · refine sw_r (OK.ifP rfl (OK.ret (k_xo hM <| (m_match hM hI).mono (fun q2 hq2 => ?_))))
    obtain ⟨fl, rs, r, ⟨f1, f2, f3, f4, f5, f6, f7, f8⟩, hq2⟩ := hq2
    have no : s 9 = 8 ∨ fl = 4 := by
      rcases c1 with d | d
      · left; rw [fc] at d; clear f1 f7; lia
      · right
        by_cases e : fl = 4
        · exact e
        · have x := d fl f5 (by clear f1 f7 d; lia)
          rw [ce, ← f2] at x
          have y := f8 (by clear f1 f7 d; lia)
          clear f1 f7 d
          exact absurd x (by lia)
    rcases hq2 with ⟨-, e⟩ | ⟨d1, -⟩ | ⟨d1, -⟩ | ⟨d1, -⟩
    · exact ⟨LL.fin (CX.of h1 hO) h2 (h3.le (by show sz ≤ sz + 1; omega)) (by show B + 29 ≤ sz + 1; omega) h5 h6 e (mik _ _ _) (rowk _ _ _ hS) (rowq _ _ _ hQ), CM.no e rfl (by first | exact ne1 | exact ne2 | exact ne3)⟩
    · exact absurd no d1
    · exact absurd no d1
    · exact absurd no d1
  · refine sw_r (OK.ifN (by decide) (OK.ifP rfl (OK.ret (k_xo hM <| (m_match hM hI).mono (fun q2 hq2 => ?_)))))
    obtain ⟨fl', rs, r, ⟨f1, f2, f3, f4, f5, f6, f7, f8⟩, hq2⟩ := hq2
    have no : ¬ (s 9 = 8 ∨ fl' = 4) := fun d => by
      rw [fc] at c1
      rcases d with d | d
      · clear f1 f7 c5; exact absurd c1 (by lia)
      · have x := f7 fl c2 (by rw [d]; exact c3)
        rw [ce] at c4
        clear f1 f7 c5; exact absurd x (by lia)
    rcases hq2 with ⟨d1, e⟩ | ⟨-, -, e⟩ | ⟨-, d2, -⟩ | ⟨-, d2, -⟩
    · exact absurd d1 no
    · exact ⟨LL.fin (CX.of h1 hO) h2 (h3.le (by show sz ≤ sz + 1; omega)) (by show B + 29 ≤ sz + 1; omega) h5 h6 e (mik _ _ _) (rowk _ _ _ hS) (rowq _ _ _ hQ), CM.no e rfl (by first | exact ne1 | exact ne2 | exact ne3)⟩
    · exact absurd d2 c6
    · exact absurd d2 c6
  · rw [e1, e2]
    refine sw_l ((CX.of m1 hO).put (fun w2 hx hf => OK.ret (k_xo (hx.mod hM) <| (m_match (hx.mod hM) hI).mono (fun q2 hq2 => ?_))))
    obtain ⟨fl', rs, r, ⟨f1, f2, f3, f4, f5, f6, f7, f8⟩, hq2⟩ := hq2
    have no : ¬ (s 9 = 8 ∨ fl' = 4) := fun d => by
      rw [fc] at c1
      rcases d with d | d
      · clear f1 f7 c5 hG; exact absurd c1 (by lia)
      · have x := f7 fl c2 (by rw [d]; exact c3)
        rw [ce] at c4
        clear f1 f7 c5 hG; exact absurd x (by lia)
    have fe : fl' = fl := by
      have f4' : fl' ≠ 4 := fun z => no (Or.inr z)
      have y := f8 (by clear f1 f7 c5 hG; lia)
      by_cases x : fl' < fl
      · have q := c5 fl' f5 x
        rw [ce, ← f2] at q
        clear f1 f7 c5 hG; exact absurd q (by lia)
      · by_cases x2 : fl < fl'
        · have q := f7 fl c2 x2
          rw [ce] at c4
          clear f1 f7 c5 hG; exact absurd q (by lia)
        · clear f1 f7 c5 hG; lia
    subst fe
    have nr := f8 c3
    have hc : ∀ j, 0 ≤ j → j < b → c j = O (B + 1) (r j) ∧ 0 ≤ r j ∧ r j < s 1 := fun j j0 j1 => gat_eq hI hS.1 hG f1 f2 j0 (by clear f1 f7 c5 hG; lia)
    have br := brk_iff hS.1 hc c6.2.2.2.1
    rcases hq2 with ⟨d1, e⟩ | ⟨-, d2, e⟩ | ⟨-, d2, d3, ev, e⟩ | ⟨-, d2, d3, -⟩
    · exact absurd d1 no
    · exact absurd c6 d2
    · have hs := hS.keep (V' := V) (R' := R) (I' := I) (O' := va_up O (B + 10) c) (N' := N) h2 ⟨fun _ _ _ => rfl, fun _ _ _ _ => rfl, fun _ _ => rfl, ⟨rfl, rfl, rfl⟩, fun _ _ _ => rfl, fun _ _ _ => rfl, fun a _ na => vup_n na, fun _ _ => rfl⟩
      refine ⟨LL.fin hx (K := K) ?_ h3 h4 h5 h6 e (mik _ _ _) (rowk _ _ _ hs) (rowq _ _ _ (SX.keep h2 hS.2.1.1 hQ (fun _ _ => rfl) (vup_n (by omega)) (fun x tx => vup_n (fun z => by rw [z, h2.1.1.2.2.2.2.2.2.2] at tx; cases tx)) (fun _ _ => ⟨rfl, rfl⟩))), CM.yes e rfl (by rw [ev]; exact hf)⟩
      obtain ⟨i1, i2, i3, i4, ⟨i5, i6⟩, ⟨i7, i8⟩, i9⟩ := h2
      refine ⟨i1, i2, i3, fun x tx => ?_, ⟨i5, fun i x0 x1 => by rw [vup_n (by omega)]; exact i6 i x0 x1⟩, ⟨i7, fun i x0 x1 => by rw [vup_n (by omega)]; exact i8 i x0 x1⟩, i9⟩
      obtain ⟨p, q1, q2, q3, q4, q5, q6⟩ := i4 x tx
      refine ⟨p, q1, q2, q3, q4, q5, fun k k0 k1 => ?_⟩
      rw [vup_n (fun z => by rw [z, i1.1.2.2.2.2.2.2.2] at q2; cases q2)]
      exact q6 k k0 k1
    · exact absurd (br.mp c7) d3
  · rw [e1, e2]
    refine sw_l ((CX.of m1 hO).put (fun w2 hx hf => OK.ret (k_xo (hx.mod hM) <| (m_match (hx.mod hM) hI).mono (fun q2 hq2 => ?_))))
    obtain ⟨fl', rs, r, hFL, hq2⟩ := hq2
    obtain ⟨f1, f2, f3, f4, f5, f6, f7, f8⟩ := id hFL
    have no : ¬ (s 9 = 8 ∨ fl' = 4) := fun d => by
      rw [fc] at c1
      rcases d with d | d
      · clear f1 f7 c5 hG hFL p4; exact absurd c1 (by lia)
      · have x := f7 fl c2 (by rw [d]; exact c3)
        rw [ce] at c4
        clear f1 f7 c5 hG hFL p4; exact absurd x (by lia)
    have fe : fl' = fl := by
      have f4' : fl' ≠ 4 := fun z => no (Or.inr z)
      have y := f8 (by clear f1 f7 c5 hG hFL p4; lia)
      by_cases x : fl' < fl
      · have q := c5 fl' f5 x
        rw [ce, ← f2] at q
        clear f1 f7 c5 hG hFL p4; exact absurd q (by lia)
      · by_cases x2 : fl < fl'
        · have q := f7 fl c2 x2
          rw [ce] at c4
          clear f1 f7 c5 hG hFL p4; exact absurd q (by lia)
        · clear f1 f7 c5 hG hFL p4; lia
    subst fe
    have nr := f8 c3
    have hc : ∀ j, 0 ≤ j → j < b → c j = O (B + 1) (r j) ∧ 0 ≤ r j ∧ r j < s 1 := fun j j0 j1 => gat_eq hI hS.1 hG f1 f2 j0 (by clear f1 f7 c5 hG hFL p4; lia)
    have br := brk_iff hS.1 hc c6.2.2.2.1
    rcases hq2 with ⟨d1, e⟩ | ⟨-, d2, e⟩ | ⟨-, d2, d3, -⟩ | ⟨-, d2, d3, ev, pc, us, e, hP⟩
    · exact absurd d1 no
    · exact absurd c6 d2
    · exact absurd (br.mpr d3) c7
    · have t3 := h2.1.1.2.2.2.1
      refine ⟨LL.fin hx m2 m3 (by show B + 29 ≤ sz + 2 + b.toNatClampNeg; omega) (EL.ext h2.1 h5 (p1 (B + 3) (by omega)).2 (fun x hx => vup_n (fun z => hx (h3 x (by omega))))) h6 e (MI_match hI hFL no d2 hP) (SIM_match h2 hI h3 h4 hS (fun z => no (Or.inl z)) c6.2.2.1 c6.2.2.2.1 hc hP p1 p2 p3 p4 p5 p6 p7 p8 p9 p11) (SX_match h2 hI h3 h4 hS hQ (fun z => no (Or.inl z)) c6.2.2.1 c6.2.2.2.1 hc (fun j j0 j1 => ?_) (m := posM s A fl') (fun j j0 j1 => (f1 j j0 (by clear f1 f7 c5 hG hFL p4; lia)).2.2.2) hP p1 p2 p3 p4 p5 p7 p9 p11), CM.yes e rfl ?_⟩
      · obtain ⟨-, -, r2, -⟩ := f1 j j0 (by clear f1 f7 c5 hG hFL p4; lia)
        unfold frb at r2
        rw [Bool.and_eq_true, Bool.and_eq_true] at r2
        exact eq_of_beq r2.2.1
      obtain ⟨f, g1, g2⟩ := hf
      exact ⟨f, g1, by rw [g2, ev, fc]⟩
theorem SIM_apart {f : Int32} {us kd sn pc : Int32 → Int32} {c : Int32 → Option Nat} {V1 V' : Nat → Nat → Int32} (hC : CI B T K V R O N) (hI : MI s A) (hS : SIM B V R I O N s A) (f0 : 0 ≤ f) (f1 : f < s 9) (hU : US A f (A 11 f) us) (c1 : shf (A 10) kd f (s 9 - 1) 1) (c2 : shf (A 11) sn f (s 9 - 1) 1) (c3 : shf (A 12) pc (8 * f) (8 * s 9 - 8) 8) (m1 : MK T R O (fpc B R O f) 0 (N (fpc B R O f)) V V1) (m2 : ∀ a j, (a ≠ B ∨ j ≠ 3) → (a ≠ B + 3 ∨ j ≠ 2) → V' a j = V1 a j) (m3 : V' B 3 = V B 3 - 1) (m4 : ∀ g, 0 ≤ g → g < V B 3 - 1 → c g = if f ≤ g then O (B + 2) (g + 1) else O (B + 2) g) : SIM B V' R I (va_up O (B + 2) c) N (up (up (up s 0 0) 9 (s 9 - 1)) 15 0) (upF A us kd sn pc) := by
  have hk := AP_hk (us := us) hI f0 f1 c1 c2 c3
  obtain ⟨hL, ⟨g1, g2⟩, ⟨w1, w2⟩, z⟩ := hS
  obtain ⟨⟨t0, t1, t2, t3, t4, t5, t6, t10⟩, -, -, ⟨kw, -, -⟩, -⟩ := hC.1
  have l1 := hL.1
  obtain ⟨k1, k2, k3⟩ := m1
  have n3 : ∀ a, T a ≠ 4 → a ≠ B + 3 := fun a ha e => ha (by rw [e]; exact t3)
  have nB : ∀ a, T a ≠ 0 → a ≠ B := fun a ha e => ha (by rw [e]; exact t0)
  obtain ⟨e1, e2, e3⟩ := g2 f f0 f1
  have lfe : ∀ k, 0 ≤ k → k < A 11 f → lfp R O (fpc B R O f) k = la (O (B + 1)) (pcs A f k) := fun k k0 kn => by
    unfold lfp
    rw [(e3 k k0 kn).2.2]
    rfl
  have old : ∀ a j, T a ≠ 1 ∨ j ≠ 7 → (a ≠ B ∨ j ≠ 3) → (a ≠ B + 3 ∨ j ≠ 2) → V' a j = V a j := fun a j h1 h2 h3 => by
    rw [m2 a j h2 h3, k1 a j h1]
  refine ⟨SL_mod hC hL (old B 1 (Or.inr (by decide)) (Or.inr (by decide)) (Or.inr (by decide))) (vup_n (by omega)) (fun a j ta j6 j7 => old a j (Or.inr j7) (Or.inl (nB a (by rw [ta]; decide))) (Or.inl (n3 a (by rw [ta]; decide)))) (fun a ta => rfl) (fun _ _ _ => rfl) rfl rfl rfl rfl rfl rfl (fun i a0 a1 => ?_), ⟨by rw [m3, g1]; rfl, fun f' b0 b1 => ?_⟩, ⟨by rw [old (B + 3) 1 (Or.inr (by decide)) (Or.inr (by decide)) (Or.inr (by decide))]; exact w1, w2⟩, fun i a0 a1 => ?_, z.2⟩
  · obtain ⟨ta, ea, va⟩ := hC.lf a0 (by rw [l1]; exact a1)
    obtain ⟨⟨-, -, -, -, e5, e6⟩, -⟩ := hL.2 i a0 a1
    refine ⟨by rw [old _ 6 (Or.inr (by decide)) (Or.inr (by decide)) (Or.inr (by decide))]; exact e5, ?_⟩
    show V' (la (O (B + 1)) i) 7 = us i
    rw [m2 _ 7 (Or.inr (by decide)) (Or.inr (by decide))]
    by_cases c9 : ∃ k, 0 ≤ k ∧ k < A 11 f ∧ pcs A f k = i
    · obtain ⟨k, k0, kn, ek⟩ := c9
      have := k2 k k0 (by rw [e2]; exact kn)
      rw [lfe k k0 kn, ek] at this
      rw [this, ← ek]
      exact (hU.1 k k0 kn).symm
    · rw [k3 _ (fun k k0 kn e => c9 ⟨k, k0, by rw [← e2]; exact kn, ?_⟩), hU.2 i (fun k k0 kn e => c9 ⟨k, k0, kn, e⟩)]
      · exact e6
      · rw [e2] at kn
        rw [lfe k k0 kn] at e
        have b := hI.2.2.2.2.2.1 f k f0 f1 k0 kn
        exact lf_inj hC b.1 (by rw [l1]; exact b.2) a0 (by rw [l1]; exact a1) e
  · have b1 : f' < s 9 - 1 := b1
    obtain ⟨g', eg, x0, x1, x2, x3, x4⟩ := hk f' b0 b1
    have oc : c f' = O (B + 2) g' := by
      rw [m4 f' b0 (by rw [g1]; exact b1), eg]
      by_cases q : f ≤ f'
      · rw [if_pos q, if_pos q]
      · rw [if_neg q, if_neg q]
    rw [vup_s]
    have el : la c f' = la (O (B + 2)) g' := by unfold la; rw [oc]
    have fp : fpc B R (va_up O (B + 2) c) f' = fpc B R O g' := by unfold fpc; rw [vup_s, el]
    obtain ⟨ta, ea, ra, tp, hn, hq⟩ := hC.fc x0 (by rw [g1]; exact x1)
    obtain ⟨d1, d2, d3⟩ := g2 g' x0 x1
    have a8 := (hI.2.2.2.2.1 g' x0 x1).2.2.2.1
    rw [el, fp]
    have b10 : upF A us kd sn pc 10 f' = A 10 g' := x2
    have b11 : upF A us kd sn pc 11 f' = A 11 g' := x3
    unfold FE PE
    rw [b10, b11, vup_n (fun e => by rw [e, t2] at tp; cases tp), vup_n (show B + 1 ≠ B + 2 by omega)]
    refine ⟨by rw [old _ 0 (Or.inr (by decide)) (Or.inr (by decide)) (Or.inr (by decide))]; exact d1, d2, fun k k0 kn => ?_⟩
    obtain ⟨q1, q2, q3⟩ := d3 k k0 kn
    obtain ⟨tq, -⟩ := hq k k0 (by rw [d2]; exact kn)
    refine ⟨by rw [old _ 1 (Or.inr (by decide)) (Or.inr (by decide)) (Or.inr (by decide))]; exact q1, by rw [old _ 2 (Or.inr (by decide)) (Or.inr (by decide)) (Or.inl (n3 _ (by rw [tq]; decide)))]; exact q2, ?_⟩
    rw [q3]
    show O (B + 1) (pcs A g' k) = O (B + 1) (pc (8 * f' + k))
    rw [x4 k k0 (by clear hk c1 c2 c3 hq d3 q1 q2 q3; lia)]
  · have q := z.1 i a0 a1
    refine ⟨q.1, ?_, q.2.2⟩
    show us i = 0
    rw [hU.2 i (fun k k0 kn e => ?_)]
    · exact q.2.1
    · have := (hI.2.2.2.2.2.1 f k f0 f1 k0 kn).2
      have a0 : s 1 ≤ i := a0
      clear q
      rw [e] at this
      lia
theorem st_apart {a : Int32} (h : LL B g w sz) : OK (f_Law_apart w sz (some B) a (some (B + 28))) (fun q => OK ((xo q.2.1 (some (B + 11)) 5).bind fun b_9 => f_Mod_apart q.2.1 b_9 a) (fun q2 => LL B g q2.2 q.2.2 ∧ CM B q.1 q2.2 q2.1.toInt64)) := by
  obtain ⟨T, K, V, R, I, O, N, a5, a6, a7, s, A, hX⟩ := h.get
  obtain ⟨h1, h2, h3, h4, h5, h6, hM, hI, hO, hS, hQ⟩ := id hX
  have fc := hS.2.1.1
  unfold f_Law_apart
  refine c_xo h1 h2.1.1.1 (by decide) (OK.call (n_apart h1 h2) (fun q hq => ?_))
  rw [fc] at hq
  rcases hq with ⟨c1, rfl⟩ | ⟨c1, c2, e1, e2, V1, V', c, m1, m2, m3, m4, m5, m6⟩
  · refine sw_r (OK.ifP rfl (OK.ret (k_xo hM <| (m_apart hM hI).mono (fun q2 hq2 => ?_))))
    rcases hq2 with ⟨d1, e⟩ | ⟨d1, d2, -⟩
    · exact hX.no e (by first | exact ne1 | exact ne2 | exact ne3)
    · exact absurd ⟨d1, d2⟩ c1
  · rw [e1, e2]
    refine sw_l ((CX.of m5 hO).put (fun w2 hx hf => OK.ret (k_xo (hx.mod hM) <| (m_apart (hx.mod hM) hI).mono (fun q2 hq2 => ?_))))
    rcases hq2 with ⟨d1, e⟩ | ⟨d1, d2, ev, us, kd, sn, pc, e, hU, x1, x2, x3⟩
    · exact absurd ⟨c1, c2⟩ d1
    · exact ⟨LL.fin hx m6 h3 h4 h5 h6 e (MI_apart hI d1 d2 x1 x2 x3) (SIM_apart h2 hI hS d1 d2 hU x1 x2 x3 m1 m2 (by rw [fc]; exact m3) (by rw [fc]; exact m4)) (SX_apart h2 hI hS hQ d1 d2 hU x1 x2 x3 m1 m2 (by rw [fc]; exact m4)), CM.yes e rfl (by rw [ev]; exact hf)⟩
end SM5
