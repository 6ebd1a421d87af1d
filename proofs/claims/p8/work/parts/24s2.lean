/-! the tellings of leaves and of what is wanted, on both sides -/
section SM2
variable {B : Nat} {w0 w w' : Mp} {T K : Nat → Nat} {V V' : Nat → Nat → Int32} {R R' : Nat → Nat → Option Nat} {I I' : Nat → Int32 → Int32} {O O' : Nat → Int32 → Option Nat} {N N' : Nat → Int32} {s s' : Nat → Int32} {A A' : Nat → Int32 → Int32} {sz g : Nat} {β : Type} {P : β → Prop}
def LX (B g : Nat) (w : Mp) (sz : Nat) (T K : Nat → Nat) (V : Nat → Nat → Int32) (R : Nat → Nat → Option Nat) (I : Nat → Int32 → Int32) (O : Nat → Int32 → Option Nat) (N : Nat → Int32) (a5 a6 a7 : Int32) (s : Nat → Int32) (A : Nat → Int32 → Int32) : Prop := CW B w T V R I O N w ∧ CI B T K V R O N ∧ FR T sz ∧ B + 29 ≤ sz ∧ EL B R N a5 a6 a7 ∧ LB a5 a6 a7 g ∧ MW B w s A w ∧ MI s A ∧ LO B w ∧ SIM B V R I O N s A ∧ SX B V R O s A
theorem LL.get (h : LL B g w sz) : ∃ T K V R I O N a5 a6 a7 s A, LX B g w sz T K V R I O N a5 a6 a7 s A := h
theorem LX.no {a5 a6 a7 c : Int32} {x : Int64} {w3 : Mp} (h : LX B g w sz T K V R I O N a5 a6 a7 s A) (hM : MW B w (up s 0 c) A w3) (h0 : c ≠ 0) : LL B g w3 (sz + 1) ∧ CM B c w3 x := by
  obtain ⟨h1, h2, h3, h4, h5, h6, -, hI, hO, hS, hQ⟩ := h
  exact ⟨LL.fin (CX.of h1 hO) h2 (h3.le (by omega)) (by omega) h5 h6 hM (MI.sc rfl hI) (hS.code c) (hQ.code c), CM.no hM rfl h0⟩
theorem sw_r {α : Type} {k : Nat} {f : α → Option β} {gg : Nat → Option β} (hp : OK (gg k) P) : OK (xsw (.inr k) f gg) P := hp
theorem sw_l {α : Type} {v : α} {f : α → Option β} {gg : Nat → Option β} (hp : OK (f v) P) : OK (xsw (.inl v) f gg) P := hp
theorem SF_keep (hC : CI B T K V R O N) (hI : MI s A) (h : SF B V R O N s A) (v3 : V' B 3 = V B 3) (k3 : ∀ a, T a = 3 → V' a 0 = V a 0 ∧ R' a = R a) (k2 : ∀ a, T a = 2 → V' a 1 = V a 1 ∧ V' a 2 = V a 2 ∧ R' a = R a) (o2 : O' (B + 2) = O (B + 2)) (op : ∀ a, T a = tr 3 → O' a = O a ∧ N' a = N a) (o1 : ∀ i, 0 ≤ i → i < s 1 → O' (B + 1) i = O (B + 1) i) (s9 : s' 9 = s 9) (a10 : A' 10 = A 10) (a11 : A' 11 = A 11) (a12 : A' 12 = A 12) : SF B V' R' O' N' s' A' := by
  obtain ⟨f1, f2⟩ := h
  refine ⟨by rw [v3, s9]; exact f1, fun f f0 fb => ?_⟩
  rw [s9] at fb
  obtain ⟨ta, -, ra, tp, -, hk⟩ := hC.fc f0 (by rw [f1]; exact fb)
  obtain ⟨e1, e2, e3⟩ := f2 f f0 fb
  have fp : fpc B R' O' f = fpc B R O f := by unfold fpc; rw [o2, (k3 _ ta).2]
  rw [fp, o2]
  unfold FE PE
  rw [a10, a11, a12]
  refine ⟨by rw [(k3 _ ta).1]; exact e1, by rw [(op _ tp).2]; exact e2, fun k k0 k1 => ?_⟩
  obtain ⟨p1, p2, p3⟩ := e3 k k0 k1
  obtain ⟨tq, -⟩ := hk k k0 (by rw [e2]; exact k1)
  have b := hI.2.2.2.2.2.1 f k f0 fb k0 k1
  rw [(op _ tp).1]
  exact ⟨by rw [(k2 _ tq).1]; exact p1, by rw [(k2 _ tq).2.1]; exact p2, by rw [(k2 _ tq).2.2, p3]; exact (o1 _ b.1 b.2).symm⟩
theorem SL_mod (hC : CI B T K V R O N) (h : SL B V R I O s A) (v1 : V' B 1 = V B 1) (o1 : O' (B + 1) = O (B + 1)) (kv : ∀ a j, T a = 1 → j ≠ 6 → j ≠ 7 → V' a j = V a j) (kr : ∀ a, T a = 1 → R' a = R a) (ki : ∀ g, T g = 5 → 10 ≤ K g → I' g = I g) (s1 : s' 1 = s 1) (a2 : A' 2 = A 2) (a3 : A' 3 = A 3) (a4 : A' 4 = A 4) (a5 : A' 5 = A 5) (a8 : A' 8 = A 8) (hu : ∀ i, 0 ≤ i → i < s 1 → V' (la (O (B + 1)) i) 6 = A' 6 i ∧ V' (la (O (B + 1)) i) 7 = A' 7 i) : SL B V' R' I' O' s' A' := by
  obtain ⟨l1, l2⟩ := h
  refine ⟨by rw [v1, s1]; exact l1, fun i i0 i1 => ?_⟩
  rw [s1] at i1
  obtain ⟨ta, -, -⟩ := hC.lf i0 (by rw [l1]; exact i1)
  obtain ⟨⟨e1, e2, e3, e4, -, -⟩, e7⟩ := l2 i i0 i1
  obtain ⟨u6, u7⟩ := hu i i0 i1
  rw [o1]
  unfold LE
  rw [a2, a3, a4, a5, a8]
  refine ⟨⟨?_, ?_, ?_, ?_, u6, u7⟩, fun g x y hg x0 x1 y0 y1 => ?_⟩
  · rw [kv _ 1 ta (by decide) (by decide)]; exact e1
  · rw [kv _ 2 ta (by decide) (by decide)]; exact e2
  · rw [kv _ 3 ta (by decide) (by decide)]; exact e3
  · rw [kv _ 4 ta (by decide) (by decide)]; exact e4
  · rw [kr _ ta] at hg
    obtain ⟨-, -, g', g1, g2, -, g3⟩ := hC.2.1 _ ta
    rw [hg] at g1; cases g1
    rw [ki g g2 (by rw [g3]; omega)]
    exact e7 g x y hg x0 x1 y0 y1
theorem same_iff (h : SL B V R I O s A) {a b : Int32} : csame B V O a b ↔ msame s A a b := by
  obtain ⟨l1, l2⟩ := h
  constructor
  · rintro ⟨k, k0, k1, e1, e2⟩
    rw [l1] at k1
    obtain ⟨⟨f1, f2, -⟩, -⟩ := l2 k k0 k1
    exact ⟨k, k0, k1, f1.symm.trans e1, f2.symm.trans e2⟩
  · rintro ⟨k, k0, k1, e1, e2⟩
    obtain ⟨⟨f1, f2, -⟩, -⟩ := l2 k k0 k1
    exact ⟨k, k0, by rw [l1]; exact k1, f1.trans e1, f2.trans e2⟩
theorem SIM_leaf {fl nu wd hg : Int32} (hC : CI B T K V R O N) (hI : MI s A) (hF : FR T sz) (hz : B + 29 ≤ sz) (hS : SIM B V R I O N s A) (n32 : s 1 ≠ 32) (d1 : wd ≤ 12) (d2 : hg ≤ 12) (hv : V' sz = lv0 (V B 1) fl nu wd hg) (v1 : V' B 1 = V B 1 + 1) (hk : ∀ a j, a ≠ sz → (a ≠ B ∨ j ≠ 1) → (a ≠ B + 3 ∨ j ≠ 2) → V' a j = V a j) : SIM B V' (va_up R sz (upr (fun _ => none) 5 (some (sz + 1)))) (va_up I (sz + 1) (fun _ => 0)) (va_up O (B + 1) (fun y => if y = V B 1 then some sz else O (B + 1) y)) (va_up N (sz + 1) (wd * hg)) (up (up (up s 0 0) 1 (s 1 + 1)) 15 0) (upA (upA (upA (upA A 2 (s 1) fl) 3 (s 1) nu) 4 (s 1) wd) 5 (s 1) hg) := by
  obtain ⟨hL, hSF, ⟨w1, w2⟩, z⟩ := hS
  obtain ⟨l1, l2⟩ := hL
  obtain ⟨⟨t0, t1, t2, t3, t4, t5, t6, t10⟩, -, -, ⟨kw, -, -⟩, -⟩ := hC.1
  have nz : ∀ a, T a ≠ 10 → a ≠ sz ∧ a ≠ sz + 1 := fun a ha => ⟨fun e => ha (hF a (by omega)), fun e => ha (hF a (by omega))⟩
  have b32 := hI.1
  refine ⟨⟨by rw [v1, l1]; rfl, fun i i0 i1 => ?_⟩, ?_, ⟨?_, fun i i0 i1 => ?_⟩, fun i i0 i1 => ?_, z.2⟩
  · have i1 : i < s 1 + 1 := i1
    rw [vup_s]
    by_cases e : i = s 1
    · subst e
      have el : la (fun y => if y = V B 1 then some sz else O (B + 1) y) (s 1) = sz := la_s l1.symm
      rw [el]
      refine ⟨⟨?_, ?_, ?_, ?_, ?_, ?_⟩, fun g x y hgg x0 x1 y0 y1 => ?_⟩
      · rw [hv]; simp [lv0, up, upA]
      · rw [hv]; simp [lv0, up, upA]
      · rw [hv]; simp [lv0, up, upA]
      · rw [hv]; simp [lv0, up, upA]
      · rw [hv]; simp [lv0, up, upA]; exact (z.1 (s 1) (Int32.le_refl _) (by lia)).1.symm
      · rw [hv]; simp [lv0, up, upA]; exact (z.1 (s 1) (Int32.le_refl _) (by lia)).2.1.symm
      · rw [vup_s] at hgg
        have hgg : (if 5 = 5 then some (sz + 1) else none) = some g := hgg
        rw [if_pos rfl] at hgg
        cases hgg
        rw [vup_s]
        have e4 : upA (upA (upA (upA A 2 (s 1) fl) 3 (s 1) nu) 4 (s 1) wd) 5 (s 1) hg 4 (s 1) = wd := by simp [upA]
        have e5 : upA (upA (upA (upA A 2 (s 1) fl) 3 (s 1) nu) 4 (s 1) wd) 5 (s 1) hg 5 (s 1) = hg := by simp [upA]
        rw [e4] at x1
        rw [e5] at y1
        exact ((z.1 (s 1) (Int32.le_refl _) (by lia)).2.2 x y x0 (by lia) y0 (by lia)).symm
    · have i2 : i < s 1 := by lia
      obtain ⟨ta, ea, -⟩ := hC.lf i0 (by rw [l1]; exact i2)
      obtain ⟨⟨e1, e2, e3, e4, e5, e6⟩, e7⟩ := l2 i i0 i2
      have el : la (fun y => if y = V B 1 then some sz else O (B + 1) y) i = la (O (B + 1)) i := la_n (by rw [l1]; exact e)
      have na := nz _ (show T (la (O (B + 1)) i) ≠ 10 by rw [ta]; decide)
      have hv2 : ∀ j, V' (la (O (B + 1)) i) j = V (la (O (B + 1)) i) j := fun j => hk _ j na.1 (Or.inl (fun z => by rw [z, t0] at ta; cases ta)) (Or.inl (fun z => by rw [z, t3] at ta; cases ta))
      rw [el]
      refine ⟨⟨?_, ?_, ?_, ?_, ?_, ?_⟩, fun g x y hgg x0 x1 y0 y1 => ?_⟩
      · rw [hv2]; simp [upA, e]; exact e1
      · rw [hv2]; simp [upA, e]; exact e2
      · rw [hv2]; simp [upA, e]; exact e3
      · rw [hv2]; simp [upA, e]; exact e4
      · rw [hv2]; simp [upA]; exact e5
      · rw [hv2]; simp [upA]; exact e6
      · rw [vup_n na.1] at hgg
        obtain ⟨-, -, g', g1, g2, -, g3⟩ := hC.2.1 _ ta
        rw [hgg] at g1; cases g1
        have ng := nz g (by rw [g2]; decide)
        rw [vup_n ng.2]
        have e4' : upA (upA (upA (upA A 2 (s 1) fl) 3 (s 1) nu) 4 (s 1) wd) 5 (s 1) hg 4 i = A 4 i := by simp [upA, e]
        have e5' : upA (upA (upA (upA A 2 (s 1) fl) 3 (s 1) nu) 4 (s 1) wd) 5 (s 1) hg 5 i = A 5 i := by simp [upA, e]
        rw [e4'] at x1 ⊢
        rw [e5'] at y1
        exact e7 g x y hgg x0 x1 y0 y1
  · refine SF_keep hC hI hSF (hk B 3 (by omega) (Or.inr (by decide)) (Or.inl (by omega))) (fun a ta => ?_) (fun a ta => ?_) (vup_n (by omega)) (fun a ta => ?_) (fun i i0 i1 => ?_) rfl rfl rfl rfl
    · have na := nz a (by rw [ta]; decide)
      exact ⟨hk a 0 na.1 (Or.inr (by decide)) (Or.inr (by decide)), vup_n na.1⟩
    · have na := nz a (by rw [ta]; decide)
      exact ⟨hk a 1 na.1 (Or.inl (fun z => by rw [z, t0] at ta; cases ta)) (Or.inr (by decide)), hk a 2 na.1 (Or.inr (by decide)) (Or.inl (fun z => by rw [z, t3] at ta; cases ta)), vup_n na.1⟩
    · have na := nz a (by rw [ta]; decide)
      exact ⟨vup_n (fun z => by rw [z, t1] at ta; cases ta), vup_n na.2⟩
    · rw [vup_s, if_neg (by rw [l1]; lia)]
  · rw [hk (B + 3) 1 (by omega) (Or.inl (by omega)) (Or.inr (by decide))]; exact w1
  · rw [vup_n (by omega)]; exact w2 i i0 i1
  · have i0 : s 1 + 1 ≤ i := i0
    exact z.1 i (by lia) i1
theorem st_leaf {a b c d : Int32} (h : LL B g w sz) : OK (f_Law_leaf w sz (some B) a b c d (some (B + 28))) (fun q => OK ((xo q.2.1 (some (B + 11)) 5).bind fun b_9 => f_Mod_leaf q.2.1 b_9 a b c d) (fun q2 => LL B g q2.2 q.2.2 ∧ CM B q.1 q2.2 q2.1.toInt64)) := by
  obtain ⟨T, K, V, R, I, O, N, a5, a6, a7, s, A, hX⟩ := h.get
  obtain ⟨h1, h2, h3, h4, h5, h6, hM, hI, hO, hS, hQ⟩ := id hX
  have sm := same_iff hS.1 (a := a) (b := b)
  have lc := hS.1.1
  have b32 := hI.1
  unfold f_Law_leaf
  refine c_xo h1 h2.1.1.1 (by decide) (OK.call (n_leaf h1 h2 h3 h4) (fun q hq => ?_))
  rcases hq with ⟨c1, rfl⟩ | ⟨c1, c2, c3, rfl⟩ | ⟨c1, c2, c3, e1, e2, V', m1, m2, m3, m4, m5⟩
  · refine sw_r (OK.ifP rfl (OK.ret (k_xo hM <| (m_leaf hM hI).mono (fun q2 hq2 => ?_))))
    rcases hq2 with ⟨d1, e⟩ | ⟨d1, d2, d3, e⟩ | ⟨d1, d2, d3, e, -⟩
    · exact hX.no e (by first | exact ne1 | exact ne2 | exact ne3)
    · exact absurd c1 (fun z => z.elim (fun z => z (by rw [lc]; clear sm; lia)) (fun z => d2 (sm.mp z)))
    · exact absurd c1 (fun z => z.elim (fun z => z (by rw [lc]; clear sm; lia)) (fun z => d2 (sm.mp z)))
  · refine sw_r (OK.ifN (by decide) (OK.ifP rfl (OK.ret (k_xo hM <| (m_leaf hM hI).mono (fun q2 hq2 => ?_)))))
    rcases hq2 with ⟨d1, e⟩ | ⟨d1, d2, d3, e⟩ | ⟨d1, d2, d3, e, -⟩
    · exact absurd d1 (fun z => z.elim (fun z => by rw [lc, z] at c1; exact absurd c1 (by decide)) (fun z => c2 (sm.mpr z)))
    · exact hX.no e (by first | exact ne1 | exact ne2 | exact ne3)
    · exact absurd d3 c3
  · rw [e1, e2]
    refine sw_l ((CX.of m1 hO).put (fun w2 hx hf => OK.ret (k_xo (hx.mod hM) <| (m_leaf (hx.mod hM) hI).mono (fun q2 hq2 => ?_))))
    rcases hq2 with ⟨d1, e⟩ | ⟨d1, d2, d3, e⟩ | ⟨d1, d2, d3, e, ev⟩
    · exact absurd d1 (fun z => z.elim (fun z => by rw [lc, z] at c1; exact absurd c1 (by decide)) (fun z => c2 (sm.mpr z)))
    · exact absurd c3 d3
    · obtain ⟨g1, g2, g3, g4, g5, g6, g7, g8⟩ := d3
      refine ⟨LL.fin hx m2 (fun x hx => ?_) (by show B + 29 ≤ sz + 2; omega) (EL.ext h2.1 h5 (vup_n (by omega)) (fun x hx => vup_n (fun z => hx (h3 x (by omega))))) h6 e (MI_leaf hI d1 g1 g2 g3 g4 g5 g6 g7 g8) (SIM_leaf h2 hI h3 h4 hS d1 g6 g8 m3 m4 m5) ?_, CM.yes e rfl ?_⟩
      · have hx : sz + 2 ≤ x := hx
        rw [vup_n (by omega), vup_n (by omega)]
        exact h3 x (by omega)
      · have nz : ∀ a, T a ≠ 10 → a ≠ sz := fun a ha e => ha (h3 a (by omega))
        obtain ⟨⟨t0, t1, t2, t3, -⟩, -⟩ := h2.1
        refine SX.ref (SX.keep h2 hS.2.1.1 hQ (fun x tx => vup_n (nz x (by rw [tx]; decide))) (vup_n (by omega)) (fun x tx => vup_n (fun e => by rw [e, t1] at tx; cases tx)) (fun x tx => ⟨m5 x 3 (nz x (by rw [tx]; decide)) (Or.inr (by decide)) (Or.inr (by decide)), m5 x 4 (nz x (by rw [tx]; decide)) (Or.inr (by decide)) (Or.inr (by decide))⟩)) rfl rfl rfl rfl
      · obtain ⟨f, f1, f2⟩ := hf
        exact ⟨f, f1, by rw [f2, ev, lc]⟩
theorem px_inj {w x y x' y' : Int32} (w0 : 1 ≤ w) (w1 : w ≤ 12) (x0 : 0 ≤ x) (x1 : x < w) (y0 : 0 ≤ y) (y1 : y < 12) (x0' : 0 ≤ x') (x1' : x' < w) (y0' : 0 ≤ y') (y1' : y' < 12) (h : y * w + x = y' * w + x') : x = x' ∧ y = y' := by
  have hw : w = 1 ∨ w = 2 ∨ w = 3 ∨ w = 4 ∨ w = 5 ∨ w = 6 ∨ w = 7 ∨ w = 8 ∨ w = 9 ∨ w = 10 ∨ w = 11 ∨ w = 12 := by clear h x1 x1'; lia
  rcases hw with rfl | rfl | rfl | rfl | rfl | rfl | rfl | rfl | rfl | rfl | rfl | rfl <;> constructor <;> lia
theorem px_ref {i i' x y x' y' : Int32} (i0 : 0 ≤ i) (i1 : i < 32) (i0' : 0 ≤ i') (i1' : i' < 32) (x0 : 0 ≤ x) (x1 : x < 12) (y0 : 0 ≤ y) (y1 : y < 12) (x0' : 0 ≤ x') (x1' : x' < 12) (y0' : 0 ≤ y') (y1' : y' < 12) (h : 144 * i + 12 * y + x = 144 * i' + 12 * y' + x') : i = i' ∧ x = x' ∧ y = y' := by
  refine ⟨?_, ?_, ?_⟩ <;> lia
end SM2
