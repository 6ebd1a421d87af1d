/-! CLASS AND REFERENCE TOGETHER: leaf by leaf, face by face, what is wanted -/
def LE (V : Nat → Nat → Int32) (R : Nat → Nat → Option Nat) (I : Nat → Int32 → Int32) (a : Nat) (A : Nat → Int32 → Int32) (i : Int32) : Prop :=
  (V a 1 = A 2 i ∧ V a 2 = A 3 i ∧ V a 3 = A 4 i ∧ V a 4 = A 5 i ∧ V a 6 = A 6 i ∧ V a 7 = A 7 i) ∧ ∀ g x y, R a 5 = some g → 0 ≤ x → x < A 4 i → 0 ≤ y → y < A 5 i → I g (y * A 4 i + x) = A 8 (144 * i + 12 * y + x)
def SL (B : Nat) (V : Nat → Nat → Int32) (R : Nat → Nat → Option Nat) (I : Nat → Int32 → Int32) (O : Nat → Int32 → Option Nat) (s : Nat → Int32) (A : Nat → Int32 → Int32) : Prop := V B 1 = s 1 ∧ ∀ i, 0 ≤ i → i < s 1 → LE V R I (la (O (B + 1)) i) A i
def PE (B : Nat) (V : Nat → Nat → Int32) (R : Nat → Nat → Option Nat) (O : Nat → Int32 → Option Nat) (q : Nat) (A : Nat → Int32 → Int32) (f k : Int32) : Prop := V q 1 = cmir (A 10 f) k ∧ V q 2 = ctur (A 10 f) k ∧ R q 0 = O (B + 1) (A 12 (8 * f + k))
def FE (B : Nat) (V : Nat → Nat → Int32) (R : Nat → Nat → Option Nat) (O : Nat → Int32 → Option Nat) (N : Nat → Int32) (a p : Nat) (A : Nat → Int32 → Int32) (f : Int32) : Prop := V a 0 = A 10 f ∧ N p = A 11 f ∧ ∀ k, 0 ≤ k → k < A 11 f → PE B V R O (la (O p) k) A f k
def SF (B : Nat) (V : Nat → Nat → Int32) (R : Nat → Nat → Option Nat) (O : Nat → Int32 → Option Nat) (N : Nat → Int32) (s : Nat → Int32) (A : Nat → Int32 → Int32) : Prop := V B 3 = s 9 ∧ ∀ f, 0 ≤ f → f < s 9 → FE B V R O N (la (O (B + 2)) f) (fpc B R O f) A f
def SW (B : Nat) (V : Nat → Nat → Int32) (I : Nat → Int32 → Int32) (s : Nat → Int32) (A : Nat → Int32 → Int32) : Prop := V (B + 3) 1 = s 13 ∧ ∀ i, 0 ≤ i → i < s 13 → I (B + 4) i = A 14 i
def SZ (s : Nat → Int32) (A : Nat → Int32 → Int32) : Prop := (∀ i, s 1 ≤ i → i < 32 → A 6 i = 0 ∧ A 7 i = 0 ∧ ∀ x y, 0 ≤ x → x < 12 → 0 ≤ y → y < 12 → A 8 (144 * i + 12 * y + x) = 0) ∧ ∀ z, 0 ≤ A 8 z ∧ A 8 z ≤ 255
def SIM (B : Nat) (V : Nat → Nat → Int32) (R : Nat → Nat → Option Nat) (I : Nat → Int32 → Int32) (O : Nat → Int32 → Option Nat) (N : Nat → Int32) (s : Nat → Int32) (A : Nat → Int32 → Int32) : Prop := SL B V R I O s A ∧ SF B V R O N s A ∧ SW B V I s A ∧ SZ s A
/-- pieces have leaves of their own, that are used; a first piece's place is 0, 0 -/
def vp (s : Nat → Int32) (A : Nat → Int32 → Int32) (f k : Int32) : Prop := 0 ≤ f ∧ f < s 9 ∧ 0 ≤ k ∧ k < A 11 f
def SP (s : Nat → Int32) (A : Nat → Int32 → Int32) : Prop := (∀ f k f' k', vp s A f k → vp s A f' k' → pcs A f k = pcs A f' k' → f = f' ∧ k = k') ∧ ∀ f k, vp s A f k → A 7 (pcs A f k) ≠ 0
def SQ0 (B : Nat) (V : Nat → Nat → Int32) (R : Nat → Nat → Option Nat) (O : Nat → Int32 → Option Nat) (s : Nat → Int32) : Prop := ∀ f, 0 ≤ f → f < s 9 → V (la (O (fpc B R O f)) 0) 3 = 0 ∧ V (la (O (fpc B R O f)) 0) 4 = 0
def SX (B : Nat) (V : Nat → Nat → Int32) (R : Nat → Nat → Option Nat) (O : Nat → Int32 → Option Nat) (s : Nat → Int32) (A : Nat → Int32 → Int32) : Prop := SP s A ∧ SQ0 B V R O s
section SM1
variable {B : Nat} {w0 w w' : Mp} {T K : Nat → Nat} {V V' : Nat → Nat → Int32} {R R' : Nat → Nat → Option Nat} {I I' : Nat → Int32 → Int32} {O O' : Nat → Int32 → Option Nat} {N N' : Nat → Int32} {s s' : Nat → Int32} {A A' : Nat → Int32 → Int32} {sz g : Nat} {β : Type} {P : β → Prop}
theorem ne1 : (1 : Int32) ≠ 0 := by decide
theorem ne2 : (2 : Int32) ≠ 0 := by decide
theorem ne3 : (3 : Int32) ≠ 0 := by decide
theorem la_s {c : Int32 → Option Nat} {i j : Int32} {a : Nat} (e : j = i) : la (fun y => if y = i then some a else c y) j = a := by unfold la; simp [e]
theorem la_n {c : Int32 → Option Nat} {i j : Int32} {a : Nat} (e : j ≠ i) : la (fun y => if y = i then some a else c y) j = la c j := by unfold la; simp [e]
theorem CI.lf (hC : CI B T K V R O N) {i : Int32} (i0 : 0 ≤ i) (i1 : i < V B 1) : T (la (O (B + 1)) i) = 1 ∧ O (B + 1) i = some (la (O (B + 1)) i) ∧ V (la (O (B + 1)) i) 0 = i := by
  obtain ⟨a, e, ta, va⟩ := hC.2.2.2.2.1.2 i i0 i1
  rw [la_eq e]
  exact ⟨ta, e, va⟩
theorem CI.fc (hC : CI B T K V R O N) {f : Int32} (f0 : 0 ≤ f) (f1 : f < V B 3) : T (la (O (B + 2)) f) = 3 ∧ O (B + 2) f = some (la (O (B + 2)) f) ∧ R (la (O (B + 2)) f) 1 = some (fpc B R O f) ∧ T (fpc B R O f) = tr 3 ∧ (2 ≤ N (fpc B R O f) ∧ N (fpc B R O f) ≤ 8) ∧ ∀ k, 0 ≤ k → k < N (fpc B R O f) → T (la (O (fpc B R O f)) k) = 2 ∧ O (fpc B R O f) k = some (la (O (fpc B R O f)) k) := by
  obtain ⟨a, e, ta⟩ := hC.2.2.2.2.2.1.2 f f0 f1
  obtain ⟨p, p1, p2, p3, p4, p5, p6⟩ := hC.2.2.2.1 a ta
  rw [fpc_eq e p1, la_eq e]
  refine ⟨ta, e, p1, p2, p3, fun k k0 k1 => ?_⟩
  obtain ⟨q, q1, q2⟩ := p6 k k0 k1
  rw [la_eq q1]
  exact ⟨q2, q1⟩
/-- what the calls leave as it was: leaves, pieces' faces, faces, what is wanted -/
def KP (B : Nat) (T K : Nat → Nat) (V V' : Nat → Nat → Int32) (R R' : Nat → Nat → Option Nat) (I I' : Nat → Int32 → Int32) (O O' : Nat → Int32 → Option Nat) (N N' : Nat → Int32) : Prop :=
  (∀ a j, T a = 1 → V' a j = V a j) ∧ (∀ a j, T a = 2 → j < 3 → V' a j = V a j) ∧ (∀ a, T a = 3 → V' a 0 = V a 0) ∧ (V' B 1 = V B 1 ∧ V' B 3 = V B 3 ∧ V' (B + 3) 1 = V (B + 3) 1) ∧
  (∀ a, T a ≠ 10 → a ≠ B + 3 → R' a = R a) ∧ (∀ g, T g = 5 → K g = 1 ∨ 10 ≤ K g → I' g = I g) ∧ (∀ a, T a ≠ 10 → a ≠ B + 10 → O' a = O a) ∧ (∀ a, T a ≠ 10 → N' a = N a)
theorem SIM.keep (hC : CI B T K V R O N) (h : SIM B V R I O N s A) (k : KP B T K V V' R R' I I' O O' N N') : SIM B V' R' I' O' N' s A := by
  obtain ⟨⟨l1, l2⟩, ⟨f1, f2⟩, ⟨w1, w2⟩, z⟩ := h
  obtain ⟨k1, k2, k3, ⟨k4, k5, k6⟩, k7, k8, k9, k10⟩ := k
  obtain ⟨⟨t0, t1, t2, t3, t4, t5, t6, t10⟩, -, -, ⟨kw, -, -⟩, -⟩ := hC.1
  have o1 : O' (B + 1) = O (B + 1) := k9 _ (by rw [t1]; decide) (by omega)
  have o2 : O' (B + 2) = O (B + 2) := k9 _ (by rw [t2]; decide) (by omega)
  refine ⟨⟨k4.trans l1, fun i i0 i1 => ?_⟩, ⟨k5.trans f1, fun f f0 fb => ?_⟩, ⟨k6.trans w1, fun i i0 i1 => ?_⟩, z⟩
  · obtain ⟨ta, -, -⟩ := hC.lf i0 (by rw [l1]; exact i1)
    obtain ⟨⟨e1, e2, e3, e4, e5, e6⟩, e7⟩ := l2 i i0 i1
    rw [o1]
    have rr : R' (la (O (B + 1)) i) = R (la (O (B + 1)) i) := k7 _ (by rw [ta]; decide) (fun e => by rw [e, t3] at ta; cases ta)
    refine ⟨⟨?_, ?_, ?_, ?_, ?_, ?_⟩, fun g x y hg x0 x1 y0 y1 => ?_⟩
    · rw [k1 _ 1 ta]; exact e1
    · rw [k1 _ 2 ta]; exact e2
    · rw [k1 _ 3 ta]; exact e3
    · rw [k1 _ 4 ta]; exact e4
    · rw [k1 _ 6 ta]; exact e5
    · rw [k1 _ 7 ta]; exact e6
    · rw [rr] at hg
      obtain ⟨-, -, g', g1, g2, -, g3⟩ := hC.2.1 _ ta
      rw [hg] at g1; cases g1
      rw [k8 g g2 (Or.inr (by rw [g3]; omega))]
      exact e7 g x y hg x0 x1 y0 y1
  · obtain ⟨ta, -, ra, tp, -, hk⟩ := hC.fc f0 (by rw [f1]; exact fb)
    obtain ⟨e1, e2, e3⟩ := f2 f f0 fb
    have ra' : R' (la (O (B + 2)) f) = R (la (O (B + 2)) f) := k7 _ (by rw [ta]; decide) (fun e => by rw [e, t3] at ta; cases ta)
    have fp : fpc B R' O' f = fpc B R O f := by unfold fpc; rw [o2, ra']
    have op : O' (fpc B R O f) = O (fpc B R O f) := k9 _ (by rw [tp]; decide) (fun e => by rw [e, t10] at tp; cases tp)
    rw [fp, o2]
    refine ⟨by rw [k3 _ ta]; exact e1, by rw [k10 _ (by rw [tp]; decide)]; exact e2, fun k0 a0 a1 => ?_⟩
    obtain ⟨p1, p2, p3⟩ := e3 k0 a0 a1
    obtain ⟨tq, -⟩ := hk k0 a0 (by rw [e2]; exact a1)
    rw [op]
    refine ⟨by rw [k2 _ 1 tq (by decide)]; exact p1, by rw [k2 _ 2 tq (by decide)]; exact p2, ?_⟩
    rw [k7 _ (by rw [tq]; decide) (fun e => by rw [e, t3] at tq; cases tq), o1]
    exact p3
  · rw [k8 _ t4 (Or.inl kw)]
    exact w2 i i0 i1
theorem SIM.ref (h : SIM B V R I O N s A) (e1 : s' 1 = s 1) (e9 : s' 9 = s 9) (e13 : s' 13 = s 13) (a : ∀ k, k < 15 → A' k = A k) : SIM B V R I O N s' A' := by
  unfold SIM SL SF SW SZ FE PE LE at h ⊢
  rw [e1, e9, e13, a 2 (by decide), a 3 (by decide), a 4 (by decide), a 5 (by decide), a 6 (by decide), a 7 (by decide), a 8 (by decide), a 10 (by decide), a 11 (by decide), a 12 (by decide), a 14 (by decide)]
  exact h
theorem SIM.code (h : SIM B V R I O N s A) (c : Int32) : SIM B V R I O N (up s 0 c) A := h.ref rfl rfl rfl (fun _ _ => rfl)
theorem SX.ref (h : SX B V R O s A) (e9 : s' 9 = s 9) (a7 : A' 7 = A 7) (a11 : A' 11 = A 11) (a12 : A' 12 = A 12) : SX B V R O s' A' := by
  unfold SX SP SQ0 vp pcs at h ⊢
  rw [e9, a7, a11, a12]
  exact h
theorem SX.code (h : SX B V R O s A) (c : Int32) : SX B V R O (up s 0 c) A := h.ref rfl rfl rfl rfl
theorem SX.keep (hC : CI B T K V R O N) (fc : V B 3 = s 9) (h : SX B V R O s A) (kr : ∀ a, T a = 3 → R' a = R a) (o2 : O' (B + 2) = O (B + 2)) (op : ∀ a, T a = tr 3 → O' a = O a) (kv : ∀ a, T a = 2 → V' a 3 = V a 3 ∧ V' a 4 = V a 4) : SX B V' R' O' s A := by
  refine ⟨h.1, fun f f0 f1 => ?_⟩
  obtain ⟨ta, -, ra, tp, hn, hk⟩ := hC.fc f0 (by rw [fc]; exact f1)
  have fp : fpc B R' O' f = fpc B R O f := by unfold fpc; rw [o2, kr _ ta]
  obtain ⟨tq, -⟩ := hk 0 (by decide) (by clear hk; lia)
  rw [fp, op _ tp, (kv _ tq).1, (kv _ tq).2]
  exact h.2 f f0 f1
/-- behind a call of the class, and the store of its answer -/
def CX (B : Nat) (w : Mp) (T : Nat → Nat) (V : Nat → Nat → Int32) (R : Nat → Nat → Option Nat) (I : Nat → Int32 → Int32) (O : Nat → Int32 → Option Nat) (N : Nat → Int32) (w' : Mp) : Prop := CW B w' T V R I O N w' ∧ (∀ a, B + 11 ≤ a → a < B + 28 → w' a = w a) ∧ LO B w'
theorem CX.of (h : CW B w T V R I O N w') (hO : LO B w) : CX B w T V R I O N w' := by
  refine ⟨CW_re h (fun _ _ => rfl), fun a a1 a2 => CW_fr h a1 (by omega), ?_⟩
  obtain ⟨f, hf⟩ := hO
  exact ⟨f, by rw [CW_fr h (by omega) (by omega)]; exact hf⟩
theorem CX.put {F : Mp → Option β} {x : Int64} (h : CX B w T V R I O N w') (hp : ∀ w2, CX B w T V R I O N w2 → (∃ f, w2 (B + 28) = some (.inr (5, 1, .inr (.inl f))) ∧ f 0 = x) → OK (F w2) P) : OK ((sJ w' (some (B + 28)) 5 (0 : Int32) x).bind F) P := by
  obtain ⟨h1, h2, f, hf⟩ := h
  have hs : (∀ a, a ≠ B + 28 → va_up w' (B + 28) (some (.inr (5, 1, .inr (.inl (vp_updL f 0 x))))) a = w' a) := fun a ha => vup_n ha
  refine OK.eq (a := va_up w' (B + 28) (some (.inr (5, 1, .inr (.inl (vp_updL f 0 x)))))) ?_ (hp _ ⟨CW_re h1 (fun a ha => hs a (fun e => ha (by rw [e]; exact (h1.2.2.2 (B + 28) (by omega) (by omega)).2))), fun a a1 a2 => (hs a (by omega)).trans (h2 a a1 a2), _, vup_s⟩ ⟨_, vup_s, ?_⟩)
  · simp only [sJ, hf]
    rfl
  · simp [vp_updL]
theorem CX.mod (h : CX B w T V R I O N w') (hM : MW B w s A w) : MW B w' s A w' := MW_re hM (fun a a1 a2 => h.2.1 a a1 a2)
def LL (B g : Nat) (w : Mp) (sz : Nat) : Prop := ∃ T K V R I O N a5 a6 a7 s A, CW B w T V R I O N w ∧ CI B T K V R O N ∧ FR T sz ∧ B + 29 ≤ sz ∧ EL B R N a5 a6 a7 ∧ LB a5 a6 a7 g ∧ MW B w s A w ∧ MI s A ∧ LO B w ∧ SIM B V R I O N s A ∧ SX B V R O s A
theorem LL.fin {w2 w3 : Mp} {a5 a6 a7 : Int32} (h : CX B w T V R I O N w2) (hC : CI B T K V R O N) (hF : FR T sz) (hz : B + 29 ≤ sz) (hE : EL B R N a5 a6 a7) (hB : LB a5 a6 a7 g) (hM : MW B w2 s' A' w3) (hI : MI s' A') (hS : SIM B V R I O N s' A') (hQ : SX B V R O s' A') : LL B g w3 sz := by
  refine ⟨T, K, V, R, I, O, N, a5, a6, a7, s', A', CW_re h.1 (fun a ha => hM.2.2 a ?_), hC, hF, hz, hE, hB, MW_re hM (fun _ _ _ => rfl), hI, ?_, hS, hQ⟩
  · by_cases c : B + 11 ≤ a ∧ a < B + 28
    · exact absurd (h.1.2.2.2 a c.1 (by omega)).2 ha
    · omega
  · obtain ⟨f, hf⟩ := h.2.2
    exact ⟨f, by rw [hM.2.2 _ (Or.inr (Nat.le_refl _))]; exact hf⟩
theorem thr {w2 w3 : Mp} (hM : MW B w2 s A w3) : f_Mod_thrown w3 (B + 11) = some (s 0) := by
  obtain ⟨z, e, p⟩ : OK (f_Mod_thrown w3 (B + 11)) (fun z => z = s 0) := by unfold f_Mod_thrown; exact k_gI hM (by decide) (OK.ret rfl)
  rw [e, p]
/-- class and reference have the same code, and where there is none the same answer -/
def CM (B : Nat) (c : Int32) (w3 : Mp) (x : Int64) : Prop := f_Mod_thrown w3 (B + 11) = some c ∧ (c = 0 → ∃ f, w3 (B + 28) = some (.inr (5, 1, .inr (.inl f))) ∧ f 0 = x)
theorem CM.no {w2 w3 : Mp} {c : Int32} {x : Int64} (hM : MW B w2 s A w3) (hc : s 0 = c) (h0 : c ≠ 0) : CM B c w3 x := ⟨by rw [thr hM, hc], fun z => absurd z h0⟩
theorem CM.yes {w2 w3 : Mp} {x : Int64} (hM : MW B w2 s A w3) (hc : s 0 = 0) (hf : ∃ f, w2 (B + 28) = some (.inr (5, 1, .inr (.inl f))) ∧ f 0 = x) : CM B 0 w3 x := by
  refine ⟨by rw [thr hM, hc], fun _ => ?_⟩
  obtain ⟨f, h1, h2⟩ := hf
  exact ⟨f, by rw [hM.2.2 _ (Or.inr (Nat.le_refl _))]; exact h1, h2⟩
end SM1
