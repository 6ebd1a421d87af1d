/-! the class: free leaves gathered; the order broken or not -/
def nmo (V : Nat → Nat → Int32) (o : Option Nat) : Int32 := V (o.getD 0) 2
def nmC (B : Nat) (V : Nat → Nat → Int32) (O : Nat → Int32 → Option Nat) (k : Int32) : Int32 := nmo V (O (B + 1) k)
theorem n10 {B : Nat} : B + 1 ≠ B + 10 := by omega
section CP6
variable {B : Nat} {w0 : Mp} {T K : Nat → Nat} {V : Nat → Nat → Int32} {R : Nat → Nat → Option Nat} {I : Nat → Int32 → Int32} {O : Nat → Int32 → Option Nat} {N : Nat → Int32} {w : Mp} {β : Type} {P : β → Prop}
theorem n_gath_in {fl cnt i : Int32} {a : Nat} {c0 : Int32 → Option Nat} (hC : CI B T K V R O N) (ta : T a = 1) (hl : ∀ j, 0 ≤ j → j < cnt → ∃ b, c0 j = some b ∧ T b = 1) (cb : cnt < 32) : ∀ (n : Nat) (x5 : Int32) (c : Int32 → Option Nat) (w : Mp), CW B w0 T V R I (va_up O (B + 10) c) N w → 0 ≤ x5 → x5 ≤ cnt → x5.toInt + 1 < n → (∀ j, 0 ≤ j → j < x5 → c j = c0 j) → (∀ j, x5 < j → j ≤ cnt → c j = c0 (j - 1)) → (∀ j, x5 ≤ j → j < cnt → V a 2 < nmo V (c0 j)) → OK (f_LM_gatherFree_L43 B fl cnt i (some a) n x5 w) (fun q => ∃ c, CW B w0 T V R I (va_up O (B + 10) c) N q.2.2 ∧ 0 ≤ q.2.1 ∧ q.2.1 ≤ cnt ∧ (∀ j, 0 ≤ j → j < q.2.1 → c j = c0 j) ∧ (∀ j, q.2.1 < j → j ≤ cnt → c j = c0 (j - 1)) ∧ (∀ j, q.2.1 ≤ j → j < cnt → V a 2 < nmo V (c0 j)) ∧ (q.2.1 = 0 ∨ nmo V (c0 (q.2.1 - 1)) ≤ V a 2)) := by
  obtain ⟨⟨⟨t0, t1, t2, t3, t4, t5, t6, t10⟩, ⟨m1, m2, m4, m5, m6, m10⟩, ⟨r0, r2, r4, r5, -, -, -⟩, -, -⟩, -⟩ := hC
  intro n
  induction n with
  | zero => intro x5 c w _ b0 b1 hn; exact (fd_zero (by clear hn hl; lia) hn).elim
  | succ n ih =>
    intro x5 c w h b0 b1 hn d1 d2 d3
    rw [f_LM_gatherFree_L43]
    refine OK.ite (fun e => OK.ret ⟨c, h, b0, b1, d1, d2, d3, Or.inl (by clear hn hl ih d1 d2 d3; lia)⟩) (fun e => ?_)
    have y : 0 ≤ x5 - 1 ∧ x5 - 1 < cnt ∧ x5 - 1 < x5 ∧ x5 - 1 < 32 ∧ x5 < 32 := by clear hn hl ih d1 d2 d3; refine ⟨by lia, by lia, by lia, by lia, by lia⟩
    obtain ⟨b, e1, tb⟩ := hl (x5 - 1) y.1 y.2.1
    have e2 : va_up O (B + 10) c (B + 10) (x5 - 1) = some b := by rw [vup_s, d1 _ y.1 y.2.2.1]; exact e1
    have en : nmo V (c0 (x5 - 1)) = V b 2 := by unfold nmo; rw [e1]; rfl
    refine c_gRs h t0 r5 (by decide) (c_aRs h t10 (by decide) y.1 (by rw [m10]; exact y.2.2.2.1) e2 (c_gI h tb (by decide) (c_gI h ta (by decide) ?_)))
    refine OK.ite (fun f => OK.ret ⟨c, h, b0, b1, d1, d2, d3, Or.inr (by rw [en]; exact f)⟩) (fun f => ?_)
    refine c_gRs h t0 r5 (by decide) (c_gRs h t0 r5 (by decide) (c_aRs h t10 (by decide) y.1 (by rw [m10]; exact y.2.2.2.1) e2 ?_))
    refine c_sR h t10 (by decide) b0 (by rw [m10]; exact y.2.2.2.2) (fun z hz => by cases hz; exact tb) (fun w' h' => ?_)
    rw [show va_up (va_up O (B + 10) c) (B + 10) (fun y => if y = x5 then some b else va_up O (B + 10) c (B + 10) y) = va_up O (B + 10) (fun y => if y = x5 then some b else c y) by
      funext z
      by_cases ez : z = B + 10
      · rw [ez, vup_s, vup_s, vup_s]
      · rw [vup_n ez, vup_n ez, vup_n ez]] at h'
    have xx : x5 + (-1) = x5 - 1 := by clear hn hl ih d1 d2 d3; grind
    have fs := fd_step b0 hn
    rw [xx] at fs ⊢
    refine ih _ _ w' h' y.1 (by clear hn hl ih d1 d2 d3 fs; lia) fs (fun j j0 j1 => ?_) (fun j j0 j1 => ?_) (fun j j0 j1 => ?_)
    · rw [if_neg (by clear hn hl ih d1 d2 d3 fs; lia)]
      exact d1 j j0 (by clear hn hl ih d1 d2 d3 fs; lia)
    · by_cases ej : j = x5
      · rw [if_pos ej, ej, e1]
      · rw [if_neg ej]
        exact d2 j (by clear hn hl ih d1 d2 d3 fs; lia) j1
    · by_cases ej : j = x5 - 1
      · rw [ej, en]
        clear hn hl ih d1 d2 d3 fs
        lia
      · exact d3 j (by clear hn hl ih d1 d2 d3 fs; lia) j1
theorem n_gath_L {fl : Int32} (hC : CI B T K V R O N) : ∀ (n : Nat) (cnt i : Int32) (c : Int32 → Option Nat) (w : Mp), CW B w0 T V R I (va_up O (B + 10) c) N w → 0 ≤ i → i ≤ V B 1 → (V B 1 - i).toInt < n → GI (fbC B V O fl) (nmC B V O) (O (B + 1)) c i cnt → OK (f_LM_gatherFree_L4 B fl n cnt i w) (fun q => ∃ c, CW B w0 T V R I (va_up O (B + 10) c) N q.2.2.2 ∧ GI (fbC B V O fl) (nmC B V O) (O (B + 1)) c (V B 1) q.2.1) := by
  have n32 := N32c hC
  obtain ⟨⟨⟨t0, t1, t2, t3, t4, t5, t6, t10⟩, ⟨m1, m2, m4, m5, m6, m10⟩, ⟨r0, r2, r4, r5, -, -, -⟩, -, -⟩, -, -, -, ⟨c1, c2⟩, -, -⟩ := id hC
  intro n
  induction n with
  | zero => intro cnt i c w _ b0 b1 hn; exact (fu_zero b0 b1 hn).elim
  | succ n ih =>
    intro cnt i c w h b0 b1 hn hg
    rw [f_LM_gatherFree_L4]
    refine c_gI h t0 (by decide) ?_
    refine OK.ite (fun e => ?_) (fun e => ?_)
    · have ei : i = V B 1 := by clear c2 ih hn hg; lia
      rw [ei] at hg
      exact OK.ret ⟨c, h, hg⟩
    · have y : i < V B 1 := by clear c2 ih hn hg; lia
      have fs := fu_step b0 y hn
      obtain ⟨a, ea, ta, -⟩ := c2 i b0 y
      have ea' : va_up O (B + 10) c (B + 1) i = some a := by rw [vup_n n10]; exact ea
      have el : la (O (B + 1)) i = a := by unfold la; rw [ea]; rfl
      have i32 : i < N (B + 1) := by rw [m1]; clear c2 ih hn hg fs; lia
      have nx : 0 ≤ i + 1 ∧ i + 1 ≤ V B 1 := by clear c2 ih hn hg fs; constructor <;> lia
      have ib : i < 100 ∧ i < 1000 := by clear c2 ih hn hg fs; constructor <;> lia
      have no : fbC B V O fl i = false → OK (f_LM_gatherFree_L4 B fl n cnt (i + 1) w) (fun q => ∃ c, CW B w0 T V R I (va_up O (B + 10) c) N q.2.2.2 ∧ GI (fbC B V O fl) (nmC B V O) (O (B + 1)) c (V B 1) q.2.1) := fun z => ih _ _ c w h nx.1 nx.2 fs (GI_skip b0 ib.2 hg z)
      refine c_gRs h t0 r0 (by decide) (c_aRs h t1 (by decide) b0 i32 ea' (c_gI h ta (by decide) (OK.ite (fun d1 => ?_) (fun d1 => no (by unfold fbC; rw [el]; simp [d1])))))
      refine c_xo h ta (by decide) (n_isFree h ta (fun d2 d3 => ?_) (fun d2 => ?_))
      · rw [if_neg (by decide)]
        have z : fbC B V O fl i = true := by unfold fbC; rw [el]; simp [d1, d2, d3]
        have cb : 0 ≤ cnt ∧ cnt ≤ i := by
          rw [hg.1]
          exact of_le b0 (cn_le _ _)
        have hl : ∀ j, 0 ≤ j → j < cnt → ∃ b, c j = some b ∧ T b = 1 := fun j j0 j1 => by
          obtain ⟨k, k0, k1, -, k3, -⟩ := hg.2 j j0 j1
          obtain ⟨b, eb, tb, -⟩ := c2 k k0 (by clear c2 ih hn hg fs; lia)
          exact ⟨b, by rw [k3]; exact eb, tb⟩
        have cz : cnt < 32 := by clear c2 ih hn hg fs hl; lia
        refine OK.call (n_gath_in (fl := fl) (i := i) hC ta hl cz 100000 cnt c w h cb.1 (Int32.le_refl _) (fd_any (by clear c2 ih hn hg fs hl; lia)) (fun j _ _ => rfl) (fun j j0 j1 => by clear c2 ih hn hg fs hl; lia) (fun j j0 j1 => by clear c2 ih hn hg fs hl; lia)) (fun q ⟨c', h', q0, q1, q2, q3, q4, q5⟩ => ?_)
        generalize q.2.1 = x at q0 q1 q2 q3 q4 q5 ⊢
        refine c_gRs h' t0 r5 (by decide) (c_sR h' t10 (by decide) q0 (by rw [m10]; clear c2 ih hn hg fs hl q2 q3 q4 q5; lia) (fun z hz => by cases hz; exact ta) (fun w2 h2 => ?_))
        rw [show va_up (va_up O (B + 10) c') (B + 10) (fun y => if y = x then some a else va_up O (B + 10) c' (B + 10) y) = va_up O (B + 10) (fun y => if y = x then some a else c' y) by
          funext z
          by_cases ez : z = B + 10
          · rw [ez, vup_s, vup_s, vup_s]
          · rw [vup_n ez, vup_n ez, vup_n ez]] at h2
        have en : nmC B V O i = V a 2 := by unfold nmC nmo; rw [ea]; rfl
        refine ih _ _ _ w2 h2 nx.1 nx.2 fs (GI_step (nmo V) b0 ib.1 hg z (fun k => rfl) q0 q1 (fun j j0 j1 => ?_) ?_ (fun j j0 j1 => ?_) (fun j j0 j1 => ?_) ?_)
        · rw [if_neg (by clear c2 ih hn hg fs hl q2 q3 q4 q5; lia)]
          exact q2 j j0 j1
        · rw [if_pos rfl, ea]
        · rw [if_neg (by clear c2 ih hn hg fs hl q2 q3 q4 q5; lia)]
          exact q3 j j0 j1
        · rw [en]; exact q4 j j0 j1
        · rw [en]; exact q5
      · refine OK.ifP rfl (no ?_)
        unfold fbC
        rw [el]
        simp only [Bool.and_eq_false_iff, beq_eq_false_iff_ne, ne_eq]
        grind
/-- the gathered ones: leaves, in their order -/
def GA (B : Nat) (T : Nat → Nat) (V : Nat → Nat → Int32) (O : Nat → Int32 → Option Nat) (fl : Int32) (c : Int32 → Option Nat) : Prop := GI (fbC B V O fl) (nmC B V O) (O (B + 1)) c (V B 1) (cntC B V O fl) ∧ (0 ≤ cntC B V O fl ∧ cntC B V O fl ≤ V B 1) ∧ ∀ j, 0 ≤ j → j < cntC B V O fl → ∃ b, c j = some b ∧ T b = 1
theorem vup_at {c : Int32 → Option Nat} {b : Nat} : va_up (va_up O b c) b c = va_up O b c := by
  funext z
  by_cases ez : z = b
  · rw [ez, vup_s, vup_s]
  · rw [vup_n ez, vup_n ez]
theorem n_gather {F : Int32 × Mp → Option β} {fl : Int32} (h : CW B w0 T V R I O N w) (hC : CI B T K V R O N) (hp : ∀ w' c, CW B w0 T V R I (va_up O (B + 10) c) N w' → GA B T V O fl c → OK (F (cntC B V O fl, w')) P) : OK ((f_LM_gatherFree w B fl).bind F) P := by
  have c1 := hC.2.2.2.2.1.1
  have c2 := hC.2.2.2.2.1.2
  refine OK.call (P := fun q => ∃ c, CW B w0 T V R I (va_up O (B + 10) c) N q.2 ∧ GI (fbC B V O fl) (nmC B V O) (O (B + 1)) c (V B 1) q.1) ?_ (fun q ⟨c, h', hg⟩ => ?_)
  · unfold f_LM_gatherFree
    rw [← vup_id (f := O) (k := B + 10)] at h
    exact OK.call (n_gath_L hC _ _ _ _ w h (by decide) c1.1 (fu_any (by clear c2; lia) c1.1) ⟨rfl, fun j j0 j1 => by clear c2; lia⟩) (fun q hq => OK.ret hq)
  · have e : q.1 = cntC B V O fl := hg.1
    have b := of_le c1.1 (cn_le (fbC B V O fl) (V B 1).toNatClampNeg)
    have z := hp q.2 c h' ⟨by rw [← e]; exact hg, b, fun j j0 j1 => by
      rw [e] at hg
      obtain ⟨k, k0, k1, -, k3, -⟩ := hg.2 j j0 j1
      obtain ⟨b, eb, tb, -⟩ := c2 k k0 k1
      exact ⟨b, by rw [k3]; exact eb, tb⟩⟩
    rw [← e] at z
    exact z
def cbrk (V : Nat → Nat → Int32) (c : Int32 → Option Nat) (n : Int32) : Prop := ∃ k, 1 ≤ k ∧ k < n ∧ nmo V (c k) ≠ nmo V (c (k - 1)) + 1
theorem n_broken_L {m : Int32} {c : Int32 → Option Nat} (hS : STc B T K R N) (h : CW B w0 T V R I (va_up O (B + 10) c) N w) (m2 : 2 ≤ m) (m8 : m ≤ 8) (hl : ∀ j, 0 ≤ j → j < m → ∃ b, c j = some b ∧ T b = 1) : ∀ (n : Nat) (x : Int32), 1 ≤ x → x ≤ m → (m - x).toInt < n → (∀ k, 1 ≤ k → k < x → nmo V (c k) = nmo V (c (k - 1)) + 1) → OK (f_LM_isBroken_L2 w B m n x) (fun q => (q.1 = 0 ∧ ¬ cbrk V c m) ∨ (q.1 = 1 ∧ cbrk V c m)) := by
  obtain ⟨⟨t0, t1, t2, t3, t4, t5, t6, t10⟩, ⟨m1, m2', m4, m5, m6, m10⟩, ⟨r0, r2, r4, r5, -, -, -⟩, -, -⟩ := hS
  intro n
  induction n with
  | zero => intro x b0 b1 hn; exact (fu_zero (by clear hn hl; lia) b1 hn).elim
  | succ n ih =>
    intro x b0 b1 hn hk
    rw [f_LM_isBroken_L2]
    refine OK.ite (fun e => ?_) (fun e => ?_)
    · have ei : x = m := by clear ih hn hk hl; lia
      rw [ei] at hk
      exact OK.ret (Or.inl ⟨rfl, fun ⟨k, k0, k1, k2⟩ => k2 (hk k k0 k1)⟩)
    · have y : 0 ≤ x ∧ x < m ∧ 0 ≤ x - 1 ∧ x - 1 < m ∧ x < 32 ∧ x - 1 < 32 := by clear ih hn hk hl; refine ⟨by lia, by lia, by lia, by lia, by lia, by lia⟩
      have fs := fu_step y.1 y.2.1 hn
      obtain ⟨b, eb, tb⟩ := hl x y.1 y.2.1
      obtain ⟨b', eb', tb'⟩ := hl (x - 1) y.2.2.1 y.2.2.2.1
      have q1 : va_up O (B + 10) c (B + 10) x = some b := by rw [vup_s]; exact eb
      have q2 : va_up O (B + 10) c (B + 10) (x - 1) = some b' := by rw [vup_s]; exact eb'
      have v1 : nmo V (c x) = V b 2 := by unfold nmo; rw [eb]; rfl
      have v2 : nmo V (c (x - 1)) = V b' 2 := by unfold nmo; rw [eb']; rfl
      refine c_gRs h t0 r5 (by decide) (c_aRs h t10 (by decide) y.1 (by rw [m10]; exact y.2.2.2.2.1) q1 (c_gRs h t0 r5 (by decide) (c_aRs h t10 (by decide) y.2.2.1 (by rw [m10]; exact y.2.2.2.2.2) q2 (c_xo h tb (by decide) (n_follows h tb tb' (fun d => ?_) (fun d => ?_))))))
      · refine OK.ifN (by decide) (ih _ (by clear ih hn hk hl fs; lia) (by clear ih hn hk hl fs; lia) fs (fun k k0 k1 => ?_))
        by_cases ek : k = x
        · rw [ek, v1, v2]; exact d
        · exact hk k k0 (by clear ih hn hk hl fs; lia)
      · exact OK.ifP rfl (OK.ret (Or.inr ⟨rfl, x, b0, y.2.1, by rw [v1, v2]; exact d⟩))
theorem n_broken {F : Int32 → Option β} {m : Int32} {c : Int32 → Option Nat} (hS : STc B T K R N) (h : CW B w0 T V R I (va_up O (B + 10) c) N w) (m2 : 2 ≤ m) (m8 : m ≤ 8) (hl : ∀ j, 0 ≤ j → j < m → ∃ b, c j = some b ∧ T b = 1) (h1 : cbrk V c m → OK (F 1) P) (h2 : ¬ cbrk V c m → OK (F 0) P) : OK ((f_LM_isBroken w B m).bind F) P := by
  refine OK.call (P := fun v => (v = 0 ∧ ¬ cbrk V c m) ∨ (v = 1 ∧ cbrk V c m)) ?_ (fun v hv => ?_)
  · unfold f_LM_isBroken
    have z : (m - 0).toInt < (100000 : Nat) := fu_any (by clear hl; lia) (by clear hl; lia)
    have fn : (m - 1).toInt < (100000 : Nat) := by
      have := fu_step (i := 0) (N := m) (n := 100000) (by decide) (by clear hl z; lia) (by omega)
      exact this
    refine OK.call (n_broken_L hS h m2 m8 hl _ _ (by decide) (by clear hl z fn; lia) fn (fun k k0 k1 => by clear hl z fn; lia)) (fun q hq => ?_)
    rcases hq with ⟨e, z⟩ | ⟨e, z⟩
    · exact OK.ifP e (OK.ret (Or.inl ⟨rfl, z⟩))
    · exact OK.ifN (by rw [e]; decide) (OK.ifP e (OK.ret (Or.inr ⟨rfl, z⟩)))
  · rcases hv with ⟨rfl, z⟩ | ⟨rfl, z⟩
    · exact h2 z
    · exact h1 z
end CP6
