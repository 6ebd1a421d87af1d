/-! THE CLASS'S CELLS: T what stands at an address (0 .. 4 an object of that class, 5 an array of int, tr t an array of references, 10 nothing of the class's), V and R the objects' numbers and references by field, I and O the arrays' contents, N their lengths -/
def tr (t : Nat) : Nat := t + 5
def cfs (ci : Nat) (v : Nat → Int32) (r : Nat → Option Nat) : List Value := match ci with
  | 0 => [va_rf (r 0), .int (v 1), va_rf (r 2), .int (v 3), va_rf (r 4), va_rf (r 5)]
  | 1 => [.int (v 0), .int (v 1), .int (v 2), .int (v 3), .int (v 4), va_rf (r 5), .int (v 6), .int (v 7)]
  | 2 => [va_rf (r 0), .int (v 1), .int (v 2), .int (v 3), .int (v 4)]
  | 3 => [.int (v 0), va_rf (r 1)]
  | _ => [va_rf (r 0), .int (v 1), .int (v 2), va_rf (r 3), va_rf (r 4), va_rf (r 5), va_rf (r 6), va_rf (r 7), .int (v 8)]
def cin (ci k : Nat) : Bool := match ci with
  | 0 => k == 1 || k == 3
  | 1 => k == 0 || k == 1 || k == 2 || k == 3 || k == 4 || k == 6 || k == 7
  | 2 => k == 1 || k == 2 || k == 3 || k == 4
  | 3 => k == 0
  | _ => k == 1 || k == 2 || k == 8
def crf (ci k : Nat) : Bool := match ci with
  | 0 => k == 0 || k == 2 || k == 4 || k == 5
  | 1 => k == 5
  | 2 => k == 0
  | 3 => k == 1
  | _ => k == 0 || k == 3 || k == 4 || k == 5 || k == 6 || k == 7
theorem cin_k : ∀ ci, ci < 5 → ∀ k, k < 9 → cin ci k = true → crf ci k = false := by decide
theorem cin_b {ci k : Nat} (h : cin ci k = true) : k < 9 := by
  unfold cin at h
  split at h <;> simp only [Bool.or_eq_true, beq_iff_eq] at h <;> omega
theorem crf_b {ci k : Nat} (h : crf ci k = true) : k < 9 := by
  unfold crf at h
  split at h <;> simp only [Bool.or_eq_true, beq_iff_eq] at h <;> omega
theorem five {ci : Nat} (h : ci < 5) : ci = 0 ∨ ci = 1 ∨ ci = 2 ∨ ci = 3 ∨ ci = 4 := by omega
theorem nine {k : Nat} (h : k < 9) : k = 0 ∨ k = 1 ∨ k = 2 ∨ k = 3 ∨ k = 4 ∨ k = 5 ∨ k = 6 ∨ k = 7 ∨ k = 8 := by omega
def upr (r : Nat → Option Nat) (k : Nat) (x : Option Nat) : Nat → Option Nat := fun j => if j = k then x else r j
theorem cfs_i {ci k : Nat} (hc : ci < 5) (h : cin ci k = true) (v : Nat → Int32) (r : Nat → Option Nat) : (cfs ci v r)[k]? = some (.int (v k)) := by
  rcases five hc with rfl | rfl | rfl | rfl | rfl <;> rcases nine (cin_b h) with rfl | rfl | rfl | rfl | rfl | rfl | rfl | rfl | rfl <;> first | rfl | exact absurd h (by decide)
theorem cfs_r {ci k : Nat} (hc : ci < 5) (h : crf ci k = true) (v : Nat → Int32) (r : Nat → Option Nat) : (cfs ci v r)[k]? = some (va_rf (r k)) := by
  rcases five hc with rfl | rfl | rfl | rfl | rfl <;> rcases nine (crf_b h) with rfl | rfl | rfl | rfl | rfl | rfl | rfl | rfl | rfl <;> first | rfl | exact absurd h (by decide)
theorem cfs_ui {ci k : Nat} (hc : ci < 5) (h : cin ci k = true) (v : Nat → Int32) (r : Nat → Option Nat) (x : Int32) : (cfs ci v r).set k (.int x) = cfs ci (up v k x) r := by
  rcases five hc with rfl | rfl | rfl | rfl | rfl <;> rcases nine (cin_b h) with rfl | rfl | rfl | rfl | rfl | rfl | rfl | rfl | rfl <;> first | rfl | exact absurd h (by decide)
theorem cfs_ur {ci k : Nat} (hc : ci < 5) (h : crf ci k = true) (v : Nat → Int32) (r : Nat → Option Nat) (x : Option Nat) : (cfs ci v r).set k (va_rf x) = cfs ci v (upr r k x) := by
  rcases five hc with rfl | rfl | rfl | rfl | rfl <;> rcases nine (crf_b h) with rfl | rfl | rfl | rfl | rfl | rfl | rfl | rfl | rfl <;> first | rfl | exact absurd h (by decide)
theorem oR_rf (x : Option Nat) : oR (va_rf x) = some x := by cases x <;> rfl
def CW (B : Nat) (w0 : Mp) (T : Nat → Nat) (V : Nat → Nat → Int32) (R : Nat → Nat → Option Nat) (I : Nat → Int32 → Int32) (O : Nat → Int32 → Option Nat) (N : Nat → Int32) (w : Mp) : Prop :=
  (∀ a ci, T a = ci → ci < 5 → w a = some (.inl (ci, cfs ci (V a) (R a)))) ∧
  (∀ a, T a = 5 → ∃ f, w a = some (.inr (0, (N a).toNatClampNeg, .inl f)) ∧ ∀ i : Int32, 0 ≤ i → f i.toNatClampNeg = I a i) ∧
  (∀ a t, T a = tr t → 1 ≤ t → t ≤ 3 → ∃ f, w a = some (.inr (t, (N a).toNatClampNeg, .inr (.inr (.inr (.inr f))))) ∧ ∀ i : Int32, 0 ≤ i → f i.toNatClampNeg = O a i) ∧
  (∀ a, B + 11 ≤ a → a < B + 29 → w a = w0 a ∧ T a = 10)
theorem vup_s {α : Type} {f : Nat → α} {k : Nat} {v : α} : va_up f k v k = v := by simp [va_up]
theorem vup_n {α : Type} {f : Nat → α} {k j : Nat} {v : α} (h : j ≠ k) : va_up f k v j = f j := by simp [va_up, h]
section CWR
variable {B : Nat} {w0 : Mp} {T : Nat → Nat} {V : Nat → Nat → Int32} {R : Nat → Nat → Option Nat} {I : Nat → Int32 → Int32} {O : Nat → Int32 → Option Nat} {N : Nat → Int32} {w : Mp} {a ci k t : Nat} {β : Type} {P : β → Prop}
theorem c_gI {F : Int32 → Option β} (h : CW B w0 T V R I O N w) (ht : T a = ci) (hk : (decide (ci < 5) && cin ci k) = true) (hp : OK (F (V a k)) P) : OK ((gI w (some a) ci k).bind F) P := by
  rw [Bool.and_eq_true, decide_eq_true_eq] at hk
  refine OK.eq ?_ hp
  simp [gI, gF, h.1 a ci ht hk.1, cfs_i hk.1 hk.2, oI]
theorem c_gR {F : Option Nat → Option β} (h : CW B w0 T V R I O N w) (ht : T a = ci) (hk : (decide (ci < 5) && crf ci k) = true) (hp : OK (F (R a k)) P) : OK ((gR w (some a) ci k).bind F) P := by
  rw [Bool.and_eq_true, decide_eq_true_eq] at hk
  refine OK.eq ?_ hp
  simp [gR, gF, h.1 a ci ht hk.1, cfs_r hk.1 hk.2, oR_rf]
theorem c_gRs {F : Option Nat → Option β} {b : Nat} (h : CW B w0 T V R I O N w) (ht : T a = ci) (hr : R a k = some b) (hk : (decide (ci < 5) && crf ci k) = true) (hp : OK (F (some b)) P) : OK ((gR w (some a) ci k).bind F) P := c_gR h ht hk (by rw [hr]; exact hp)
theorem c_xo {F : Nat → Option β} (h : CW B w0 T V R I O N w) (ht : T a = ci) (hk : ci < 5) (hp : OK (F a) P) : OK ((xo w (some a) ci).bind F) P := by
  refine OK.eq ?_ hp
  simp [xo, h.1 a ci ht hk]
theorem CW.obj (h : CW B w0 T V R I O N w) (ht : T a = ci) (hc : ci < 5) (v : Nat → Int32) (r : Nat → Option Nat) : CW B w0 T (va_up V a v) (va_up R a r) I O N (va_up w a (some (.inl (ci, cfs ci v r)))) := by
  obtain ⟨h1, h2, h3, h4⟩ := h
  refine ⟨fun b cj hb hj => ?_, fun b hb => ?_, fun b t hb t1 t2 => ?_, fun b b1 b2 => ?_⟩
  · by_cases e : b = a
    · subst e
      rw [ht] at hb
      subst hb
      rw [vup_s, vup_s, vup_s]
    · rw [vup_n e, vup_n e, vup_n e]
      exact h1 b cj hb hj
  · have e : b ≠ a := fun e => by rw [e, ht] at hb; omega
    rw [vup_n e]
    exact h2 b hb
  · have e : b ≠ a := fun e => by rw [e, ht] at hb; unfold tr at hb; omega
    rw [vup_n e]
    exact h3 b t hb t1 t2
  · have z := h4 b b1 b2
    have e : b ≠ a := fun e => by rw [← e, z.2] at ht; omega
    rw [vup_n e]
    exact z
theorem vup_id {α : Type} {f : Nat → α} {k : Nat} : va_up f k (f k) = f := by
  funext j
  by_cases e : j = k
  · rw [e, vup_s]
  · rw [vup_n e]
theorem CW.int (h : CW B w0 T V R I O N w) (ht : T a = ci) (hc : ci < 5) (v : Nat → Int32) : CW B w0 T (va_up V a v) R I O N (va_up w a (some (.inl (ci, cfs ci v (R a))))) := by
  have := h.obj ht hc v (R a)
  rw [vup_id] at this
  exact this
theorem c_pI {F : Mp → Option β} {x : Int32} (h : CW B w0 T V R I O N w) (ht : T a = ci) (hk : (decide (ci < 5) && cin ci k) = true) (hp : ∀ w', CW B w0 T (va_up V a (up (V a) k x)) R I O N w' → OK (F w') P) : OK ((pF w (some a) ci k (.int x)).bind F) P := by
  rw [Bool.and_eq_true, decide_eq_true_eq] at hk
  have hw := h.1 a ci ht hk.1
  have hl : k < (cfs ci (V a) (R a)).length := (List.getElem?_eq_some_iff.mp (cfs_i hk.1 hk.2 (V a) (R a))).1
  refine OK.eq (a := va_up w a (some (.inl (ci, cfs ci (up (V a) k x) (R a))))) ?_ (hp _ (h.int ht hk.1 _))
  simp only [pF, hw, hl, and_self, if_true, cfs_ui hk.1 hk.2]
theorem c_pR {F : Mp → Option β} {x : Option Nat} (h : CW B w0 T V R I O N w) (ht : T a = ci) (hk : (decide (ci < 5) && crf ci k) = true) (hp : ∀ w', CW B w0 T V (va_up R a (upr (R a) k x)) I O N w' → OK (F w') P) : OK ((pF w (some a) ci k (va_rf x)).bind F) P := by
  rw [Bool.and_eq_true, decide_eq_true_eq] at hk
  have hw := h.1 a ci ht hk.1
  have hl : k < (cfs ci (V a) (R a)).length := (List.getElem?_eq_some_iff.mp (cfs_r hk.1 hk.2 (V a) (R a))).1
  refine OK.eq (a := va_up w a (some (.inl (ci, cfs ci (V a) (upr (R a) k x))))) ?_ (hp _ ?_)
  · simp only [pF, hw, hl, and_self, if_true, cfs_ur hk.1 hk.2]
  · have := h.obj ht hk.1 (V a) (upr (R a) k x)
    rw [vup_id] at this
    exact this
theorem c_aI {F : Int32 → Option β} {i : Int32} (h : CW B w0 T V R I O N w) (ht : T a = 5) (h0 : 0 ≤ i) (h1 : i < N a) (hp : OK (F (I a i)) P) : OK ((aI w (some a) 0 i).bind F) P := by
  obtain ⟨f, e, hf⟩ := h.2.1 a ht
  refine OK.eq ?_ hp
  have := cl_in h0 h1
  simp only [aI, e, this, not_false_eq_true, and_self, if_true, hf i h0]
theorem CW.arrI (h : CW B w0 T V R I O N w) (ht : T a = 5) {f : Nat → Int32} {g : Int32 → Int32} (hg : ∀ i : Int32, 0 ≤ i → f i.toNatClampNeg = g i) : CW B w0 T V R (va_up I a g) O N (va_up w a (some (.inr (0, (N a).toNatClampNeg, .inl f)))) := by
  obtain ⟨h1, h2, h3, h4⟩ := h
  refine ⟨fun b cj hb hj => ?_, fun b hb => ?_, fun b t hb t1 t2 => ?_, fun b b1 b2 => ?_⟩
  · have e : b ≠ a := fun e => by rw [e, ht] at hb; omega
    rw [vup_n e]
    exact h1 b cj hb hj
  · by_cases e : b = a
    · subst e
      rw [vup_s, vup_s]
      exact ⟨f, rfl, hg⟩
    · rw [vup_n e, vup_n e]
      exact h2 b hb
  · have e : b ≠ a := fun e => by rw [e, ht] at hb; unfold tr at hb; omega
    rw [vup_n e]
    exact h3 b t hb t1 t2
  · have z := h4 b b1 b2
    have e : b ≠ a := fun e => by rw [← e, z.2] at ht; omega
    rw [vup_n e]
    exact z
theorem c_sI {F : Mp → Option β} {i x : Int32} (h : CW B w0 T V R I O N w) (ht : T a = 5) (h0 : 0 ≤ i) (h1 : i < N a) (hp : ∀ w', CW B w0 T V R (va_up I a (fun y => if y = i then x else I a y)) O N w' → OK (F w') P) : OK ((sI w (some a) 0 i x).bind F) P := by
  obtain ⟨f, e, hf⟩ := h.2.1 a ht
  have hc := cl_in h0 h1
  refine OK.eq (a := va_up w a (some (.inr (0, (N a).toNatClampNeg, .inl (upd f i.toNatClampNeg x))))) ?_ (hp _ (h.arrI ht (fun y hy => ?_)))
  · simp only [sI, e, hc, not_false_eq_true, and_self, if_true]
  · unfold upd
    by_cases ey : y = i
    · rw [if_pos ey, if_pos (by rw [ey])]
    · rw [if_neg ey, if_neg (fun z => ey (cl_inj hy h0 z)), hf y hy]
theorem c_aR {F : Option Nat → Option β} {i : Int32} (h : CW B w0 T V R I O N w) (ht : T a = tr t) (hk : (decide (1 ≤ t) && decide (t ≤ 3)) = true) (h0 : 0 ≤ i) (h1 : i < N a) (hp : OK (F (O a i)) P) : OK ((aR w (some a) t i).bind F) P := by
  rw [Bool.and_eq_true, decide_eq_true_eq, decide_eq_true_eq] at hk
  obtain ⟨f, e, hf⟩ := h.2.2.1 a t ht hk.1 hk.2
  refine OK.eq ?_ hp
  have := cl_in h0 h1
  simp only [aR, e, this, not_false_eq_true, and_self, if_true, hf i h0]
theorem c_aRs {F : Option Nat → Option β} {i : Int32} {b : Nat} (h : CW B w0 T V R I O N w) (ht : T a = tr t) (hk : (decide (1 ≤ t) && decide (t ≤ 3)) = true) (h0 : 0 ≤ i) (h1 : i < N a) (hb : O a i = some b) (hp : OK (F (some b)) P) : OK ((aR w (some a) t i).bind F) P := c_aR h ht hk h0 h1 (by rw [hb]; exact hp)
theorem CW.arrR (h : CW B w0 T V R I O N w) (ht : T a = tr t) (t1 : 1 ≤ t) (t2 : t ≤ 3) {f : Nat → Option Nat} {g : Int32 → Option Nat} (hg : ∀ i : Int32, 0 ≤ i → f i.toNatClampNeg = g i) : CW B w0 T V R I (va_up O a g) N (va_up w a (some (.inr (t, (N a).toNatClampNeg, .inr (.inr (.inr (.inr f))))))) := by
  obtain ⟨h1, h2, h3, h4⟩ := h
  have ht' : T a = t + 5 := ht
  refine ⟨fun b cj hb hj => ?_, fun b hb => ?_, fun b u hb u1 u2 => ?_, fun b b1 b2 => ?_⟩
  · have e : b ≠ a := fun e => by rw [e, ht'] at hb; omega
    rw [vup_n e]
    exact h1 b cj hb hj
  · have e : b ≠ a := fun e => by rw [e, ht'] at hb; omega
    rw [vup_n e]
    exact h2 b hb
  · by_cases e : b = a
    · subst e
      rw [ht'] at hb
      have : t = u := by unfold tr at hb; omega
      subst this
      rw [vup_s, vup_s]
      exact ⟨f, rfl, hg⟩
    · rw [vup_n e, vup_n e]
      exact h3 b u hb u1 u2
  · have z := h4 b b1 b2
    have e : b ≠ a := fun e => by rw [← e, z.2] at ht'; omega
    rw [vup_n e]
    exact z
theorem c_sR {F : Mp → Option β} {i : Int32} {v : Option Nat} (h : CW B w0 T V R I O N w) (ht : T a = tr t) (hk : (decide (1 ≤ t) && decide (t ≤ 3) && decide (ci < 5)) = true) (h0 : 0 ≤ i) (h1 : i < N a) (hv : ∀ b, v = some b → T b = ci) (hp : ∀ w', CW B w0 T V R I (va_up O a (fun y => if y = i then v else O a y)) N w' → OK (F w') P) : OK ((sR w (some a) t ci i v).bind F) P := by
  rw [Bool.and_eq_true, Bool.and_eq_true, decide_eq_true_eq, decide_eq_true_eq, decide_eq_true_eq] at hk
  obtain ⟨⟨k1, k2⟩, k3⟩ := hk
  obtain ⟨f, e, hf⟩ := h.2.2.1 a t ht k1 k2
  have hc := cl_in h0 h1
  have hx : xis w ci v = true := by
    cases v with
    | none => rfl
    | some b => simp [xis, h.1 b ci (hv b rfl) k3]
  refine OK.eq (a := va_up w a (some (.inr (t, (N a).toNatClampNeg, .inr (.inr (.inr (.inr (va_up f i.toNatClampNeg v)))))))) ?_ (hp _ (h.arrR ht k1 k2 (fun y hy => ?_)))
  · simp only [sR, e, hc, hx, not_false_eq_true, and_self, if_true]
  · by_cases ey : y = i
    · rw [if_pos ey, ey, vup_s]
    · rw [if_neg ey, vup_n (fun z => ey (cl_inj hy h0 z)), hf y hy]
theorem c_aL {F : Int32 → Option β} (h : CW B w0 T V R I O N w) (ht : T a = tr t) (hk : (decide (1 ≤ t) && decide (t ≤ 3)) = true) (hn : 0 ≤ N a) (hp : OK (F (N a)) P) : OK ((aL w (some a) t).bind F) P := by
  rw [Bool.and_eq_true, decide_eq_true_eq, decide_eq_true_eq] at hk
  obtain ⟨f, e, -⟩ := h.2.2.1 a t ht hk.1 hk.2
  refine OK.eq ?_ hp
  simp only [aL, e, if_true, of_cl hn]
theorem c_aLi {F : Int32 → Option β} (h : CW B w0 T V R I O N w) (ht : T a = 5) (hn : 0 ≤ N a) (hp : OK (F (N a)) P) : OK ((aL w (some a) 0).bind F) P := by
  obtain ⟨f, e, -⟩ := h.2.1 a ht
  refine OK.eq ?_ hp
  simp only [aL, e, if_true, of_cl hn]
end CWR
