/-! the law's helpers, between the calls -/
section OL5
variable {B : Nat} {w w' : Mp} {sz g : Nat} {n m : Int32} {β : Type} {P : β → Prop}
theorem o_xo {F : Nat → Option β} (h : LC B g w sz n) (hp : OK (F B) P) : OK ((xo w (some B) 0).bind F) P := by
  obtain ⟨T, K, V, R, I, O, N, a5, a6, a7, h1, h2, -⟩ := h
  exact c_xo h1 h2.1.1.1 (by decide) hp
theorem o_xom {F : Nat → Option β} (h : LR B w m) (hp : OK (F (B + 11)) P) : OK ((xo w (some (B + 11)) 5).bind F) P := by
  obtain ⟨s, A, h1, -⟩ := h
  exact k_xo h1 hp
theorem o_sw {α : Type} {r : α ⊕ Nat} {ks : List Nat} {f : α → Option β} {gg : Nat → Option β} (h : CE ks r) (hf : ∀ v, r = .inl v → OK (f v) P) (hg : ∀ k, k ∈ ks → OK (gg k) P) : OK (xsw r f gg) P := by
  rcases h with ⟨v, rfl⟩ | ⟨k, hk, rfl⟩
  · exact hf v rfl
  · exact hg k hk
/-- the three parts together -/
def LSt (B g : Nat) (w : Mp) (sz : Nat) (n m : Int32) : Prop := LC B g w sz n ∧ LR B w m ∧ LO B w
theorem o_sJ {F : Mp → Option β} {x : Int64} (h : LSt B g w sz n m) (hp : ∀ w', LSt B g w' sz n m → (∃ f, w' (B + 28) = some (.inr (5, 1, .inr (.inl f))) ∧ f 0 = x) → OK (F w') P) : OK ((sJ w (some (B + 28)) 5 (0 : Int32) x).bind F) P := by
  obtain ⟨h1, h2, f, hf⟩ := h
  have hs : (∀ a, a ≠ B + 28 → va_up w (B + 28) (some (.inr (5, 1, .inr (.inl (vp_updL f 0 x))))) a = w a) := fun a ha => vup_n ha
  refine OK.eq (a := va_up w (B + 28) (some (.inr (5, 1, .inr (.inl (vp_updL f 0 x)))))) ?_ (hp _ ⟨h1.up (fun a ha => hs a (by omega)), ?_, _, vup_s⟩ ⟨_, vup_s, ?_⟩)
  · simp only [sJ, hf]
    rfl
  · obtain ⟨s, A, a1, a2, a3⟩ := h2
    exact ⟨s, A, MW_re a1 (fun a b1 b2 => hs a (by omega)), a2, a3⟩
  · simp [vp_updL]
theorem LSt.cls {α : Type} {g' : Nat} {n' : Int32} {ks : List Nat} {q : (α ⊕ Nat) × Mp × Nat} (h : LSt B g w sz n m) (hq : CR B g' w n' ks q) : LSt B g' q.2.1 q.2.2 n' m := ⟨hq.1, h.2.1.same hq.2.1, h.2.2.same hq.2.1⟩
theorem LSt.mdl {α : Type} {m' : Int32} {q : α × Mp} (h : LSt B g w sz n m) (hq : LR B q.2 m') (hs : MSAME B w q.2) : LSt B g q.2 sz n m' := by
  refine ⟨h.1.up (fun a ha => hs a (by omega)), hq, ?_⟩
  obtain ⟨f, hf⟩ := h.2.2
  exact ⟨f, by rw [hs _ (Or.inr (Nat.le_refl _))]; exact hf⟩

theorem h_leaf {a b c d : Int32} (h : LSt B g w sz n m) : OK (f_Law_leaf w sz (some B) a b c d (some (B + 28))) (fun q => LSt B g q.2.1 q.2.2 n m) := by
  unfold f_Law_leaf
  refine o_xo h.1 (OK.call (o_leaf h.1) (fun q hq => ?_))
  have hL := h.cls hq
  refine o_sw hq.2.2 (fun v _ => ?_) (fun k hk => ?_)
  · exact o_sJ hL (fun w' h' _ => OK.ret h')
  · have e : k = 0 ∨ k = 1 := by simpa using hk
    rcases e with rfl | rfl
    · exact OK.ifP rfl (OK.ret hL)
    · exact OK.ifN (by decide) (OK.ifP rfl (OK.ret hL))
theorem h_pixel {a b c d : Int32} (h : LSt B g w sz n m) : OK (f_Law_pixel w sz (some B) a b c d (some (B + 28))) (fun q => LSt B g q.2.1 q.2.2 n m) := by
  unfold f_Law_pixel
  refine o_xo h.1 (OK.call (o_pixel h.1) (fun q hq => ?_))
  have hL := h.cls hq
  refine o_sw hq.2.2 (fun v _ => ?_) (fun k hk => ?_)
  · exact OK.ite (fun _ => o_sJ hL (fun w' h' _ => OK.ret h')) (fun _ => o_sJ hL (fun w' h' _ => OK.ret h'))
  · have e : k = 2 ∨ k = 1 := by simpa using hk
    rcases e with rfl | rfl
    · exact OK.ifP rfl (OK.ret hL)
    · exact OK.ifN (by decide) (OK.ifP rfl (OK.ret hL))
theorem h_reserve {a b : Int32} (h : LSt B g w sz n m) : OK (f_Law_reserve w sz (some B) a b (some (B + 28))) (fun q => LSt B g q.2.1 q.2.2 n m) := by
  unfold f_Law_reserve
  refine o_xo h.1 (OK.call (o_reserve h.1) (fun q hq => ?_))
  have hL := h.cls hq
  refine o_sw hq.2.2 (fun v _ => ?_) (fun k hk => ?_)
  · exact OK.ite (fun _ => o_sJ hL (fun w' h' _ => OK.ret h')) (fun _ => o_sJ hL (fun w' h' _ => OK.ret h'))
  · have e : k = 2 ∨ k = 0 ∨ k = 1 := by simpa using hk
    rcases e with rfl | rfl | rfl
    · exact OK.ifP rfl (OK.ret hL)
    · exact OK.ifN (by decide) (OK.ifP rfl (OK.ret hL))
    · exact OK.ifN (by decide) (OK.ifN (by decide) (OK.ifP rfl (OK.ret hL)))
theorem h_match {a b : Int32} (h : LSt B g w sz n m) : OK (f_Law_match w sz (some B) a b (some (B + 28))) (fun q => LSt B g q.2.1 q.2.2 n m) := by
  unfold f_Law_match
  refine o_xo h.1 (OK.call (o_match h.1) (fun q hq => ?_))
  have hL := h.cls hq
  refine o_sw hq.2.2 (fun v _ => ?_) (fun k hk => ?_)
  · exact o_sJ hL (fun w' h' _ => OK.ret h')
  · have e : k = 0 ∨ k = 1 := by simpa using hk
    rcases e with rfl | rfl
    · exact OK.ifP rfl (OK.ret hL)
    · exact OK.ifN (by decide) (OK.ifP rfl (OK.ret hL))
theorem h_apart {a : Int32} (h : LSt B g w sz n m) : OK (f_Law_apart w sz (some B) a (some (B + 28))) (fun q => LSt B g q.2.1 q.2.2 n m) := by
  unfold f_Law_apart
  refine o_xo h.1 (OK.call (o_apart h.1) (fun q hq => ?_))
  have hL := h.cls hq
  refine o_sw hq.2.2 (fun v _ => ?_) (fun k hk => ?_)
  · exact o_sJ hL (fun w' h' _ => OK.ret h')
  · have e : k = 2 := by simpa using hk
    rcases e with rfl
    · exact OK.ifP rfl (OK.ret hL)
theorem h_place {a b c : Int32} (h : LSt B g w sz n m) : OK (f_Law_place w sz (some B) a b c (some (B + 28))) (fun q => LSt B g q.2.1 q.2.2 n m) := by
  unfold f_Law_place
  refine o_xo h.1 (OK.call (o_place h.1) (fun q hq => ?_))
  have hL := h.cls hq
  refine o_sw hq.2.2 (fun v _ => ?_) (fun k hk => ?_)
  · exact o_sJ hL (fun w' h' _ => OK.ret h')
  · have e : k = 2 ∨ k = 1 := by simpa using hk
    rcases e with rfl | rfl
    · exact OK.ifP rfl (OK.ret hL)
    · exact OK.ifN (by decide) (OK.ifP rfl (OK.ret hL))
theorem h_at {a b c : Int32} (h : LSt B g w sz n m) : OK (f_Law_at w sz (some B) a b c (some (B + 28))) (fun q => LSt B g q.2.1 q.2.2 n m) := by
  unfold f_Law_at
  refine o_xo h.1 (OK.call (o_at h.1) (fun q hq => ?_))
  have hL := h.cls hq
  refine o_sw hq.2.2 (fun v _ => ?_) (fun k hk => ?_)
  · exact o_sJ hL (fun w' h' _ => OK.ret h')
  · have e : k = 2 := by simpa using hk
    rcases e with rfl
    · exact OK.ifP rfl (OK.ret hL)
theorem h_about {a b : Int32} (h : LSt B g w sz n m) : OK (f_Law_about w sz (some B) a b (some (B + 28))) (fun q => LSt B g q.2.1 q.2.2 n m) := by
  unfold f_Law_about
  refine o_xo h.1 (OK.call (o_about h.1) (fun q hq => ?_))
  have hL := h.cls hq
  refine o_sw hq.2.2 (fun v _ => ?_) (fun k hk => ?_)
  · exact o_sJ hL (fun w' h' _ => OK.ret h')
  · have e : k = 2 ∨ k = 1 := by simpa using hk
    rcases e with rfl | rfl
    · exact OK.ifP rfl (OK.ret hL)
    · exact OK.ifN (by decide) (OK.ifP rfl (OK.ret hL))
theorem h_seam {a b : Int32} (h : LSt B g w sz n m) : OK (f_Law_seam w sz (some B) a b (some (B + 28))) (fun q => LSt B g q.2.1 q.2.2 n m) := by
  unfold f_Law_seam
  refine o_xo h.1 (OK.call (o_seam h.1) (fun q hq => ?_))
  have hL := h.cls hq
  refine o_sw hq.2.2 (fun v _ => ?_) (fun k hk => ?_)
  · exact o_sJ hL (fun w' h' _ => OK.ret h')
  · have e : k = 2 := by simpa using hk
    rcases e with rfl
    · exact OK.ifP rfl (OK.ret hL)
theorem h_sum {a b c : Int32} (h : LSt B g w sz n m) : OK (f_Law_sum w sz (some B) a b c (some (B + 28))) (fun q => LSt B g q.2.1 q.2.2 n m) := by
  unfold f_Law_sum
  refine o_xo h.1 (OK.call (o_sum h.1) (fun q hq => ?_))
  have hL := h.cls hq
  refine o_sw hq.2.2 (fun v _ => ?_) (fun k hk => ?_)
  · exact o_sJ hL (fun w' h' _ => OK.ret h')
  · have e : k = 2 ∨ k = 1 := by simpa using hk
    rcases e with rfl | rfl
    · exact OK.ifP rfl (OK.ret hL)
    · exact OK.ifN (by decide) (OK.ifP rfl (OK.ret hL))
theorem h_mirrored {a b : Int32} (h : LSt B g w sz n m) : OK (f_Law_mirrored w sz (some B) a b (some (B + 28))) (fun q => LSt B g q.2.1 q.2.2 n m) := by
  unfold f_Law_mirrored
  refine o_xo h.1 (OK.call (o_mirrored h.1) (fun q hq => ?_))
  have hL := h.cls hq
  refine o_sw hq.2.2 (fun v _ => ?_) (fun k hk => ?_)
  · exact OK.ite (fun _ => o_sJ hL (fun w' h' _ => OK.ret h')) (fun _ => o_sJ hL (fun w' h' _ => OK.ret h'))
  · have e : k = 2 := by simpa using hk
    rcases e with rfl
    · exact OK.ifP rfl (OK.ret hL)
theorem h_balance {a : Int32} (h : LSt B g w sz n m) : OK (f_Law_balance w sz (some B) a (some (B + 28))) (fun q => LSt B g q.2.1 q.2.2 n m) := by
  unfold f_Law_balance
  refine o_xo h.1 (OK.call (o_balance h.1) (fun q hq => ?_))
  have hL := h.cls hq
  refine o_sw hq.2.2 (fun v _ => ?_) (fun k hk => ?_)
  · exact OK.ite (fun _ => o_sJ hL (fun w' h' _ => OK.ret h')) (fun _ => o_sJ hL (fun w' h' _ => OK.ret h'))
  · have e : k = 2 := by simpa using hk
    rcases e with rfl
    · exact OK.ifP rfl (OK.ret hL)
theorem h_number {a b c : Int32} (h : LSt B g w sz n m) (hN : OK (f_LM_number w sz B a b c) (CR B g w n [2, 1])) : OK (f_Law_number w sz (some B) a b c (some (B + 28))) (fun q => LSt B g q.2.1 q.2.2 n m) := by
  unfold f_Law_number
  refine o_xo h.1 (OK.call hN (fun q hq => ?_))
  have hL := h.cls hq
  refine o_sw hq.2.2 (fun v _ => ?_) (fun k hk => ?_)
  · exact o_sJ hL (fun w' h' _ => OK.ret h')
  · have e : k = 2 ∨ k = 1 := by simpa using hk
    rcases e with rfl | rfl
    · exact OK.ifP rfl (OK.ret hL)
    · exact OK.ifN (by decide) (OK.ifP rfl (OK.ret hL))
theorem h_faces {a : Int32} (h : LSt B g w sz n m) : OK (f_Law_faces (xk5 w (some B) a) (xk6 w (some B) a) (xk7 w (some B) a) w sz (some B) a (some (B + 28))) (fun q => LSt B (g + (xk5 w (some B) a + xk6 w (some B) a + xk7 w (some B) a)) q.2.1 q.2.2 n m) := by
  unfold f_Law_faces
  refine o_xo h.1 (OK.call (o_faces h.1).2 (fun q hq => ?_))
  have hL := h.cls hq
  refine o_sw hq.2.2 (fun v _ => ?_) (fun k hk => ?_)
  · exact o_sJ hL (fun w' h' _ => OK.ret h')
  · have e : k = 1 := by simpa using hk
    rcases e with rfl
    · exact OK.ifP rfl (OK.ret hL)
theorem h_planned {a b : Int32} (h : LSt B g w sz n m) : OK (f_Law_planned w sz (some B) a b (some (B + 28))) (fun q => LSt B g q.2.1 q.2.2 n m) := by
  unfold f_Law_planned
  refine o_xo h.1 (OK.call (o_planned h.1) (fun q hq => ?_))
  have hL := h.cls hq
  refine o_sw hq.2.2 (fun v _ => ?_) (fun k hk => ?_)
  · exact o_sJ hL (fun w' h' _ => OK.ret h')
  · have e : k = 0 ∨ k = 2 ∨ k = 1 := by simpa using hk
    rcases e with rfl | rfl | rfl
    · exact OK.ifP rfl (OK.ret hL)
    · exact OK.ifN (by decide) (OK.ifP rfl (OK.ret hL))
    · exact OK.ifN (by decide) (OK.ifN (by decide) (OK.ifP rfl (OK.ret hL)))
theorem h_want {a : Int32} (h : LSt B g w sz n n) : OK (f_Law_want w sz (some B) a (some (B + 28))) (fun q => (¬ n < 8 ∧ q.1 = 1 ∧ LSt B g q.2.1 q.2.2 n n) ∨ (n < 8 ∧ ¬ (1 ≤ a ∧ a ≤ 100) ∧ q.1 = 2 ∧ LSt B g q.2.1 q.2.2 n n) ∨ (n < 8 ∧ 1 ≤ a ∧ a ≤ 100 ∧ q.1 = 0 ∧ LSt B g q.2.1 q.2.2 (n + 1) n ∧ ∃ f, q.2.1 (B + 28) = some (.inr (5, 1, .inr (.inl f))) ∧ f 0 = (n + 1).toInt64)) := by
  unfold f_Law_want
  refine o_xo h.1 (OK.call (o_want h.1).2 (fun q ⟨hs, hq⟩ => ?_))
  rcases hq with ⟨c, e, hl⟩ | ⟨c, d, e, hl⟩ | ⟨c, d1, d2, e, hl⟩
  · rw [e]
    show OK (if 0 = 0 then (some ((1 : Int32), q.2.1, q.2.2)) else (if 0 = 1 then (some ((2 : Int32), q.2.1, q.2.2)) else none)) _
    exact OK.ifP rfl (OK.ret (Or.inl ⟨c, rfl, hl, h.2.1.same hs, h.2.2.same hs⟩))
  · rw [e]
    show OK (if 1 = 0 then (some ((1 : Int32), q.2.1, q.2.2)) else (if 1 = 1 then (some ((2 : Int32), q.2.1, q.2.2)) else none)) _
    exact OK.ifN (by decide) (OK.ifP rfl (OK.ret (Or.inr (Or.inl ⟨c, d, rfl, hl, h.2.1.same hs, h.2.2.same hs⟩))))
  · rw [e]
    exact o_sJ (⟨hl, h.2.1.same hs, h.2.2.same hs⟩ : LSt B g q.2.1 q.2.2 (n + 1) n) (fun w' h' hf => OK.ret (Or.inr (Or.inr ⟨c, d1, d2, rfl, h', hf⟩)))
end OL5
