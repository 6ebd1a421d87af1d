/-! the class: its questions, as calls -/
theorem sne {b : Nat} : ¬ (some b = (none : Option Nat)) := fun h => by cases h
/-- the pieces of the face of a number -/
def fpc (B : Nat) (R : Nat → Nat → Option Nat) (O : Nat → Int32 → Option Nat) (f : Int32) : Nat := (R (la (O (B + 2)) f) 1).getD 0
section CP8
variable {B : Nat} {w0 : Mp} {T K : Nat → Nat} {V : Nat → Nat → Int32} {R : Nat → Nat → Option Nat} {I : Nat → Int32 → Int32} {O : Nat → Int32 → Option Nat} {N : Nat → Int32} {w : Mp} {sz : Nat}
theorem fpc_eq {f : Int32} {a p : Nat} (ea : O (B + 2) f = some a) (hr : R a 1 = some p) : fpc B R O f = p := by
  unfold fpc la
  rw [ea]
  show (R a 1).getD 0 = p
  rw [hr]
  rfl
theorem la_eq {c : Int32 → Option Nat} {f : Int32} {a : Nat} (ea : c f = some a) : la c f = a := by unfold la; rw [ea]; rfl
/-- a question's end: refused with this number, or answered, places alone changed -/
def QE (B : Nat) (w0 : Mp) (T : Nat → Nat) (V : Nat → Nat → Int32) (R : Nat → Nat → Option Nat) (I : Nat → Int32 → Int32) (O : Nat → Int32 → Option Nat) (N : Nat → Int32) (sz : Nat) {α : Type} (e : Option Nat) (q : (α ⊕ Nat) × Mp × Nat) : Prop := (∃ V', CW B w0 T V' R I O N q.2.1 ∧ PL T V V') ∧ ((∃ k, e = some k ∧ q.1 = .inr k ∧ q.2.2 = sz + 1) ∨ (e = none ∧ (∃ v, q.1 = .inl v) ∧ q.2.2 = sz))
theorem QE.no {α : Type} (h : CW B w0 T V R I O N w) {k : Nat} {e : Option Nat} (he : e = some k) : QE B w0 T V R I O N sz (α := α) e (.inr k, w, sz + 1) := ⟨⟨V, h, fun _ _ _ => rfl⟩, Or.inl ⟨k, he, rfl, rfl⟩⟩
theorem QE.noL {α : Type} {V' : Nat → Nat → Int32} (h : CW B w0 T V' R I O N w) (hp : PL T V V') {k : Nat} {e : Option Nat} (he : e = some k) : QE B w0 T V R I O N sz (α := α) e (.inr k, w, sz + 1) := ⟨⟨V', h, hp⟩, Or.inl ⟨k, he, rfl, rfl⟩⟩
theorem QE.yes {α : Type} {V' : Nat → Nat → Int32} {v : α} (h : CW B w0 T V' R I O N w) (hp : PL T V V') {e : Option Nat} (he : e = none) : QE B w0 T V R I O N sz (α := α) e (.inl v, w, sz) := ⟨⟨V', h, hp⟩, Or.inr ⟨he, ⟨v, rfl⟩, rfl⟩⟩
theorem n_place {f k t : Int32} (h : CW B w0 T V R I O N w) (hC : CI B T K V R O N) : OK (f_LM_place w sz B f k t) (QE B w0 T V R I O N sz (if 0 ≤ f ∧ f < V B 3 ∧ 0 ≤ k ∧ k < N (fpc B R O f) then (if 0 ≤ t ∧ t ≤ 4 then none else some 1) else some 2)) := by
  have t0 := hC.1.1.1
  unfold f_LM_place
  refine c_xo h t0 (by decide) (n_faceOrNull h hC (fun a f0 f1 ea ta => OK.ifN sne ?_) (fun c => OK.ifP rfl (OK.ret (QE.no h (if_neg (fun z => c ⟨z.1, z.2.1⟩))))))
  obtain ⟨p, pr, hP, pv, p4⟩ := hC.pie ta
  rw [fpc_eq ea pr]
  have n8 := hP.2.1
  refine c_xo h ta (by decide) (n_hasPiece h ta pr hP.1 n8.1 n8.2 (fun k0 k1 => OK.ifN (by decide) ?_) (fun c => OK.ifP rfl (OK.ret (QE.no h (if_neg (fun z => c z.2.2))))))
  rw [if_pos ⟨f0, f1, k0, k1⟩]
  refine c_xo h ta (by decide) (n_lay h ta pr hP p4 (fun w' V' h' hp => ?_))
  obtain ⟨q, l, q1, q2, q3, q4, q5⟩ := hP.2.2 k k0 k1
  refine c_gRs h' ta pr (by decide) (c_aRs h' hP.1 (by decide) k0 k1 q1 ?_)
  have yes : ∀ v, 0 ≤ t → t ≤ 4 → OK (some (.inl v, w', sz) : Option ((Int32 ⊕ Nat) × Mp × Nat)) (QE B w0 T V R I O N sz (if 0 ≤ t ∧ t ≤ 4 then none else some 1)) := fun v a b => OK.ret (QE.yes h' hp (if_pos ⟨a, b⟩))
  refine OK.ite (fun c => ?_) (fun c0 => ?_)
  · exact c_gRs h' q2 q3 (by decide) (c_gI h' q4 (by decide) (yes _ (by rw [c]; decide) (by rw [c]; decide)))
  refine OK.ite (fun c => ?_) (fun c1 => ?_)
  · exact c_gI h' q2 (by decide) (OK.ite (fun _ => yes _ (by rw [c]; decide) (by rw [c]; decide)) (fun _ => yes _ (by rw [c]; decide) (by rw [c]; decide)))
  refine OK.ite (fun c => ?_) (fun c2 => ?_)
  · exact c_gI h' q2 (by decide) (OK.ite (fun _ => yes _ (by rw [c]; decide) (by rw [c]; decide)) (fun _ => yes _ (by rw [c]; decide) (by rw [c]; decide)))
  refine OK.ite (fun c => ?_) (fun c3 => ?_)
  · exact c_gI h' q2 (by decide) (yes _ (by rw [c]; decide) (by rw [c]; decide))
  refine OK.ite (fun c => ?_) (fun c4 => ?_)
  · exact c_gI h' q2 (by decide) (yes _ (by rw [c]; decide) (by rw [c]; decide))
  exact OK.ret (QE.noL h' hp (if_neg (by lia)))
theorem n_at {f x y : Int32} (h : CW B w0 T V R I O N w) (hC : CI B T K V R O N) : OK (f_LM_at w sz B f x y) (QE B w0 T V R I O N sz (if 0 ≤ f ∧ f < V B 3 then none else some 2)) := by
  have t0 := hC.1.1.1
  unfold f_LM_at
  refine c_xo h t0 (by decide) (n_faceOrNull h hC (fun a f0 f1 ea ta => OK.ifN sne ?_) (fun c => OK.ifP rfl (OK.ret (QE.no h (if_neg c)))))
  obtain ⟨p, pr, hP, pv, p4⟩ := hC.pie ta
  rw [if_pos ⟨f0, f1⟩]
  exact c_xo h ta (by decide) (n_lay h ta pr hP p4 (fun w' V' h' hp => c_xo h' ta (by decide) (n_seen h' ta pr (PIE_PL hp hP) (fun v => OK.ret (QE.yes h' hp rfl)))))
theorem n_about {f t : Int32} (h : CW B w0 T V R I O N w) (hC : CI B T K V R O N) : OK (f_LM_about w sz B f t) (QE B w0 T V R I O N sz (if 0 ≤ f ∧ f < V B 3 then (if 0 ≤ t ∧ t ≤ 3 then none else some 1) else some 2)) := by
  have t0 := hC.1.1.1
  unfold f_LM_about
  refine c_xo h t0 (by decide) (n_faceOrNull h hC (fun a f0 f1 ea ta => OK.ifN sne ?_) (fun c => OK.ifP rfl (OK.ret (QE.no h (if_neg c)))))
  obtain ⟨p, pr, hP, pv, p4⟩ := hC.pie ta
  have n8 := hP.2.1
  rw [if_pos ⟨f0, f1⟩]
  refine c_xo h ta (by decide) (n_lay h ta pr hP p4 (fun w' V' h' hp => ?_))
  have hP' := PIE_PL hp hP
  have yes : ∀ v, 0 ≤ t → t ≤ 3 → OK (some (.inl v, w', sz) : Option ((Int32 ⊕ Nat) × Mp × Nat)) (QE B w0 T V R I O N sz (if 0 ≤ t ∧ t ≤ 3 then none else some 1)) := fun v a b => OK.ret (QE.yes h' hp (if_pos ⟨a, b⟩))
  refine OK.ite (fun c => ?_) (fun c0 => ?_)
  · exact c_xo h' ta (by decide) (n_size h' ta pr hP' (fun v => yes _ (by rw [c]; decide) (by rw [c]; decide)))
  refine OK.ite (fun c => ?_) (fun c1 => ?_)
  · exact c_xo h' ta (by decide) (n_bot h' ta pr hP' (fun v => c_xo h' ta (by decide) (n_top h' ta pr hP' (fun v => yes _ (by rw [c]; decide) (by rw [c]; decide)))))
  refine OK.ite (fun c => ?_) (fun c2 => ?_)
  · exact c_gRs h' ta pr (by decide) (c_aL h' hP.1 (by decide) (by lia) (yes _ (by rw [c]; decide) (by rw [c]; decide)))
  refine OK.ite (fun c => ?_) (fun c3 => ?_)
  · exact c_gI h' ta (by decide) (yes _ (by rw [c]; decide) (by rw [c]; decide))
  exact OK.ret (QE.noL h' hp (if_neg (by lia)))
theorem n_seam {f k : Int32} (h : CW B w0 T V R I O N w) (hC : CI B T K V R O N) : OK (f_LM_seam w sz B f k) (QE B w0 T V R I O N sz (if 0 ≤ f ∧ f < V B 3 ∧ 0 ≤ k ∧ k < sms V N (la (O (B + 2)) f) (fpc B R O f) then none else some 2)) := by
  have t0 := hC.1.1.1
  unfold f_LM_seam
  refine c_xo h t0 (by decide) (n_faceOrNull h hC (fun a f0 f1 ea ta => OK.ifN sne ?_) (fun c => OK.ifP rfl (OK.ret (QE.no h (if_neg (fun z => c ⟨z.1, z.2.1⟩))))))
  obtain ⟨p, pr, hP, pv, p4⟩ := hC.pie ta
  rw [fpc_eq ea pr, la_eq ea]
  have n8 := hP.2.1
  refine c_xo h ta (by decide) (n_hasSeam h ta pr hP.1 n8.1 n8.2 (fun k0 k1 => OK.ifN (by decide) ?_) (fun c => OK.ifP rfl (OK.ret (QE.no h (if_neg (fun z => c z.2.2))))))
  rw [if_pos ⟨f0, f1, k0, k1⟩]
  exact c_xo h ta (by decide) (n_best h ta pr hP p4 k0 k1 (fun v => OK.ret (QE.yes h (fun _ _ _ => rfl) rfl)))
theorem n_sum {f k d : Int32} (h : CW B w0 T V R I O N w) (hC : CI B T K V R O N) : OK (f_LM_sum w sz B f k d) (QE B w0 T V R I O N sz (if 0 ≤ f ∧ f < V B 3 ∧ 0 ≤ k ∧ k < sms V N (la (O (B + 2)) f) (fpc B R O f) then (if -3 ≤ d ∧ d ≤ 3 then none else some 1) else some 2)) := by
  have t0 := hC.1.1.1
  unfold f_LM_sum
  refine c_xo h t0 (by decide) (n_faceOrNull h hC (fun a f0 f1 ea ta => OK.ifN sne ?_) (fun c => OK.ifP rfl (OK.ret (QE.no h (if_neg (fun z => c ⟨z.1, z.2.1⟩))))))
  obtain ⟨p, pr, hP, pv, p4⟩ := hC.pie ta
  rw [fpc_eq ea pr, la_eq ea]
  have n8 := hP.2.1
  refine c_xo h ta (by decide) (n_hasSeam h ta pr hP.1 n8.1 n8.2 (fun k0 k1 => OK.ifN (by decide) ?_) (fun c => OK.ifP rfl (OK.ret (QE.no h (if_neg (fun z => c z.2.2))))))
  rw [if_pos ⟨f0, f1, k0, k1⟩]
  refine n_isWithin (fun a1 a2 => OK.ifN (by decide) ?_) (fun c => OK.ifP rfl (OK.ret (QE.no h (if_neg c))))
  exact c_xo h ta (by decide) (n_diff h ta pr hP p4 k0 k1 (fun v => OK.ret (QE.yes h (fun _ _ _ => rfl) (if_pos ⟨a1, a2⟩))))
theorem n_mirrored {f k : Int32} (h : CW B w0 T V R I O N w) (hC : CI B T K V R O N) : OK (f_LM_mirrored w sz B f k) (QE B w0 T V R I O N sz (if 0 ≤ f ∧ f < V B 3 ∧ 0 ≤ k ∧ k < sms V N (la (O (B + 2)) f) (fpc B R O f) then none else some 2)) := by
  have t0 := hC.1.1.1
  unfold f_LM_mirrored
  refine c_xo h t0 (by decide) (n_faceOrNull h hC (fun a f0 f1 ea ta => OK.ifN sne ?_) (fun c => OK.ifP rfl (OK.ret (QE.no h (if_neg (fun z => c ⟨z.1, z.2.1⟩))))))
  obtain ⟨p, pr, hP, pv, p4⟩ := hC.pie ta
  rw [fpc_eq ea pr, la_eq ea]
  have n8 := hP.2.1
  refine c_xo h ta (by decide) (n_hasSeam h ta pr hP.1 n8.1 n8.2 (fun k0 k1 => OK.ifN (by decide) ?_) (fun c => OK.ifP rfl (OK.ret (QE.no h (if_neg (fun z => c z.2.2))))))
  rw [if_pos ⟨f0, f1, k0, k1⟩]
  exact c_xo h ta (by decide) (n_diff h ta pr hP p4 k0 k1 (fun v => OK.ite (fun _ => OK.ret (QE.yes h (fun _ _ _ => rfl) rfl)) (fun _ => OK.ret (QE.yes h (fun _ _ _ => rfl) rfl))))
theorem n_balance {f : Int32} (h : CW B w0 T V R I O N w) (hC : CI B T K V R O N) : OK (f_LM_balance w sz B f) (QE B w0 T V R I O N sz (if 0 ≤ f ∧ f < V B 3 then none else some 2)) := by
  have t0 := hC.1.1.1
  unfold f_LM_balance
  refine c_xo h t0 (by decide) (n_faceOrNull h hC (fun a f0 f1 ea ta => OK.ifN sne ?_) (fun c => OK.ifP rfl (OK.ret (QE.no h (if_neg c)))))
  obtain ⟨p, pr, hP, pv, p4⟩ := hC.pie ta
  rw [if_pos ⟨f0, f1⟩]
  exact c_xo h ta (by decide) (n_lay h ta pr hP p4 (fun w' V' h' hp => c_xo h' ta (by decide) (n_bal h' ta pr (PIE_PL hp hP) (fun v hv => OK.ifP (bool_01 hv) (OK.ret (QE.yes h' hp rfl))))))
theorem n_planned {k t : Int32} (h : CW B w0 T V R I O N w) (hC : CI B T K V R O N) : OK (f_LM_planned w sz B k t) (QE B w0 T V R I O N sz (if V (B + 3) 2 = 0 then some 0 else if 0 ≤ k ∧ k < V (B + 3) 1 then (if 0 ≤ t ∧ t ≤ 1 then none else some 1) else some 2)) := by
  obtain ⟨⟨⟨t0, t1, t2, t3, t4, t5, t6, t10⟩, ⟨m1, m2, m4, m5, m6, m10⟩, ⟨r0, r2, r4, r5, p0, p3, p4⟩, -, -⟩, -, -, -, -, -, c7⟩ := hC
  unfold f_LM_planned
  refine c_gRs h t0 r4 (by decide) (c_gI h t3 (by decide) (OK.ite (fun c => OK.ret (QE.no h (if_pos c))) (fun c => ?_)))
  rw [if_neg c]
  refine c_gRs h t0 r4 (by decide) (c_gI h t3 (by decide) (n_isWithin (fun a1 a2 => OK.ifN (by decide) ?_) (fun c => OK.ifP rfl (OK.ret (QE.no h (if_neg (fun z => c ⟨z.1, by lia⟩)))))))
  have k8 : k < V (B + 3) 1 ∧ k < 8 := by constructor <;> lia
  rw [if_pos (show 0 ≤ k ∧ k < V (B + 3) 1 from ⟨a1, k8.1⟩)]
  refine OK.ite (fun c => ?_) (fun c0 => OK.ite (fun c => ?_) (fun c1 => ?_))
  · exact c_gRs h t0 r4 (by decide) (c_gRs h t3 p3 (by decide) (c_aI h t5 a1 (by rw [m5]; exact k8.2) (OK.ret (QE.yes h (fun _ _ _ => rfl) (if_pos (by rw [c]; decide))))))
  · exact c_gRs h t0 r4 (by decide) (c_gRs h t3 p4 (by decide) (c_aI h t6 a1 (by rw [m6]; exact k8.2) (OK.ret (QE.yes h (fun _ _ _ => rfl) (if_pos (by rw [c]; decide))))))
  · exact OK.ret (QE.no h (if_neg (by lia)))
end CP8
