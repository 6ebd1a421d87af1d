/-! further rows: final fields, boolean arrays, Object's constructor, longs -/
theorem x_narZ {v : Int32} (h : v = 0 ∨ v = 1) : narrow .boolean (.int v) = .int v := by
  rcases h with rfl | rfl <;> rfl
theorem x_fitZ {v : Int32} (h : v = 0 ∨ v = 1) : fits .boolean (.int v) = true := by
  rcases h with rfl | rfl <;> rfl
section XM
variable {p : Program} {l : Launch} {e : Env} {R : Room} {s : State} {m : MethodId} {args : Array Value} {below : List Frame} {meth : Method} {c : Code} {H : Heap} {locs : List Loc} {cells slots : Nat} {Q : State → Prop}
variable {cc : ByteArray} {pc nL : Nat} {ls : Array Slot} {rest : List Value} {Ts : List Cond} {own : String} {lv lv' : List (Nat × xV)}
variable {G : Gx} {cl : List vw_C} {aty : List FieldType} {w : Mp} {α : Type} {res : α}
theorem x_putF (C0 : CallFix p m c cc nL s args Ts own) (hE : xE G cl aty s) (hH : xhd G cl w H) (hS : xS G s H locs) (hin2 : meth.name = "<init>") {C : String} {T : u_T} {N ci index : Nat} (hc : cl[ci]? = some (C, T, N)) (hin : ∀ w ∈ u_ws C T N, w ∈ Ts) (ty0 : Nat → FieldType) (hty : ∀ k, k < N → parseFieldDescriptor (T k).2.2.1 = some (ty0 k)) (hnm : ∀ a, a < N → ∀ b, b < N → a ≠ b → (T a).2.1 ≠ (T b).2.1) (k : Nat) (hk : k < N) (hlink : Cond.fieldLink own index (T k).1 (T k).2.1 (T k).2.2.1 ∈ Ts) (hfin : (T k).2.2.2 = true) (hdecl : (T k).1 = own) {v : Value} (hn : narrow (ty0 k) v = v) (hfit : fits (ty0 k) v = true) (hdg : decode cc pc = .ok (.putfield index, 3))
    {r : Option Nat} {F : Mp → Option α} (h : (pF w r ci k v).bind F = some res) (kk : ∀ w' H' locs', xhd G cl w' H' → xS G s H' locs' → H'.size = H.size → F w' = some res → W p l e R s m args below meth c H' locs' cells slots Q (F0 m (pc + 3) ls rest)) : W p l e R s m args below meth c H locs cells slots Q (F0 m pc ls (v :: va_rf r :: rest)) := by
  obtain ⟨w', hv, hF⟩ := Option.bind_eq_some_iff.mp h
  obtain ⟨a, fs, rfl, h2, hl, rfl⟩ := pF_inv hv
  have hap := va_apart (own := own) C0.2.2.2.2 hin ty0 hty hnm hE.1 hc
  obtain ⟨hA, r0, h1, cell, q1, q2, q3, q4⟩ := hH a _ h2
  have hr : r0 = (C, T, N) := Option.some.inj (h1.symm.trans hc)
  subst hr
  obtain ⟨hSl, hfc, kC, hkC, hkind⟩ := hE.1.1 ci _ hc
  obtain ⟨cf, kf, fi, f, hi, hsl⟩ := hSl k hk
  have hlay := C0.2.2.2.2 _ (hin _ (u_in_lay hk))
  unfold u_lay at hlay
  rw [if_pos hfin] at hlay
  have hst := (u_facts hfc hkC (u_lays C0.2.2.2.2 hin hk) hi).1
  have hcf : m.cls = cf := by
    obtain ⟨_, _, c', _, _, _, -, -, hf', -, -, -, hown2, -⟩ := Cond.laysFinal_spec hlay
    have e1 : c' = cf := by have := hi.symm.trans hf'; simp at this; exact this.1.symm
    rw [hdecl] at hown2
    rw [← e1]; exact Option.some.inj (C0.2.2.2.1.symm.trans hown2)
  have h6 := u_fits hfc hkC hkind (Or.inr hlay) hi (hty k hk) hn hfit
  refine W.putFinK C0.1 C0.2.1 C0.2.2.2.1 (C0.2.2.2.2 _ hlink) hi hst hcf hin2 (by rw [q2]; exact h6) q1 q3 (by rw [hsl]; exact k2_hasslot (q4 k hk)) rfl rfl hdg fun H' e1 e2 e3 => ?_
  rw [hsl] at e1 ⊢
  exact kk _ H' _ (xhd_set (e := .inl (ci, fs.set k v)) hH h2 ⟨_, hc, t_OB.to (V := updV (vp_V fs) k v) ⟨_, e1, q2, q3, t_set q4 hap hk v⟩ (fun j _ => vp_updV_set hl v j)⟩ e3) (hS.put e2 e3 hA) e2 hF
theorem x_zald (C0 : CallFix p m c cc nL s args Ts own) (hE : xE G cl aty s) (hH : xhd G cl w H) {t : Nat} (ht : aty[t]? = some .boolean) (hdg : decode cc pc = .ok (.baload, 1))
    {r : Option Nat} {i : Int32} {F : Int32 → Option α} (h : (aI w r t i).bind F = some res) (kk : ∀ v, F v = some res → W p l e R s m args below meth c H locs cells slots Q (F0 m (pc + 1) ls (.int v :: rest))) : W p l e R s m args below meth c H locs cells slots Q (F0 m pc ls (.int i :: va_rf r :: rest)) := by
  obtain ⟨v, hv, hF⟩ := Option.bind_eq_some_iff.mp h
  obtain ⟨a, n, f, rfl, h2, h3, rfl⟩ := aI_inv hv
  exact va_zald (D := G.2.1) (ws := [(a, .inl (G.2.2.1 t, n, .inl f))]) C0.1 C0.2.1 hE.1 (xhd_one hH h2) 0 t rfl (xT_at ht) h3 hdg (kk _ hF)
theorem x_zast (C0 : CallFix p m c cc nL s args Ts own) (hE : xE G cl aty s) (hH : xhd G cl w H) (hS : xS G s H locs) {t : Nat} (ht : aty[t]? = some .boolean) (hdg : decode cc pc = .ok (.bastore, 1))
    {r : Option Nat} {i x : Int32} {F : Mp → Option α} (h : (sI w r t i (vp_nar .boolean x)).bind F = some res) (kk : ∀ w' H' locs', xhd G cl w' H' → xS G s H' locs' → H'.size = H.size → F w' = some res → W p l e R s m args below meth c H' locs' cells slots Q (F0 m (pc + 1) ls rest)) : W p l e R s m args below meth c H locs cells slots Q (F0 m pc ls (.int x :: .int i :: va_rf r :: rest)) := by
  obtain ⟨w', hv, hF⟩ := Option.bind_eq_some_iff.mp h
  obtain ⟨a, n, f, rfl, h2, h3, rfl⟩ := sI_inv hv
  obtain ⟨hA, h1⟩ := hH a _ h2
  refine W.zast C0.1 C0.2.1 h1 ((hE.1.2 t _ (xT_at ht)).1 n (fun j => .int (f j))) (fun q => by cases q) (by show ¬ (i < 0 ∨ (arrV _ _ _).slots.size ≤ _); rw [arrV_size]; exact h3) rfl rfl hdg fun H1 e z oq => ?_
  refine kk _ H1 _ (xhd_set hH h2 ?_ oq) (hS.put z oq hA) z hF
  show H1[a]? = some (vp_cell _ _)
  rw [e]
  show some ((vp_cell _ (n, .inl f)).setSlot _ _) = some (vp_cell _ (n, .inl _))
  rw [vp_cell_i, vp_cell_i, arrV_store]
  congr 2
  funext q
  by_cases hq : q = i.toNatClampNeg
  · subst hq
    simp [updV, upd, vp_nar]
    try rfl
  · simp [updV, upd, hq]
theorem x_obj (C0 : CallFix p m c cc nL s args Ts own) (hl : xL ls nL lv) {idx : Nat} (h1 : Cond.methodLink own idx Lib.objectInit ∈ Ts) (h2 : Cond.instanceMethod Lib.objectInit ∈ Ts) (h3 : Cond.code Lib.objectInit ⟨#[0xb1]⟩ 1 none ∈ Ts) {a : Nat} (hdg : decode cc pc = .ok (.invokespecial idx, 3)) (hR1 : 1 ≤ R.frames) (hR2 : (rest.map fun v => v.category).sum + 12 ≤ R.locals)
    (kk : W p l e R s m args below meth c H locs cells slots Q (F0 m (pc + 3) ls rest)) : W p l e R s m args below meth c H locs cells slots Q (F0 m pc ls (va_rf (some a) :: rest)) :=
  W.objInit C0.1 C0.2.1 C0.2.2.2.1 (C0.2.2.2.2 _ h1) (C0.2.2.2.2 _ h2) (C0.2.2.2.2 _ h3) rfl (by rw [C0.2.2.1]; exact hl.1) rfl hdg hR1 (by show 2 * 0 + _ + 12 ≤ _; omega) kk
end XM
