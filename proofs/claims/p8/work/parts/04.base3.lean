/-! HEAP: rows over the world as a function -/
def xT (G : Gx) (aty : List FieldType) : List (ClassId × FieldType) := (List.range aty.length).map fun t => (G.2.2.1 t, aty.getD t .int)
theorem xT_at {G : Gx} {aty : List FieldType} {t : Nat} {ty : FieldType} (h : aty[t]? = some ty) : (xT G aty)[t]? = some (G.2.2.1 t, ty) := by
  have hl : t < aty.length := (List.getElem?_eq_some_iff.mp h).1
  unfold xT
  rw [List.getElem?_map, List.getElem?_range hl]
  simp [List.getD, h]
def xao : List String := ["LeafMatches$Leaf", "LeafMatches$Face", "LeafMatches$Piece"]
def xsh (j : Nat) : Int32 := [0, -1, 1, -2, 2, -3, 3].getD j 0
/-! THE JDK's OWN: statics, tables of digits, the text of the kinds' letters -/
def xd1 (j : Nat) : Int32 := Int32.ofNat (48 + j % 10)
def xd2 (j : Nat) : Int32 := Int32.ofNat (48 + j / 10)
abbrev y_ens : MethodName := ⟨"java/lang/AbstractStringBuilder", "ensureCapacityInternal", "(I)V"⟩
def xJD (G : Gx) (s : State) : Prop :=
  va_Z "java/lang/String" "COMPACT_STRINGS" "Z" (.int 1) (xA G) s s.heap ∧
  (va_Z "java/lang/Integer" "DigitOnes" "[B" (.ref (G.2.2.2 1)) (xA G) s s.heap ∧ va_T .byte (G.2.2.2 1) 100 (fun j => .int (xd1 j)) (xA G) s s.heap) ∧
  (va_Z "java/lang/Integer" "DigitTens" "[B" (.ref (G.2.2.2 2)) (xA G) s s.heap ∧ va_T .byte (G.2.2.2 2) 100 (fun j => .int (xd2 j)) (xA G) s s.heap) ∧
  vx_Zq "jdk/internal/util/Preconditions" "SIOOBE_FORMATTER" "Ljava/util/function/BiFunction;" (xA G) s s.heap ∧
  (vk_S 1 [4] [[66, 83, 82, 68]] (fun _ => G.2.2.2 3) (fun _ => G.2.2.2 4) (xA G) s s.heap ∧ vk_R "LeafMatches" 276 "BSRD" (G.2.2.2 3) s ∧ va_Nw (Cond.selects "java/lang/StringBuilder" y_ens y_ens) s)
theorem xJD.moved {G : Gx} {s U : State} {H : Heap} {locs : List Loc} (h : xJD G s) (hS : xS G s H locs) (hU : U.heap = H) (hW : s.WarmedH U.vm) : xJD G U := by
  obtain ⟨h1, ⟨h2, h3⟩, ⟨h4, h5⟩, h6, h7, h8, h9⟩ := h
  subst hU
  exact ⟨va_Z.moved hW.alike (h1.kept hS.2.1), ⟨va_Z.moved hW.alike (h2.kept hS.2.1), va_T.moved hW.alike (h3.kept hS.2.1)⟩, ⟨va_Z.moved hW.alike (h4.kept hS.2.1), va_T.moved hW.alike (h5.kept hS.2.1)⟩, vx_Zq.moved hW.alike (h6.kept hS.2.1), vk_S.moved hW.alike (h7.kept hS.2.1), vk_R.warm hW h8, word_at hW (Or.inl rfl) h9⟩
theorem xJD.calling {G : Gx} {U : State} (g : JFrame) (mk : MethodId) (a : Array Value) (h : xJD G U) : xJD G (U.calling g mk a) := by
  obtain ⟨h1, ⟨h2, h3⟩, ⟨h4, h5⟩, h6, h7, h8, h9⟩ := h
  have hal : U.vm.Alike (U.calling g mk a).vm := Vm.Alike.refl U.vm
  exact ⟨va_Z.moved hal h1, ⟨va_Z.moved hal h2, va_T.moved hal h3⟩, ⟨va_Z.moved hal h4, va_T.moved hal h5⟩, vx_Zq.moved hal h6, vk_S.moved hal h7, vk_R.same (u := U) rfl h8, va_Nw.same rfl (u := U) rfl h9⟩
/-- what a method may lean on at its start: the tables, constants, and that the world lies above G.1 -/
def xE (G : Gx) (cl : List vw_C) (aty : List FieldType) (s : State) : Prop := va_K G.2.1 cl (xT G aty) s ∧ (G.1 ≤ s.heap.size ∧ xJD G s) ∧ (∀ w ∈ xnw, va_Nw w s) ∧ (va_Z "LeafMatches" "SHIFTS" "[I" (.ref (G.2.2.2 0)) (xA G) s s.heap ∧ va_T .int (G.2.2.2 0) 7 (fun j => .int (xsh j)) (xA G) s s.heap) ∧
  (vx_Zq Bundle.tN "UNASSIGNED_STACK" Bundle.steD (xA G) s s.heap ∧ vx_Zq Bundle.tN "SUPPRESSED_SENTINEL" Bundle.listD (xA G) s s.heap) ∧ (∀ q ∈ xstr, ∃ a, vk_R q.1 q.2.1 q.2.2 a s) ∧ (∀ q ∈ xnc, va_Nc q.1 q.2 s) ∧ (∀ q ∈ xao, va_AO q s)
theorem xE.moved {G : Gx} {cl : List vw_C} {aty : List FieldType} {s U : State} {H : Heap} {locs : List Loc} (h : xE G cl aty s) (hS : xS G s H locs) (hU : U.heap = H) (hW : s.WarmedH U.vm) : xE G cl aty U := by
  obtain ⟨h1, ⟨h2, hJ⟩, h3, ⟨h4, h5⟩, ⟨h6, h7⟩, h8, h9, h10⟩ := h
  subst hU
  exact ⟨va_K.moved hW.alike h1, ⟨Nat.le_trans h2 hS.1, hJ.moved hS rfl hW⟩, fun w hw => xnw_warm hW w hw (h3 w hw), ⟨va_Z.moved hW.alike (h4.kept hS.2.1), va_T.moved hW.alike (h5.kept hS.2.1)⟩,
    ⟨vx_Zq.moved hW.alike (h6.kept hS.2.1), vx_Zq.moved hW.alike (h7.kept hS.2.1)⟩, fun q hq => by
      obtain ⟨a, ha⟩ := h8 q hq
      exact ⟨a, vk_R.warm hW ha⟩, fun q hq => (h9 q hq).moved hW.alike, fun q hq => (h10 q hq).moved hW.alike⟩
theorem xE.calling {G : Gx} {cl : List vw_C} {aty : List FieldType} {U : State} (g : JFrame) (mk : MethodId) (a : Array Value) (h : xE G cl aty U) : xE G cl aty (U.calling g mk a) := by
  obtain ⟨h1, ⟨h2, hJ⟩, h3, ⟨h4, h5⟩, ⟨h6, h7⟩, h8, h9, h10⟩ := h
  have hal : U.vm.Alike (U.calling g mk a).vm := Vm.Alike.refl U.vm
  exact ⟨va_K.moved hal h1, ⟨h2, hJ.calling g mk a⟩, fun w hw => va_Nw.same (xnw_tab w hw) (rfl : U.vm = (U.calling g mk a).vm) (h3 w hw), ⟨va_Z.moved hal h4, va_T.moved hal h5⟩,
    ⟨vx_Zq.moved hal h6, vx_Zq.moved hal h7⟩, fun q hq => by
      obtain ⟨b, hb⟩ := h8 q hq
      exact ⟨b, vk_R.same (rfl : (U.calling g mk a).vm = U.vm) hb⟩, fun q hq => (h9 q hq).moved hal, fun q hq => (h10 q hq).moved hal⟩
def xPc (G : Gx) (cl : List vw_C) (aty : List FieldType) (w : Mp) (sz : Nat) (av : List Value) : Array Value → State → Prop := va_Pc av (fun U => xE G cl aty U ∧ xhd G cl w U.heap ∧ U.heap.size = sz)
theorem xPc_blind {G : Gx} {cl : List vw_C} {aty : List FieldType} {w : Mp} {sz : Nat} {av : List Value} : FrameBlind (xPc G cl aty w sz av) := fun a U g mk q => by
  obtain ⟨q0, q1, q2, q3⟩ := q
  exact ⟨q0, q1.calling g mk a, q2, q3⟩
/-- a method's end: its answer, the world behind it, the heap's size, all below as it was -/
def xQ (G : Gx) (cl : List vw_C) (v : Option Value) (w' : Mp) (sz' : Nat) : Array Value → State → Outcome → State → Prop := fun _ st oc t => oc = .returned v ∧ xhd G cl w' t.heap ∧ t.heap.size = sz' ∧ va_F (xA G) st t
section XH
variable {p : Program} {l : Launch} {e : Env} {R : Room} {s : State} {m : MethodId} {args : Array Value} {below : List Frame} {meth : Method} {c : Code} {H : Heap} {locs : List Loc} {cells slots : Nat} {Q : State → Prop}
variable {cc : ByteArray} {pc nL : Nat} {ls : Array Slot} {rest : List Value} {Ts : List Cond} {own : String}
variable {G : Gx} {cl : List vw_C} {aty : List FieldType} {w : Mp} {α : Type} {res : α}
theorem x_getI (C0 : CallFix p m c cc nL s args Ts own) (hE : xE G cl aty s) (hH : xhd G cl w H) {C : String} {T : u_T} {N ci index : Nat} (hc : cl[ci]? = some (C, T, N)) (hin : ∀ w ∈ u_ws C T N, w ∈ Ts) (k : Nat) (hk : k < N) (hlink : Cond.fieldLink own index (T k).1 (T k).2.1 (T k).2.2.1 ∈ Ts) (hdg : decode cc pc = .ok (.getfield index, 3))
    {r : Option Nat} {F : Int32 → Option α} (h : (gI w r ci k).bind F = some res) (kk : ∀ v, F v = some res → W p l e R s m args below meth c H locs cells slots Q (F0 m (pc + 3) ls (.int v :: rest))) : W p l e R s m args below meth c H locs cells slots Q (F0 m pc ls (va_rf r :: rest)) := by
  obtain ⟨v, hv, hF⟩ := Option.bind_eq_some_iff.mp h
  obtain ⟨a, fs, rfl, h2, h3⟩ := gI_inv hv
  exact va_get (D := G.2.1) (ws := [(a, .inr (ci, fs))]) C0.1 C0.2.1 C0.2.2.2.2 hin C0.2.2.2.1 hE.1 (xhd_one hH h2) 0 rfl hc k hk (C0.2.2.2.2 _ hlink) (fun _ h9 => h9) h3 hdg (kk v hF)
theorem x_getR (C0 : CallFix p m c cc nL s args Ts own) (hE : xE G cl aty s) (hH : xhd G cl w H) {C : String} {T : u_T} {N ci index : Nat} (hc : cl[ci]? = some (C, T, N)) (hin : ∀ w ∈ u_ws C T N, w ∈ Ts) (k : Nat) (hk : k < N) (hlink : Cond.fieldLink own index (T k).1 (T k).2.1 (T k).2.2.1 ∈ Ts) (hdg : decode cc pc = .ok (.getfield index, 3))
    {r : Option Nat} {F : Option Nat → Option α} (h : (gR w r ci k).bind F = some res) (kk : ∀ v, F v = some res → W p l e R s m args below meth c H locs cells slots Q (F0 m (pc + 3) ls (va_rf v :: rest))) : W p l e R s m args below meth c H locs cells slots Q (F0 m pc ls (va_rf r :: rest)) := by
  obtain ⟨v, hv, hF⟩ := Option.bind_eq_some_iff.mp h
  obtain ⟨a, fs, rfl, h2, h3⟩ := gR_inv hv
  exact va_get (D := G.2.1) (ws := [(a, .inr (ci, fs))]) C0.1 C0.2.1 C0.2.2.2.2 hin C0.2.2.2.1 hE.1 (xhd_one hH h2) 0 rfl hc k hk (C0.2.2.2.2 _ hlink) (fun _ h9 => h9) h3 hdg (kk v hF)
theorem x_iald (C0 : CallFix p m c cc nL s args Ts own) (hE : xE G cl aty s) (hH : xhd G cl w H) {t : Nat} (ht : aty[t]? = some .int) (hdg : decode cc pc = .ok (.iaload, 1))
    {r : Option Nat} {i : Int32} {F : Int32 → Option α} (h : (aI w r t i).bind F = some res) (kk : ∀ v, F v = some res → W p l e R s m args below meth c H locs cells slots Q (F0 m (pc + 1) ls (.int v :: rest))) : W p l e R s m args below meth c H locs cells slots Q (F0 m pc ls (.int i :: va_rf r :: rest)) := by
  obtain ⟨v, hv, hF⟩ := Option.bind_eq_some_iff.mp h
  obtain ⟨a, n, f, rfl, h2, h3, rfl⟩ := aI_inv hv
  exact va_iald (D := G.2.1) (ws := [(a, .inl (G.2.2.1 t, n, .inl f))]) C0.1 C0.2.1 hE.1 (xhd_one hH h2) 0 t rfl (xT_at ht) h3 hdg (kk _ hF)
theorem x_aald (C0 : CallFix p m c cc nL s args Ts own) (hE : xE G cl aty s) (hH : xhd G cl w H) {t : Nat} {C : String} (ht : aty[t]? = some (.object C)) (hdg : decode cc pc = .ok (.aaload, 1))
    {r : Option Nat} {i : Int32} {F : Option Nat → Option α} (h : (aR w r t i).bind F = some res) (kk : ∀ v, F v = some res → W p l e R s m args below meth c H locs cells slots Q (F0 m (pc + 1) ls (va_rf v :: rest))) : W p l e R s m args below meth c H locs cells slots Q (F0 m pc ls (.int i :: va_rf r :: rest)) := by
  obtain ⟨v, hv, hF⟩ := Option.bind_eq_some_iff.mp h
  obtain ⟨a, n, f, rfl, h2, h3, rfl⟩ := aR_inv hv
  exact va_aldq (D := G.2.1) (ws := [(a, .inl (G.2.2.1 t, n, .inr (.inr (.inr (.inr f)))))]) C0.1 C0.2.1 hE.1 (xhd_one hH h2) 0 t rfl (xT_at ht) h3 hdg (kk _ hF)
theorem x_alen (C0 : CallFix p m c cc nL s args Ts own) (hE : xE G cl aty s) (hH : xhd G cl w H) {t : Nat} {ty : FieldType} (ht : aty[t]? = some ty) (hdg : decode cc pc = .ok (.arraylength, 1))
    {r : Option Nat} {F : Int32 → Option α} (h : (aL w r t).bind F = some res) (kk : ∀ v, F v = some res → W p l e R s m args below meth c H locs cells slots Q (F0 m (pc + 1) ls (.int v :: rest))) : W p l e R s m args below meth c H locs cells slots Q (F0 m pc ls (va_rf r :: rest)) := by
  obtain ⟨v, hv, hF⟩ := Option.bind_eq_some_iff.mp h
  obtain ⟨a, q, rfl, h2, rfl⟩ := aL_inv hv
  exact va_alen (D := G.2.1) (ws := [(a, .inl (G.2.2.1 t, q))]) C0.1 C0.2.1 hE.1 (xhd_one hH h2) 0 t rfl (xT_at ht) rfl hdg (kk _ hF)
theorem x_put (C0 : CallFix p m c cc nL s args Ts own) (hE : xE G cl aty s) (hH : xhd G cl w H) (hS : xS G s H locs) {C : String} {T : u_T} {N ci index : Nat} (hc : cl[ci]? = some (C, T, N)) (hin : ∀ w ∈ u_ws C T N, w ∈ Ts) (ty0 : Nat → FieldType) (hty : ∀ k, k < N → parseFieldDescriptor (T k).2.2.1 = some (ty0 k)) (hnm : ∀ a, a < N → ∀ b, b < N → a ≠ b → (T a).2.1 ≠ (T b).2.1) (k : Nat) (hk : k < N) (hlink : Cond.fieldLink own index (T k).1 (T k).2.1 (T k).2.2.1 ∈ Ts) (hfin : (T k).2.2.2 = false) {v : Value} (hn : narrow (ty0 k) v = v) (hfit : fits (ty0 k) v = true) (hdg : decode cc pc = .ok (.putfield index, 3))
    {r : Option Nat} {F : Mp → Option α} (h : (pF w r ci k v).bind F = some res) (kk : ∀ w' H' locs', xhd G cl w' H' → xS G s H' locs' → H'.size = H.size → F w' = some res → W p l e R s m args below meth c H' locs' cells slots Q (F0 m (pc + 3) ls rest)) : W p l e R s m args below meth c H locs cells slots Q (F0 m pc ls (v :: va_rf r :: rest)) := by
  obtain ⟨w', hv, hF⟩ := Option.bind_eq_some_iff.mp h
  obtain ⟨a, fs, rfl, h2, hl, rfl⟩ := pF_inv hv
  have hap := va_apart (own := own) C0.2.2.2.2 hin ty0 hty hnm hE.1 hc
  obtain ⟨hA, r0, h1, cell, q1, q2, q3, q4⟩ := hH a _ h2
  have hr : r0 = (C, T, N) := Option.some.inj (h1.symm.trans hc)
  subst hr
  obtain ⟨hSl, hfc, kC, hkC, hkind⟩ := hE.1.1 ci _ hc
  obtain ⟨cf, kf, fi, f, hi, hsl⟩ := hSl k hk
  have hlay := C0.2.2.2.2 _ (hin _ (u_in_lay hk))
  unfold u_lay at hlay
  rw [if_neg (by rw [hfin]; decide)] at hlay
  have hst := (u_facts hfc hkC (u_lays C0.2.2.2.2 hin hk) hi).1
  have h6 := u_store hfc hkC hkind hlay hi (hty k hk) hn hfit
  refine W.putK C0.1 C0.2.1 (f := f) ⟨C0.2.2.2.1, C0.2.2.2.2 _ hlink, ⟨_, _, _, hi⟩, hst⟩ (by rw [q2]; exact h6) q1 q3 (by rw [hsl]; exact k2_hasslot (q4 k hk)) rfl rfl hdg fun H' e1 e2 e3 => ?_
  rw [hsl] at e1 ⊢
  exact kk _ H' _ (xhd_set (e := .inl (ci, fs.set k v)) hH h2 ⟨_, hc, t_OB.to (V := updV (vp_V fs) k v) ⟨_, e1, q2, q3, t_set q4 hap hk v⟩ (fun j _ => vp_updV_set hl v j)⟩ e3) (hS.put e2 e3 hA) e2 hF
theorem x_iast (C0 : CallFix p m c cc nL s args Ts own) (hE : xE G cl aty s) (hH : xhd G cl w H) (hS : xS G s H locs) {t : Nat} (ht : aty[t]? = some .int) (hdg : decode cc pc = .ok (.iastore, 1))
    {r : Option Nat} {i x : Int32} {F : Mp → Option α} (h : (sI w r t i x).bind F = some res) (kk : ∀ w' H' locs', xhd G cl w' H' → xS G s H' locs' → H'.size = H.size → F w' = some res → W p l e R s m args below meth c H' locs' cells slots Q (F0 m (pc + 1) ls rest)) : W p l e R s m args below meth c H locs cells slots Q (F0 m pc ls (.int x :: .int i :: va_rf r :: rest)) := by
  obtain ⟨w', hv, hF⟩ := Option.bind_eq_some_iff.mp h
  obtain ⟨a, n, f, rfl, h2, h3, rfl⟩ := sI_inv hv
  obtain ⟨hA, h1⟩ := hH a _ h2
  refine W.iast C0.1 C0.2.1 h1 ((hE.1.2 t _ (xT_at ht)).1 n (fun j => .int (f j))) (fun q => by cases q) (by show ¬ (i < 0 ∨ (arrV _ _ _).slots.size ≤ _); rw [arrV_size]; exact h3) rfl rfl hdg fun H1 e z oq => ?_
  refine kk _ H1 _ (xhd_set hH h2 ?_ oq) (hS.put z oq hA) z hF
  show H1[a]? = some (vp_cell _ _)
  rw [e]
  show some ((vp_cell _ (n, .inl f)).setSlot _ _) = some (vp_cell _ (n, .inl _))
  rw [vp_cell_i, vp_cell_i, arrV_store]
  congr 2
  funext q
  by_cases hq : q = i.toNatClampNeg
  · subst hq
    simp [updV, upd]
  · simp [updV, upd, hq]
theorem x_aast (C0 : CallFix p m c cc nL s args Ts own) (hE : xE G cl aty s) (hH : xhd G cl w H) (hS : xS G s H locs) {t ci : Nat} {C : String} {T : u_T} {N : Nat} (ht : aty[t]? = some (.object C)) (hc : cl[ci]? = some (C, T, N)) (hdg : decode cc pc = .ok (.aastore, 1))
    {r v : Option Nat} {i : Int32} {F : Mp → Option α} (h : (sR w r t ci i v).bind F = some res) (kk : ∀ w' H' locs', xhd G cl w' H' → xS G s H' locs' → H'.size = H.size → F w' = some res → W p l e R s m args below meth c H' locs' cells slots Q (F0 m (pc + 1) ls rest)) : W p l e R s m args below meth c H locs cells slots Q (F0 m pc ls (va_rf v :: .int i :: va_rf r :: rest)) := by
  obtain ⟨w', hv, hF⟩ := Option.bind_eq_some_iff.mp h
  obtain ⟨a, n, f, rfl, h2, hin, h4, rfl⟩ := sR_inv hv
  obtain ⟨hA, h1⟩ := hH a _ h2
  have hlt : i.toNatClampNeg < n := Nat.not_le.mp fun q => hin (Or.inr q)
  have h0 : ¬ i < 0 := fun q => hin (Or.inl q)
  have fin : ∀ (x : Option Nat) (H1 : Heap), H1[a]? = some ((vp_cell (G.2.2.1 t) (n, .inr (.inr (.inr (.inr f))))).setSlot i.toNatClampNeg (va_rf x)) → H1[a]? = some (vp_cell (G.2.2.1 t) (n, .inr (.inr (.inr (.inr (va_up f i.toNatClampNeg x)))))) := by
    intro x H1 e
    rw [e, vp_cell_q, vp_cell_q, arrV_store]
    congr 2
    funext q
    by_cases hq : q = i.toNatClampNeg
    · subst hq
      simp [updV, va_up]
    · simp [updV, va_up, hq]
  cases v with
  | none =>
    refine va_WaastN (C := C) C0.1 C0.2.1 h1 ((hE.1.2 t _ (xT_at ht)).1 n (fun j => va_rf (f j))) (fun h => by cases h) (by show ¬ (i < 0 ∨ (arrV _ _ _).slots.size ≤ _); rw [arrV_size]; exact hin) rfl rfl hdg fun H1 e z oq => ?_
    exact kk _ H1 _ (xhd_set (e := .inr (t, n, .inr (.inr (.inr (.inr (va_up f i.toNatClampNeg none)))))) hH h2 (fin none H1 e) oq) (hS.put z oq hA) z hF
  | some b =>
    obtain ⟨fs, hb⟩ := h4 b rfl
    obtain ⟨-, r', hr', cellV, g1, g2, g3, -⟩ := hH b _ hb
    have hcls := (hE.1.1 ci _ hc).2
    obtain ⟨kA, comp, k1, k2, k3, -⟩ := (hE.1.2 t _ (xT_at ht)).2
    have hcomp : comp = G.2.1.1 ci := Option.some.inj (k3.symm.trans hcls.1)
    subst hcomp
    obtain ⟨kC, hkC, -⟩ := hcls.2
    refine W.aast C0.1 C0.2.1 h1 (fun q h => by cases h) (fun h => by cases h) k1 k2 rfl hkC ⟨h0, by show _ < (arrV _ _ _).slots.size; rw [arrV_size]; exact hlt⟩ g1 (fun q h => by rw [g3] at h; cases h) (by rw [g2]; exact hkC) (by rw [g2]; exact va_assign hcls) rfl rfl hdg fun H1 e z oq => ?_
    exact kk _ H1 _ (xhd_set (e := .inr (t, n, .inr (.inr (.inr (.inr (va_up f i.toNatClampNeg (some b))))))) hH h2 (fin (some b) H1 e) oq) (hS.put z oq hA) z hF
/-! ends -/
theorem x_iret (C0 : CallFix p m c cc nL s args Ts own) (hr : meth.sig.returnType = some .int) (hlocks : meth.locks = false) (hH : xhd G cl w H) (hS : xS G s H locs) {sz : Nat} (hz : H.size = sz) {v : Int32} (hdg : decode cc pc = .ok (.ireturn, 1)) : W p l e R s m args below meth c H locs cells slots (MQ below (xQ G cl (some (.int v)) w sz) args s cells slots (xA G)) (F0 m pc ls [.int v]) :=
  W.iret C0.1 C0.2.1 hr (fun t ht _ => ⟨rfl, by rw [ht]; exact hH, by rw [ht]; exact hz, hS.F ht⟩) hS.2.2 hdg hlocks
theorem x_zret (C0 : CallFix p m c cc nL s args Ts own) {ty : FieldType} (hr : meth.sig.returnType = some ty) (hlocks : meth.locks = false) (hH : xhd G cl w H) (hS : xS G s H locs) {sz : Nat} (hz : H.size = sz) {v : Int32} (hn : narrow ty (.int v) = .int v) (hdg : decode cc pc = .ok (.ireturn, 1)) : W p l e R s m args below meth c H locs cells slots (MQ below (xQ G cl (some (.int v)) w sz) args s cells slots (xA G)) (F0 m pc ls [.int v]) :=
  W.zret C0.1 C0.2.1 hr hn (fun t ht _ => ⟨rfl, by rw [ht]; exact hH, by rw [ht]; exact hz, hS.F ht⟩) hS.2.2 hdg hlocks
theorem x_lret (C0 : CallFix p m c cc nL s args Ts own) (hr : meth.sig.returnType = some .long) (hlocks : meth.locks = false) (hH : xhd G cl w H) (hS : xS G s H locs) {sz : Nat} (hz : H.size = sz) {v : Int64} (hdg : decode cc pc = .ok (.lreturn, 1)) : W p l e R s m args below meth c H locs cells slots (MQ below (xQ G cl (some (.long v)) w sz) args s cells slots (xA G)) (F0 m pc ls [.long v]) :=
  W.lret C0.1 C0.2.1 hr (fun t ht _ => ⟨rfl, by rw [ht]; exact hH, by rw [ht]; exact hz, hS.F ht⟩) hS.2.2 hdg hlocks
theorem x_aret (C0 : CallFix p m c cc nL s args Ts own) {rt : FieldType} (hr : meth.sig.returnType = some rt) (hrt : (∃ n, rt = .object n) ∨ ∃ t, rt = .array t) (hlocks : meth.locks = false) (hH : xhd G cl w H) (hS : xS G s H locs) {sz : Nat} (hz : H.size = sz) {v : Option Nat} (hdg : decode cc pc = .ok (.areturn, 1)) : W p l e R s m args below meth c H locs cells slots (MQ below (xQ G cl (some (va_rf v)) w sz) args s cells slots (xA G)) (F0 m pc ls [va_rf v]) :=
  W.aret C0.1 C0.2.1 hr hrt (by cases v with | none => exact Or.inl rfl | some a => exact Or.inr ⟨a, rfl⟩) (fun t ht _ => ⟨rfl, by rw [ht]; exact hH, by rw [ht]; exact hz, hS.F ht⟩) hS.2.2 hdg hlocks
theorem x_vret (C0 : CallFix p m c cc nL s args Ts own) (hr : meth.sig.returnType = none) (hlocks : meth.locks = false) (hH : xhd G cl w H) (hS : xS G s H locs) {sz : Nat} (hz : H.size = sz) (hdg : decode cc pc = .ok (.return_, 1)) : W p l e R s m args below meth c H locs cells slots (MQ below (xQ G cl none w sz) args s cells slots (xA G)) (F0 m pc ls []) :=
  W.vret C0.1 C0.2.1 hr (fun t ht _ => ⟨rfl, by rw [ht]; exact hH, by rw [ht]; exact hz, hS.F ht⟩) hS.2.2 hdg hlocks
/-! calls -/
theorem x_call {v : Option Value} {a : Array Value} {st0 : List Value} {w' : Mp} {sz' mc ms : Nat} (hS : xS G s H locs) (hr : va_Run p l e R s m args below meth c H locs cells slots mc ms (F0 m pc ls st0) rest (xQ G cl v w' sz' a) (xA G))
    (kk : ∀ H' locs', xhd G cl w' H' → xS G s H' locs' → H'.size = sz' → W p l e R s m args below meth c H' locs' (cells + mc) (slots + ms) Q (F0 m (pc + 3) ls (v.toList ++ rest))) : W p l e R s m args below meth c H locs cells slots Q (F0 m pc ls st0) := by
  intro T hT X
  obtain ⟨v', st₀, t, T', L, h0, X', hL, e1, e2, ⟨hv, hw, hz, hf⟩, st⟩ := hr T hT X
  cases hv
  obtain ⟨hf1, hf2⟩ := hf
  rw [h0] at hf1 hf2
  obtain ⟨t2, a1, b1⟩ := kk T'.heap (locs ++ L) (by rw [e1]; exact hw) ⟨Nat.le_trans hS.1 (by rw [e1]; exact hf1), fun q h1 h2 => by rw [e1, hf2 q (Nat.lt_of_lt_of_le h1 hS.1) h2]; exact hS.2.1 q h1 h2, fun q hq => by
      rcases List.mem_append.mp hq with h | h
      · exact hS.2.2 q h
      · exact hL q h⟩ (by rw [e1]; exact hz) T' rfl X'
  exact ⟨t2, st t2 a1, b1⟩
theorem x_pre (hE : xE G cl aty s) (hH : xhd G cl w H) (hS : xS G s H locs) {av : List Value} (U : State) (hU : U.heap = H) (hW : s.WarmedH U.vm) : xPc G cl aty w H.size av av.toArray U :=
  ⟨rfl, hE.moved hS hU hW, by rw [hU]; exact hH, by rw [hU]⟩
theorem x_preS (hE : xE G cl aty s) (hH : xhd G cl w H) (hS : xS G s H locs) {av : List Value} : PreS s H (xPc G cl aty w H.size av) av := ⟨xPc_blind, fun U hU hW => x_pre hE hH hS U hU hW⟩
theorem x_preV (hE : xE G cl aty s) (hH : xhd G cl w H) (hS : xS G s H locs) {b ci : Nat} {C : String} {T : u_T} {N : Nat} {fs : List Value} (hc : cl[ci]? = some (C, T, N)) (hb : w b = some (.inl (ci, fs))) {As : List Value} : PreV s H C b (xPc G cl aty w H.size (.ref b :: As)) As :=
  ⟨xPc_blind, va_recv hE.1 (xhd_one hH hb) hc (q0 := 0) rfl, fun U hU hW => x_pre hE hH hS U hU hW⟩
end XH
/-- the receiver of a call: it is there and of the class -/
def xo (w : Mp) (r : Option Nat) (ci : Nat) : Option Nat := match r with
  | none => none
  | some a => match w a with
    | some (.inl o) => if o.1 = ci then some a else none
    | _ => none
theorem xo_inv {w : Mp} {r : Option Nat} {ci b : Nat} (h : xo w r ci = some b) : r = some b ∧ ∃ fs, w b = some (.inl (ci, fs)) := by
  unfold xo at h
  split at h
  · cases h
  · rename_i a
    split at h
    · rename_i o ho
      split at h
      · rename_i hc
        cases h
        exact ⟨rfl, o.2, by rw [ho, ← hc]⟩
      · cases h
    · cases h
/-! methods that only read: the heap is as it was -/
def qP (v : Option Value) : Array Value → State → Outcome → State → Prop := fun _ st oc t => oc = .returned v ∧ t.heap = st.heap
theorem x_le0 {cells slots a b : Nat} (h1 : cells ≤ a) (h2 : slots ≤ b) : cells + 0 ≤ a ∧ slots + 0 ≤ b := ⟨h1, h2⟩
theorem x_narR (ty : FieldType) (r : Option Nat) : narrow ty (va_rf r) = va_rf r := by cases r <;> cases ty <;> rfl
theorem x_fitR {ty : FieldType} (h : (∃ n, ty = .object n) ∨ ∃ t, ty = .array t) (r : Option Nat) : fits ty (va_rf r) = true := by
  rcases h with ⟨n, rfl⟩ | ⟨t, rfl⟩ <;> cases r <;> rfl
theorem x_nar {ty : FieldType} {v : Int32} (ht : ∀ x, ∃ y, narrow ty (.int x) = .int y) (h : vp_nar ty v = v) : narrow ty (.int v) = .int v := by
  obtain ⟨y, hy⟩ := ht v
  unfold vp_nar at h
  rw [hy] at h
  have h9 : y = v := h
  rw [hy, h9]
theorem x_ifs {α : Type} {c : Prop} [Decidable c] {A : Option α} {res : α} (h : (if c then A else none) = some res) : c ∧ A = some res := by
  by_cases hc : c
  · rw [if_pos hc] at h; exact ⟨hc, h⟩
  · rw [if_neg hc] at h; cases h
def xJ1 {a b : Type} (f : a → b) (F : (a → b) → b) : b := F f
def xJ2 {a1 a2 b : Type} (f : a1 → a2 → b) (F : (a1 → a2 → b) → b) : b := F f
def xJ3 {a1 a2 a3 b : Type} (f : a1 → a2 → a3 → b) (F : (a1 → a2 → a3 → b) → b) : b := F f
def xJ4 {a1 a2 a3 a4 b : Type} (f : a1 → a2 → a3 → a4 → b) (F : (a1 → a2 → a3 → a4 → b) → b) : b := F f
theorem xj1 {a b : Type} {f : a → Option b} {F : (a → Option b) → Option b} {res : b} {P : Prop} (h : xJ1 f F = some res) (k : ∀ J : a → Option b, (∀ x, J x = f x) → F J = some res → P) : P := k f (fun _ => rfl) h
theorem xj2 {a1 a2 b : Type} {f : a1 → a2 → Option b} {F : (a1 → a2 → Option b) → Option b} {res : b} {P : Prop} (h : xJ2 f F = some res) (k : ∀ J : a1 → a2 → Option b, (∀ x y, J x y = f x y) → F J = some res → P) : P := k f (fun _ _ => rfl) h
theorem xj3 {a1 a2 a3 b : Type} {f : a1 → a2 → a3 → Option b} {F : (a1 → a2 → a3 → Option b) → Option b} {res : b} {P : Prop} (h : xJ3 f F = some res) (k : ∀ J : a1 → a2 → a3 → Option b, (∀ x y z, J x y z = f x y z) → F J = some res → P) : P := k f (fun _ _ _ => rfl) h
theorem xj4 {a1 a2 a3 a4 b : Type} {f : a1 → a2 → a3 → a4 → Option b} {F : (a1 → a2 → a3 → a4 → Option b) → Option b} {res : b} {P : Prop} (h : xJ4 f F = some res) (k : ∀ J : a1 → a2 → a3 → a4 → Option b, (∀ x y z u, J x y z u = f x y z u) → F J = some res → P) : P := k f (fun _ _ _ _ => rfl) h
section XP
variable {p : Program} {l : Launch} {e : Env} {R : Room} {s : State} {m : MethodId} {args : Array Value} {below : List Frame} {meth : Method} {c : Code} {H : Heap} {locs : List Loc} {cells slots : Nat} {Q : State → Prop}
variable {cc : ByteArray} {pc nL : Nat} {ls : Array Slot} {rest : List Value} {Ts : List Cond} {own : String}
variable {G : Gx} {cl : List vw_C} {aty : List FieldType} {w : Mp} {α : Type} {res : α}
theorem x_null (C0 : CallFix p m c cc nL s args Ts own) (hdg : decode cc pc = .ok (.aconst_null, 1)) (k : W p l e R s m args below meth c H locs cells slots Q (F0 m (pc + 1) ls (va_rf none :: rest))) : W p l e R s m args below meth c H locs cells slots Q (F0 m pc ls rest) := lv_null C0.1 C0.2.1 hdg k
theorem x_iretP (C0 : CallFix p m c cc nL s args Ts own) (hr : meth.sig.returnType = some .int) (hlocks : meth.locks = false) (hP : H = s.heap ∧ locs = []) {v : Int32} (hdg : decode cc pc = .ok (.ireturn, 1)) : W p l e R s m args below meth c H locs cells slots (MQ below (qP (some (.int v))) args s cells slots (fun _ => False)) (F0 m pc ls [.int v]) := by
  obtain ⟨rfl, rfl⟩ := hP
  exact W.iret C0.1 C0.2.1 hr (fun t ht _ => ⟨rfl, ht⟩) (fun q h => by cases h) hdg hlocks
theorem x_zretP (C0 : CallFix p m c cc nL s args Ts own) {ty : FieldType} (hr : meth.sig.returnType = some ty) (hlocks : meth.locks = false) (hP : H = s.heap ∧ locs = []) {v : Int32} (hn : narrow ty (.int v) = .int v) (hdg : decode cc pc = .ok (.ireturn, 1)) : W p l e R s m args below meth c H locs cells slots (MQ below (qP (some (.int v))) args s cells slots (fun _ => False)) (F0 m pc ls [.int v]) := by
  obtain ⟨rfl, rfl⟩ := hP
  exact W.zret C0.1 C0.2.1 hr hn (fun t ht _ => ⟨rfl, ht⟩) (fun q h => by cases h) hdg hlocks
theorem x_lretP (C0 : CallFix p m c cc nL s args Ts own) (hr : meth.sig.returnType = some .long) (hlocks : meth.locks = false) (hP : H = s.heap ∧ locs = []) {v : Int64} (hdg : decode cc pc = .ok (.lreturn, 1)) : W p l e R s m args below meth c H locs cells slots (MQ below (qP (some (.long v))) args s cells slots (fun _ => False)) (F0 m pc ls [.long v]) := by
  obtain ⟨rfl, rfl⟩ := hP
  exact W.lret C0.1 C0.2.1 hr (fun t ht _ => ⟨rfl, ht⟩) (fun q h => by cases h) hdg hlocks
theorem x_aretP (C0 : CallFix p m c cc nL s args Ts own) {rt : FieldType} (hr : meth.sig.returnType = some rt) (hrt : (∃ n, rt = .object n) ∨ ∃ t, rt = .array t) (hlocks : meth.locks = false) (hP : H = s.heap ∧ locs = []) {v : Option Nat} (hdg : decode cc pc = .ok (.areturn, 1)) : W p l e R s m args below meth c H locs cells slots (MQ below (qP (some (va_rf v))) args s cells slots (fun _ => False)) (F0 m pc ls [va_rf v]) := by
  obtain ⟨rfl, rfl⟩ := hP
  exact W.aret C0.1 C0.2.1 hr hrt (by cases v with | none => exact Or.inl rfl | some a => exact Or.inr ⟨a, rfl⟩) (fun t ht _ => ⟨rfl, ht⟩) (fun q h => by cases h) hdg hlocks
theorem x_vretP (C0 : CallFix p m c cc nL s args Ts own) (hr : meth.sig.returnType = none) (hlocks : meth.locks = false) (hP : H = s.heap ∧ locs = []) (hdg : decode cc pc = .ok (.return_, 1)) : W p l e R s m args below meth c H locs cells slots (MQ below (qP none) args s cells slots (fun _ => False)) (F0 m pc ls []) := by
  obtain ⟨rfl, rfl⟩ := hP
  exact W.vret C0.1 C0.2.1 hr (fun t ht _ => ⟨rfl, ht⟩) (fun q h => by cases h) hdg hlocks
theorem x_callP {v : Option Value} {a : Array Value} {st0 : List Value} (hr : va_Run p l e R s m args below meth c H locs cells slots 0 0 (F0 m pc ls st0) rest (qP v a) (fun _ => False))
    (kk : W p l e R s m args below meth c H locs cells slots Q (F0 m (pc + 3) ls (v.toList ++ rest))) : W p l e R s m args below meth c H locs cells slots Q (F0 m pc ls st0) := by
  intro T hT X
  obtain ⟨v', st₀, t, T', L, h0, X', hL, e1, e2, ⟨hv, hh⟩, st⟩ := hr T hT X
  cases hv
  obtain ⟨t2, a1, b1⟩ := kk T' (by rw [e1, hh, h0]) (Stand.forget X' (fun q h => (hL q h).elim))
  exact ⟨t2, st t2 a1, b1⟩
theorem x_call0 {v : Option Value} {a : Array Value} {st0 : List Value} {w' : Mp} {sz' : Nat} (hS : xS G s H locs) (hr : va_Run p l e R s m args below meth c H locs cells slots 0 0 (F0 m pc ls st0) rest (xQ G cl v w' sz' a) (xA G))
    (kk : ∀ H' locs', xhd G cl w' H' → xS G s H' locs' → H'.size = sz' → W p l e R s m args below meth c H' locs' cells slots Q (F0 m (pc + 3) ls (v.toList ++ rest))) : W p l e R s m args below meth c H locs cells slots Q (F0 m pc ls st0) :=
  x_call hS hr kk
end XP
/-! what a call asks of the words, out of wA -/
theorem x_rm {R : Room} {a b c d : Nat} (h1 : a ≤ R.frames) (h2 : b ≤ R.locals) (h3 : c ≤ a) (h4 : d ≤ b) : c ≤ R.frames ∧ d ≤ R.locals := ⟨Nat.le_trans h3 h1, Nat.le_trans h4 h2⟩
theorem x_good {y : MethodName} {bytes : ByteArray} {maxL : Nat} {ret : Option FieldType} (hc : Cond.code y bytes maxL ret ∈ wA) : GoodIn wA (xws y bytes maxL ret) := by
  intro w hw
  have h : w ∈ wA := by
    rcases List.mem_cons.mp hw with h | h
    · rw [h]; exact hc
    · exact h
  exact ⟨h, good_of_word (List.mem_filter.mp h).2⟩
section XW
variable {p : Program} {R : Room} {s : State} {m : MethodId} {args : Array Value} {c : Code} {cc : ByteArray} {nL : Nat} {own : String}
theorem x_cwV {index maxL mc ms : Nat} {y : MethodName} {C : String} {bytes : ByteArray} {ret : Option FieldType} {rm : Room} (n : Nat) (C0 : CallFix p m c cc nL s args wA own) (hl : Cond.methodLink own index y ∈ wA) (hc : Cond.code y bytes maxL ret ∈ wA) (hi : Cond.initialized y.cls ∈ wA) (hin : Cond.instanceMethod y ∈ wA) (hse : Cond.selects C y y ∈ wA)
    (hd : y.cls ≠ "java/lang/invoke/MethodHandle" ∧ y.cls ≠ "java/lang/invoke/VarHandle" ∧ (parseMethodDescriptor y.desc).map (fun d => d.parameters.length) = some n) (hR : rm.frames + 1 ≤ R.frames ∧ 8 + (maxL + 11) + rm.locals ≤ R.locals) (hrc : rm.cells = mc := by rfl) (hrs : rm.slots = ms := by rfl) :
    CallW R s args own C index y bytes maxL ret (xws y bytes maxL ret) rm mc ms n :=
  ⟨callB_of n C0.2.2.2.2 (x_good hc) rfl hrc hrs (C0.2.2.2.2 _ hi) (C0.2.2.2.2 _ hl) hd hR, C0.2.2.2.2 _ hin, C0.2.2.2.2 _ hse⟩
theorem x_cwS {index maxL mc ms : Nat} {y : MethodName} {bytes : ByteArray} {ret : Option FieldType} {rm : Room} (n : Nat) (C0 : CallFix p m c cc nL s args wA own) (hl : Cond.methodLink own index y ∈ wA) (hc : Cond.code y bytes maxL ret ∈ wA) (hi : Cond.initialized y.cls ∈ wA) (hst : Cond.static y ∈ wA)
    (hd : y.cls ≠ "java/lang/invoke/MethodHandle" ∧ y.cls ≠ "java/lang/invoke/VarHandle" ∧ (parseMethodDescriptor y.desc).map (fun d => d.parameters.length) = some n) (hR : rm.frames + 1 ≤ R.frames ∧ 8 + (maxL + 11) + rm.locals ≤ R.locals) (hrc : rm.cells = mc := by rfl) (hrs : rm.slots = ms := by rfl) :
    CallB R s args own index y bytes maxL ret (xws y bytes maxL ret) rm mc ms n ∧ (Cond.static y).before args s = true :=
  ⟨callB_of n C0.2.2.2.2 (x_good hc) rfl hrc hrs (C0.2.2.2.2 _ hi) (C0.2.2.2.2 _ hl) hd hR, C0.2.2.2.2 _ hst⟩
theorem x_cwI {index maxL mc ms : Nat} {y : MethodName} {bytes : ByteArray} {rm : Room} (n : Nat) (C0 : CallFix p m c cc nL s args wA own) (hl : Cond.methodLink own index y ∈ wA) (hc : Cond.code y bytes maxL none ∈ wA) (hi : Cond.initialized y.cls ∈ wA) (hin : Cond.instanceMethod y ∈ wA) (hy1 : y.name = "<init>")
    (hd : y.cls ≠ "java/lang/invoke/MethodHandle" ∧ y.cls ≠ "java/lang/invoke/VarHandle" ∧ (parseMethodDescriptor y.desc).map (fun d => d.parameters.length) = some n) (hR : rm.frames + 1 ≤ R.frames ∧ 8 + (maxL + 11) + rm.locals ≤ R.locals) (hrc : rm.cells = mc := by rfl) (hrs : rm.slots = ms := by rfl) :
    CallB R s args own index y bytes maxL none (xws y bytes maxL none) rm mc ms n ∧ y.name = "<init>" ∧ (Cond.instanceMethod y).before args s = true :=
  ⟨callB_of n C0.2.2.2.2 (x_good hc) rfl hrc hrs (C0.2.2.2.2 _ hi) (C0.2.2.2.2 _ hl) hd hR, hy1, C0.2.2.2.2 _ hin⟩
theorem x_cnS {index maxL mc ms : Nat} {y : MethodName} {host : String} {bytes : ByteArray} {ret : Option FieldType} {rm : Room} (n : Nat) (C0 : CallFix p m c cc nL s args wA own) (hl : va_Nw (.methodLinkNest own index y host) s) (hc : Cond.code y bytes maxL ret ∈ wA) (hi : Cond.initialized y.cls ∈ wA) (hst : Cond.static y ∈ wA)
    (hd : y.cls ≠ "java/lang/invoke/MethodHandle" ∧ y.cls ≠ "java/lang/invoke/VarHandle" ∧ (parseMethodDescriptor y.desc).map (fun d => d.parameters.length) = some n) (hR : rm.frames + 1 ≤ R.frames ∧ 8 + (maxL + 11) + rm.locals ≤ R.locals) (hrc : rm.cells = mc := by rfl) (hrs : rm.slots = ms := by rfl) :
    va_CN R s args own index y host bytes maxL ret (xws y bytes maxL ret) rm mc ms n ∧ (Cond.static y).before args s = true ∧ True :=
  ⟨va_cnB n C0.2.2.2.2 (x_good hc) rfl hrc hrs hl (C0.2.2.2.2 _ hi) hd hR, C0.2.2.2.2 _ hst, trivial⟩
end XW
def xtab (i : Int32) : Option Int32 := if i < 0 ∨ 7 ≤ i.toNatClampNeg then none else some (xsh i.toNatClampNeg)
section XT
variable {p : Program} {l : Launch} {e : Env} {R : Room} {s : State} {m : MethodId} {args : Array Value} {below : List Frame} {meth : Method} {c : Code} {H : Heap} {locs : List Loc} {cells slots : Nat} {Q : State → Prop}
variable {cc : ByteArray} {pc nL : Nat} {ls : Array Slot} {rest : List Value} {Ts : List Cond} {own : String}
variable {G : Gx} {cl : List vw_C} {aty : List FieldType} {w : Mp} {α : Type} {res : α}
theorem x_shifts (C0 : CallFix p m c cc nL s args Ts own) (hE : xE G cl aty s) (hS : xS G s H locs) {index : Nat} (hl : Cond.fieldLinkNest own index "LeafMatches" "SHIFTS" "[I" "LeafMatches" ∈ xnw) (hdg : decode cc pc = .ok (.getstatic index, 3))
    (kk : W p l e R s m args below meth c H locs cells slots Q (F0 m (pc + 3) ls (.ref (G.2.2.2 0) :: rest))) : W p l e R s m args below meth c H locs cells slots Q (F0 m pc ls rest) :=
  va_getsN C0.1 C0.2.1 hE.2.2.2.1.1 hS C0.2.2.2.1 (va_Nw.use rfl (hE.2.2.1 _ hl)) (fun _ h9 => h9) hdg kk
theorem x_tald (C0 : CallFix p m c cc nL s args Ts own) (hE : xE G cl aty s) (hS : xS G s H locs) (hdg : decode cc pc = .ok (.iaload, 1)) {i : Int32} {F : Int32 → Option α} (h : (xtab i).bind F = some res)
    (kk : ∀ v, F v = some res → W p l e R s m args below meth c H locs cells slots Q (F0 m (pc + 1) ls (.int v :: rest))) : W p l e R s m args below meth c H locs cells slots Q (F0 m pc ls (.int i :: .ref (G.2.2.2 0) :: rest)) := by
  obtain ⟨v, hv, hF⟩ := Option.bind_eq_some_iff.mp h
  unfold xtab at hv
  split at hv
  · cases hv
  · rename_i hin
    cases hv
    exact va_ti C0.1 C0.2.1 hE.2.2.2.1.2 hS hin rfl hdg (kk _ hF)
theorem x_tlen (C0 : CallFix p m c cc nL s args Ts own) (hE : xE G cl aty s) (hS : xS G s H locs) (hdg : decode cc pc = .ok (.arraylength, 1))
    (kk : W p l e R s m args below meth c H locs cells slots Q (F0 m (pc + 1) ls (.int 7 :: rest))) : W p l e R s m args below meth c H locs cells slots Q (F0 m pc ls (.ref (G.2.2.2 0) :: rest)) :=
  va_tlen C0.1 C0.2.1 hE.2.2.2.1.2 hS (by decide) hdg kk
end XT
theorem x_catI (x : Int32) : (Value.int x).category = 1 := rfl
theorem x_catL (x : Int64) : (Value.long x).category = 2 := rfl
theorem x_catA (x : Nat) : (Value.ref x).category = 1 := rfl
