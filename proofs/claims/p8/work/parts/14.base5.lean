/-! making cells: the next address is the heap's size -/
def xnO (w : Mp) (sz ci : Nat) (fs : List Value) : Option Mp := some (va_up w sz (some (.inl (ci, fs))))
def xnI (w : Mp) (sz t lim : Nat) (n : Int32) : Option Mp := if n < 0 ∨ lim < n.toNatClampNeg ∨ 100000000 < n.toNatClampNeg then none else some (va_up w sz (some (.inr (t, n.toNatClampNeg, .inl (fun _ => 0)))))
def xnR (w : Mp) (sz t lim : Nat) (n : Int32) : Option Mp := if n < 0 ∨ lim < n.toNatClampNeg ∨ 100000000 < n.toNatClampNeg then none else some (va_up w sz (some (.inr (t, n.toNatClampNeg, .inr (.inr (.inr (.inr (fun _ => none))))))))
section XN
variable {p : Program} {l : Launch} {e : Env} {R : Room} {s : State} {m : MethodId} {args : Array Value} {below : List Frame} {meth : Method} {c : Code} {H : Heap} {locs : List Loc} {cells slots : Nat} {Q : State → Prop}
variable {cc : ByteArray} {pc nL : Nat} {ls : Array Slot} {rest : List Value} {Ts : List Cond} {own : String} {lv lv' : List (Nat × xV)}
variable {G : Gx} {cl : List vw_C} {aty : List FieldType} {w : Mp} {α : Type} {res : α} {sz : Nat}
theorem x_new (C0 : CallFix p m c cc nL s args Ts own) (hE : xE G cl aty s) (hH : xhd G cl w H) (hS : xS G s H locs) (hz : H.size = sz) {C : String} {T : u_T} {N ci index : Nat} (hc : cl[ci]? = some (C, T, N)) (hin : ∀ w ∈ u_ws C T N, w ∈ Ts) (ty : Nat → FieldType) (hty : ∀ k, k < N → parseFieldDescriptor (T k).2.2.1 = some (ty k)) (hcl : Cond.classLink own index C ∈ Ts) (hinst : Cond.instantiable C N ∈ Ts) (hini : Cond.initialized C ∈ Ts)
    {fs : List Value} (hfs : ∀ j, j < N → defaultValue (ty j) = vp_V fs j) (hcells : cells + 1 ≤ R.cells) (hslots : slots + N ≤ R.slots) (hdg : decode cc pc = .ok (.new index, 3)) {F : Mp → Option α} (h : (xnO w sz ci fs).bind F = some res)
    (kk : ∀ w' H', xhd G cl w' H' → xS G s H' locs → H'.size = sz + 1 → F w' = some res → W p l e R s m args below meth c H' locs (cells + 1) (slots + N) Q (F0 m (pc + 3) ls (va_rf (some sz) :: rest))) : W p l e R s m args below meth c H locs cells slots Q (F0 m pc ls rest) := by
  subst hz
  obtain ⟨w', hv, hF⟩ := Option.bind_eq_some_iff.mp h
  cases hv
  have hKn := hE.1.1 ci _ hc
  refine W.newcK C0.1 C0.2.1 C0.2.2.2.1 (C0.2.2.2.2 _ hcl) (C0.2.2.2.2 _ hinst) (C0.2.2.2.2 _ hini) rfl hdg hcells hslots hKn.2.1 rfl fun H1 kC hkC e1 z1 o1 => ?_
  refine kk _ H1 (xhd_new (e := .inl (ci, fs)) hH (Nat.le_trans hE.2.1.1 hS.1) ⟨_, hc, (u_born ty C0.2.2.2.2 hin hKn hkC e1 hty).to hfs⟩ o1) ⟨Nat.le_trans hS.1 (by omega), fun x h1 h2 => (o1 x (Nat.lt_of_lt_of_le h1 hS.1)).trans (hS.2.1 x h1 h2), hS.2.2⟩ z1 hF
theorem x_newp (C0 : CallFix p m c cc nL s args Ts own) (hE : xE G cl aty s) (hH : xhd G cl w H) (hS : xS G s H locs) (hz : H.size = sz) {atype : ArrayType} {t lim : Nat} (ht : aty[t]? = some (newarray.typeOf atype)) (hat : atype = .int ∨ atype = .boolean) (harr : Cond.arrayClass (newarray.typeOf atype) ∈ Ts)
    (hcells : cells + 1 ≤ R.cells) (hslots : slots + lim ≤ R.slots) (hdg : decode cc pc = .ok (.newarray atype, 2)) {n : Int32} {F : Mp → Option α} (h : (xnI w sz t lim n).bind F = some res)
    (kk : ∀ w' H', xhd G cl w' H' → xS G s H' locs → H'.size = sz + 1 → F w' = some res → W p l e R s m args below meth c H' locs (cells + 1) (slots + lim) Q (F0 m (pc + 2) ls (va_rf (some sz) :: rest))) : W p l e R s m args below meth c H locs cells slots Q (F0 m pc ls (.int n :: rest)) := by
  subst hz
  obtain ⟨w', hv, hF⟩ := Option.bind_eq_some_iff.mp h
  unfold xnI at hv
  split at hv
  · cases hv
  · rename_i hn
    cases hv
    have hb4 : n.toNatClampNeg * componentBytes (newarray.typeOf atype) ≤ 536870912 := by
      rcases hat with rfl | rfl
      · show n.toNatClampNeg * 4 ≤ _; omega
      · show n.toNatClampNeg * 1 ≤ _; omega
    refine va_newaK C0.1 C0.2.1 (C0.2.2.2.2 _ harr) rfl hdg rfl (fun z => hn (Or.inl z)) rfl hb4 hcells (by omega) rfl fun H1 cA e1 z1 o1 hAr hNm => ?_
    refine W.widen (k := cells + 1) (n := slots + lim) (Nat.le_refl _) (by omega) ?_
    have hcA : cA = G.2.2.1 t := by
      have h9 := (hE.1.2 t _ (xT_at ht)).2
      rcases hat with rfl | rfl
      · exact Option.some.inj (hNm.symm.trans h9)
      · exact Option.some.inj (hNm.symm.trans h9)
    refine kk _ H1 (xhd_new (e := .inr (t, n.toNatClampNeg, .inl (fun _ => 0))) hH (Nat.le_trans hE.2.1.1 hS.1) ?_ o1) ⟨Nat.le_trans hS.1 (by omega), fun x h1 h2 => (o1 x (Nat.lt_of_lt_of_le h1 hS.1)).trans (hS.2.1 x h1 h2), hS.2.2⟩ z1 hF
    show H1[H.size]? = some (vp_cell (G.2.2.1 t) (n.toNatClampNeg, .inl fun _ => 0))
    rw [vp_cell_i, ← hcA, e1]
    rcases hat with rfl | rfl <;> rfl
theorem x_newr (C0 : CallFix p m c cc nL s args Ts own) (hE : xE G cl aty s) (hH : xhd G cl w H) (hS : xS G s H locs) (hz : H.size = sz) {C : String} {index t lim : Nat} (ht : aty[t]? = some (.object C)) (hcl : Cond.classLink own index C ∈ Ts) (hover : va_AO C s)
    (hcells : cells + 1 ≤ R.cells) (hslots : slots + lim ≤ R.slots) (hdg : decode cc pc = .ok (.anewarray index, 3)) {n : Int32} {F : Mp → Option α} (h : (xnR w sz t lim n).bind F = some res)
    (kk : ∀ w' H', xhd G cl w' H' → xS G s H' locs → H'.size = sz + 1 → F w' = some res → W p l e R s m args below meth c H' locs (cells + 1) (slots + lim) Q (F0 m (pc + 3) ls (va_rf (some sz) :: rest))) : W p l e R s m args below meth c H locs cells slots Q (F0 m pc ls (.int n :: rest)) := by
  subst hz
  obtain ⟨w', hv, hF⟩ := Option.bind_eq_some_iff.mp h
  unfold xnR at hv
  split at hv
  · cases hv
  · rename_i hn
    cases hv
    refine W.anew C0.1 C0.2.1 C0.2.2.2.1 (C0.2.2.2.2 _ hcl) (va_AO.use hover) rfl hdg rfl (fun z => hn (Or.inl z)) (by omega) hcells (by omega) fun cA kA comp f1 f2 f3 f4 => ?_
    generalize hH1 : H.push ({ cls := cA, slots := Array.replicate n.toNatClampNeg .null, vm := .none } : Cell) = H1
    have z1 : H1.size = H.size + 1 := by rw [← hH1, Array.size_push]
    have e1 : H1[H.size]? = some (arrV cA n.toNatClampNeg (fun _ => .null)) := by rw [← hH1, Array.getElem?_push_size, ← arrV_new]
    have o1 : ∀ q : Nat, q < H.size → H1[q]? = H[q]? := fun q hq => by rw [← hH1, Array.getElem?_push, if_neg (Nat.ne_of_lt hq)]
    have hcA : cA = G.2.2.1 t := by
      obtain ⟨_, _, _, _, _, h9⟩ := (hE.1.2 t _ (xT_at ht)).2
      exact Option.some.inj (f1.symm.trans h9)
    refine W.widen (k := cells + 1) (n := slots + lim) (Nat.le_refl _) (by omega) ?_
    refine kk _ H1 (xhd_new (e := .inr (t, n.toNatClampNeg, .inr (.inr (.inr (.inr (fun _ => none)))))) hH (Nat.le_trans hE.2.1.1 hS.1) ?_ o1) ⟨Nat.le_trans hS.1 (by omega), fun x h1 h2 => (o1 x (Nat.lt_of_lt_of_le h1 hS.1)).trans (hS.2.1 x h1 h2), hS.2.2⟩ z1 hF
    show H1[H.size]? = some (vp_cell (G.2.2.1 t) (n.toNatClampNeg, .inr (.inr (.inr (.inr fun _ => none)))))
    rw [vp_cell_q, ← hcA, e1]
    rfl
end XN
