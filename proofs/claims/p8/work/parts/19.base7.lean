/-! arrays of longs; calls that may throw; methods with a table -/
def aJ (w : Mp) (r : Option Nat) (t : Nat) (i : Int32) : Option Int64 := match r with
  | none => none
  | some a => match w a with
    | some (.inr (t', n, .inr (.inl f))) => if t' = t ∧ ¬ (i < 0 ∨ n ≤ i.toNatClampNeg) then some (f i.toNatClampNeg) else none
    | _ => none
def sJ (w : Mp) (r : Option Nat) (t : Nat) (i : Int32) (x : Int64) : Option Mp := match r with
  | none => none
  | some a => match w a with
    | some (.inr (t', n, .inr (.inl f))) => if t' = t ∧ ¬ (i < 0 ∨ n ≤ i.toNatClampNeg) then some (va_up w a (some (.inr (t, n, .inr (.inl (vp_updL f i.toNatClampNeg x)))))) else none
    | _ => none
def xnJ (w : Mp) (sz t lim : Nat) (n : Int32) : Option Mp := if n < 0 ∨ lim < n.toNatClampNeg ∨ 10000000 < n.toNatClampNeg then none else some (va_up w sz (some (.inr (t, n.toNatClampNeg, .inr (.inl (fun _ => 0))))))
theorem aJ_inv {w : Mp} {r : Option Nat} {t : Nat} {i : Int32} {x : Int64} (h : aJ w r t i = some x) : ∃ a n f, r = some a ∧ w a = some (.inr (t, n, .inr (.inl f))) ∧ vp_in i n ∧ x = f i.toNatClampNeg := by
  unfold aJ at h
  split at h
  · cases h
  · rename_i a
    split at h
    · rename_i t' n f ho
      split at h
      · rename_i hc
        cases h
        exact ⟨a, n, f, rfl, by rw [ho, hc.1], hc.2, rfl⟩
      · cases h
    · cases h
theorem sJ_inv {w w' : Mp} {r : Option Nat} {t : Nat} {i : Int32} {x : Int64} (h : sJ w r t i x = some w') : ∃ a n f, r = some a ∧ w a = some (.inr (t, n, .inr (.inl f))) ∧ vp_in i n ∧ w' = va_up w a (some (.inr (t, n, .inr (.inl (vp_updL f i.toNatClampNeg x))))) := by
  unfold sJ at h
  split at h
  · cases h
  · rename_i a
    split at h
    · rename_i t' n f ho
      split at h
      · rename_i hc
        cases h
        exact ⟨a, n, f, rfl, by rw [ho, hc.1], hc.2, rfl⟩
      · cases h
    · cases h
def xsw {α β : Type} (r : α ⊕ Nat) (f : α → Option β) (g : Nat → Option β) : Option β := match r with
  | .inl v => f v
  | .inr k => g k
abbrev xwsW (y : MethodName) (b : ByteArray) (n : Nat) (ret : Option FieldType) (hh : List (Nat × Nat × Nat × Nat)) : List Cond := Cond.codeWith y b n ret hh :: wA
section XJ
variable {p : Program} {l : Launch} {e : Env} {R : Room} {s : State} {m : MethodId} {args : Array Value} {below : List Frame} {meth : Method} {c : Code} {H : Heap} {locs : List Loc} {cells slots mc ms : Nat} {Q : State → Prop}
variable {cc : ByteArray} {pc nL : Nat} {ls : Array Slot} {rest : List Value} {Ts : List Cond} {own : String} {lv lv' : List (Nat × xV)}
variable {G : Gx} {cl : List vw_C} {aty : List FieldType} {w : Mp} {sz : Nat} {α : Type} {res : α}
theorem x_lald (C0 : CallFix p m c cc nL s args Ts own) (hE : xE G cl aty s) (hH : xhd G cl w H) {t : Nat} (ht : aty[t]? = some .long) (hdg : decode cc pc = .ok (.laload, 1))
    {r : Option Nat} {i : Int32} {F : Int64 → Option α} (h : (aJ w r t i).bind F = some res) (kk : ∀ v, F v = some res → W p l e R s m args below meth c H locs cells slots Q (F0 m (pc + 1) ls (.long v :: rest))) : W p l e R s m args below meth c H locs cells slots Q (F0 m pc ls (.int i :: va_rf r :: rest)) := by
  obtain ⟨v, hv, hF⟩ := Option.bind_eq_some_iff.mp h
  obtain ⟨a, n, f, rfl, h2, h3, rfl⟩ := aJ_inv hv
  exact va_lald (D := G.2.1) (ws := [(a, .inl (G.2.2.1 t, n, .inr (.inl f)))]) C0.1 C0.2.1 hE.1 (xhd_one hH h2) 0 t rfl (xT_at ht) h3 hdg (kk _ hF)
theorem x_last (C0 : CallFix p m c cc nL s args Ts own) (hE : xE G cl aty s) (hH : xhd G cl w H) (hS : xS G s H locs) {t : Nat} (ht : aty[t]? = some .long) (hdg : decode cc pc = .ok (.lastore, 1))
    {r : Option Nat} {i : Int32} {x : Int64} {F : Mp → Option α} (h : (sJ w r t i x).bind F = some res) (kk : ∀ w' H' locs', xhd G cl w' H' → xS G s H' locs' → H'.size = H.size → F w' = some res → W p l e R s m args below meth c H' locs' cells slots Q (F0 m (pc + 1) ls rest)) : W p l e R s m args below meth c H locs cells slots Q (F0 m pc ls (.long x :: .int i :: va_rf r :: rest)) := by
  obtain ⟨w', hv, hF⟩ := Option.bind_eq_some_iff.mp h
  obtain ⟨a, n, f, rfl, h2, h3, rfl⟩ := sJ_inv hv
  obtain ⟨hA, h1⟩ := hH a _ h2
  refine W.last C0.1 C0.2.1 h1 ((hE.1.2 t _ (xT_at ht)).1 n (fun j => .long (f j))) (fun q => by cases q) (by show ¬ (i < 0 ∨ (arrV _ _ _).slots.size ≤ _); rw [arrV_size]; exact h3) rfl rfl hdg fun H1 e z oq => ?_
  refine kk _ H1 _ (xhd_set hH h2 ?_ oq) (hS.put z oq hA) z hF
  show H1[a]? = some (vp_cell _ _)
  rw [e]
  show some ((vp_cell _ (n, .inr (.inl f))).setSlot _ _) = some (vp_cell _ (n, .inr (.inl _)))
  rw [vp_cell_l, vp_cell_l, arrV_store]
  congr 2
  funext q
  by_cases hq : q = i.toNatClampNeg
  · subst hq
    simp [updV, vp_updL]
  · simp [updV, vp_updL, hq]
theorem x_newl (C0 : CallFix p m c cc nL s args Ts own) (hE : xE G cl aty s) (hH : xhd G cl w H) (hS : xS G s H locs) (hz : H.size = sz) {t lim : Nat} (ht : aty[t]? = some .long) (harr : Cond.arrayClass .long ∈ Ts)
    (hcells : cells + 1 ≤ R.cells) (hslots : slots + lim ≤ R.slots) (hdg : decode cc pc = .ok (.newarray .long, 2)) {n : Int32} {F : Mp → Option α} (h : (xnJ w sz t lim n).bind F = some res)
    (kk : ∀ w' H', xhd G cl w' H' → xS G s H' locs → H'.size = sz + 1 → F w' = some res → W p l e R s m args below meth c H' locs (cells + 1) (slots + lim) Q (F0 m (pc + 2) ls (va_rf (some sz) :: rest))) : W p l e R s m args below meth c H locs cells slots Q (F0 m pc ls (.int n :: rest)) := by
  subst hz
  obtain ⟨w', hv, hF⟩ := Option.bind_eq_some_iff.mp h
  unfold xnJ at hv
  split at hv
  · cases hv
  · rename_i hn
    cases hv
    have hb4 : n.toNatClampNeg * componentBytes (newarray.typeOf .long) ≤ 536870912 := by
      show n.toNatClampNeg * 8 ≤ _; omega
    refine va_newaK (atype := .long) C0.1 C0.2.1 (C0.2.2.2.2 _ harr) rfl hdg rfl (fun z => hn (Or.inl z)) rfl hb4 hcells (by omega) rfl fun H1 cA e1 z1 o1 hAr hNm => ?_
    refine W.widen (k := cells + 1) (n := slots + lim) (Nat.le_refl _) (by omega) ?_
    have hcA : cA = G.2.2.1 t := Option.some.inj (hNm.symm.trans (hE.1.2 t _ (xT_at ht)).2)
    refine kk _ H1 (xhd_new (e := .inr (t, n.toNatClampNeg, .inr (.inl (fun _ => 0)))) hH (Nat.le_trans hE.2.1.1 hS.1) ?_ o1) ⟨Nat.le_trans hS.1 (by omega), fun x h1 h2 => (o1 x (Nat.lt_of_lt_of_le h1 hS.1)).trans (hS.2.1 x h1 h2), hS.2.2⟩ z1 hF
    show H1[H.size]? = some (vp_cell (G.2.2.1 t) (n.toNatClampNeg, .inr (.inl fun _ => 0)))
    rw [vp_cell_l, ← hcA, e1]
    rfl
theorem x_callTi {a : Array Value} {st0 : List Value} {w' : Mp} {sz' : Nat} {r : Int32 ⊕ Nat} {F : Int32 → Option α} {K : Nat → Option α} (hS : xS G s H locs) (hr : vx_Run p l e R s m args below meth c H locs cells slots mc ms (F0 m pc ls st0) rest (xQT G cl (xri r) w' sz' a) (xXT G cl (xri r) w' sz') (xA G)) (h : xsw r F K = some res)
    (kk : ∀ v H' locs', xhd G cl w' H' → xS G s H' locs' → H'.size = sz' → F v = some res → W p l e R s m args below meth c H' locs' (cells + mc) (slots + ms) Q (F0 m (pc + 3) ls (.int v :: rest)))
    (kx : ∀ k q ce H' locs', xhd G cl w' H' → xS G s H' locs' → H'.size = sz' → K k = some res → H'[q]? = some ce → ce.vm = .none → s.vm.findClass (xexn k) = some ce.cls → vx_W p l e R s m args below meth c H' locs' (cells + mc) (slots + ms) Q (F0 m pc ls rest) q) : W p l e R s m args below meth c H locs cells slots Q (F0 m pc ls st0) := by
  intro T hT X
  rcases hr T hT X with ⟨v, st₀, t, T', L, h0, X', hL, e1, e2, ⟨v9, hr9, hv, hw, hz, hf⟩, st⟩ | ⟨q, st₀, t, T', L, E, ce, h0, X', hL, e1, e2, ⟨k9, hr9, hE9, hw, hz, hf⟩, hce, hcv, hcl, st⟩
  · obtain ⟨k1, k2, k3⟩ := vx_keep (A1 := xA G) h0 e1 hS (fun q _ h => h) (fun q h => h) hL hf
    cases r with
    | inr k => cases hr9
    | inl x =>
      cases hr9
      cases hv
      obtain ⟨t2, a1, b1⟩ := kk x T'.heap (locs ++ L) (by rw [e1]; exact hw) k3 (by rw [e1]; exact hz) h T' rfl X'
      exact ⟨t2, st t2 a1, b1⟩
  · obtain ⟨k1, k2, k3⟩ := vx_keep (A1 := xA G) h0 e1 hS (fun q _ h => h) (fun q h => h) hL hf
    cases r with
    | inl x => cases hr9
    | inr k =>
      cases hr9
      subst hE9
      obtain ⟨t2, a1, b1⟩ := kx k9 q ce T'.heap (locs ++ L) (by rw [e1]; exact hw) k3 (by rw [e1]; exact hz) h (by rw [e1]; exact hce) hcv hcl T' rfl X'
      exact ⟨t2, st.trans a1, b1⟩
theorem x_callTl {a : Array Value} {st0 : List Value} {w' : Mp} {sz' : Nat} {r : Int64 ⊕ Nat} {F : Int64 → Option α} {K : Nat → Option α} (hS : xS G s H locs) (hr : vx_Run p l e R s m args below meth c H locs cells slots mc ms (F0 m pc ls st0) rest (xQT G cl (xrl r) w' sz' a) (xXT G cl (xrl r) w' sz') (xA G)) (h : xsw r F K = some res)
    (kk : ∀ v H' locs', xhd G cl w' H' → xS G s H' locs' → H'.size = sz' → F v = some res → W p l e R s m args below meth c H' locs' (cells + mc) (slots + ms) Q (F0 m (pc + 3) ls (.long v :: rest)))
    (kx : ∀ k q ce H' locs', xhd G cl w' H' → xS G s H' locs' → H'.size = sz' → K k = some res → H'[q]? = some ce → ce.vm = .none → s.vm.findClass (xexn k) = some ce.cls → vx_W p l e R s m args below meth c H' locs' (cells + mc) (slots + ms) Q (F0 m pc ls rest) q) : W p l e R s m args below meth c H locs cells slots Q (F0 m pc ls st0) := by
  intro T hT X
  rcases hr T hT X with ⟨v, st₀, t, T', L, h0, X', hL, e1, e2, ⟨v9, hr9, hv, hw, hz, hf⟩, st⟩ | ⟨q, st₀, t, T', L, E, ce, h0, X', hL, e1, e2, ⟨k9, hr9, hE9, hw, hz, hf⟩, hce, hcv, hcl, st⟩
  · obtain ⟨k1, k2, k3⟩ := vx_keep (A1 := xA G) h0 e1 hS (fun q _ h => h) (fun q h => h) hL hf
    cases r with
    | inr k => cases hr9
    | inl x =>
      cases hr9
      cases hv
      obtain ⟨t2, a1, b1⟩ := kk x T'.heap (locs ++ L) (by rw [e1]; exact hw) k3 (by rw [e1]; exact hz) h T' rfl X'
      exact ⟨t2, st t2 a1, b1⟩
  · obtain ⟨k1, k2, k3⟩ := vx_keep (A1 := xA G) h0 e1 hS (fun q _ h => h) (fun q h => h) hL hf
    cases r with
    | inl x => cases hr9
    | inr k =>
      cases hr9
      subst hE9
      obtain ⟨t2, a1, b1⟩ := kx k9 q ce T'.heap (locs ++ L) (by rw [e1]; exact hw) k3 (by rw [e1]; exact hz) h (by rw [e1]; exact hce) hcv hcl T' rfl X'
      exact ⟨t2, st.trans a1, b1⟩
end XJ
theorem x_goodW {y : MethodName} {bytes : ByteArray} {maxL : Nat} {ret : Option FieldType} {hh : List (Nat × Nat × Nat × Nat)} {own : String} {index : Nat} (hc : Cond.codeWith y bytes maxL ret hh ∈ wA) (hl : Cond.methodLink own index y ∈ wA) (hst : Cond.static y ∈ wA) (hi : Cond.initialized y.cls ∈ wA) : GoodIn wA (va_wsS own index y (xwsW y bytes maxL ret hh)) := by
  intro w hw
  have h : w ∈ wA := by
    unfold va_wsS at hw
    rcases List.mem_append.mp hw with h | h
    · simp only [List.mem_cons, List.not_mem_nil, or_false] at h
      rcases h with rfl | rfl | rfl
      · exact hl
      · exact hst
      · exact hi
    · rcases List.mem_cons.mp h with h | h
      · rw [h]; exact hc
      · exact h
  exact ⟨h, good_of_word (List.mem_filter.mp h).2⟩
/-! the script -/
def xsc (L : Nat) (xs : Nat → Int32) (i : Int32) : Option Int32 := if i < 0 ∨ L ≤ i.toNatClampNeg then none else some (xs i.toNatClampNeg)
section XS
variable {p : Program} {l : Launch} {e : Env} {R : Room} {s : State} {m : MethodId} {args : Array Value} {below : List Frame} {meth : Method} {c : Code} {H : Heap} {locs : List Loc} {cells slots : Nat} {Q : State → Prop}
variable {cc : ByteArray} {pc nL : Nat} {ls : Array Slot} {rest : List Value} {Ts : List Cond} {own : String} {G : Gx} {α : Type} {res : α}
theorem x_sld (C0 : CallFix p m c cc nL s args Ts own) {b L : Nat} {xs : Nat → Int32} (hX : va_X b L xs s s.heap) (hbl : b < s.heap.size) (hbA : ¬ xA G b) (hS : xS G s H locs) (hdg : decode cc pc = .ok (.iaload, 1)) {i : Int32} {F : Int32 → Option α} (h : (xsc L xs i).bind F = some res)
    (kk : ∀ v, F v = some res → W p l e R s m args below meth c H locs cells slots Q (F0 m (pc + 1) ls (.int v :: rest))) : W p l e R s m args below meth c H locs cells slots Q (F0 m pc ls (.int i :: va_rf (some b) :: rest)) := by
  obtain ⟨v, hv, hF⟩ := Option.bind_eq_some_iff.mp h
  unfold xsc at hv
  split at hv
  · cases hv
  · rename_i hin
    cases hv
    exact va_sld C0.1 C0.2.1 hX hbl hbA hS hin hdg (kk _ hF)
theorem x_slen (C0 : CallFix p m c cc nL s args Ts own) {b L : Nat} {xs : Nat → Int32} (hX : va_X b L xs s s.heap) (hbl : b < s.heap.size) (hbA : ¬ xA G b) (hS : xS G s H locs) (hdg : decode cc pc = .ok (.arraylength, 1))
    (kk : W p l e R s m args below meth c H locs cells slots Q (F0 m (pc + 1) ls (.int (Int32.ofNat L) :: rest))) : W p l e R s m args below meth c H locs cells slots Q (F0 m pc ls (va_rf (some b) :: rest)) :=
  va_slen C0.1 C0.2.1 hX hbl hbA hS hdg kk
end XS
