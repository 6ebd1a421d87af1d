/-! LOCALS: a list of places and values whose kinds are known -/
abbrev xV : Type := Int32 ⊕ Option Nat ⊕ Int64
def xv (v : xV) : Value := match v with
  | .inl x => .int x
  | .inr (.inl r) => va_rf r
  | .inr (.inr y) => .long y
def xcat (v : xV) : Nat := match v with
  | .inl _ => 1
  | .inr (.inl _) => 1
  | .inr (.inr _) => 2
theorem xv_cat (v : xV) : (xv v).category = xcat v := by
  match v with
  | .inl x => rfl
  | .inr (.inl none) => rfl
  | .inr (.inl (some r)) => rfl
  | .inr (.inr y) => rfl
def xL (ls : Array Slot) (nL : Nat) (lv : List (Nat × xV)) : Prop := lv_has ls nL (lv.map fun q => (q.1, xv q.2))
theorem x_at {ls : Array Slot} {nL : Nat} {lv : List (Nat × xV)} (h : xL ls nL lv) (k : Nat) {i : Nat} {v : xV} (hk : lv[k]? = some (i, v)) : ls[i]? = some (.val (xv v)) :=
  lv_at h k (by rw [List.getElem?_map, hk]; rfl)
theorem x_sub {ls : Array Slot} {nL : Nat} {l l' : List (Nat × xV)} (h : xL ls nL l) (ks : List Nat) (hl : ks.filterMap (fun k => l[k]?) = l') : xL ls nL l' := by
  refine lv_sub h ks ?_
  subst hl
  unfold lv_pick
  rw [List.map_filterMap]
  congr 1
  funext k
  rw [List.getElem?_map]
def xst (lv : List (Nat × xV)) (i : Nat) (v : xV) : List (Nat × xV) := (i, v) :: lv.filter (fun q => !(q.1 == i) && !(q.1 + 1 == i && xcat q.2 == 2))
def xst2 (lv : List (Nat × xV)) (i : Nat) (v : xV) : List (Nat × xV) := (i, v) :: lv.filter (fun q => !(q.1 == i) && (!(q.1 == i + 1) && !(q.1 + 1 == i && xcat q.2 == 2)))
theorem xst_eq (lv : List (Nat × xV)) (i : Nat) (v : xV) : (i, xv v) :: (lv.map fun q => (q.1, xv q.2)).filter (fun q => !(q.1 == i) && !(q.1 + 1 == i && q.2.category == 2)) = (xst lv i v).map fun q => (q.1, xv q.2) := by
  unfold xst
  rw [List.map_cons, List.filter_map]
  congr 2
  refine List.filter_congr fun q _ => ?_
  show (!(q.1 == i) && !(q.1 + 1 == i && (xv q.2).category == 2)) = _
  rw [xv_cat]
theorem xst2_eq (lv : List (Nat × xV)) (i : Nat) (v : xV) : (i, xv v) :: (lv.map fun q => (q.1, xv q.2)).filter (fun q => !(q.1 == i) && (!(q.1 == i + 1) && !(q.1 + 1 == i && q.2.category == 2))) = (xst2 lv i v).map fun q => (q.1, xv q.2) := by
  unfold xst2
  rw [List.map_cons, List.filter_map]
  congr 2
  refine List.filter_congr fun q _ => ?_
  show (!(q.1 == i) && (!(q.1 == i + 1) && !(q.1 + 1 == i && (xv q.2).category == 2))) = _
  rw [xv_cat]
def xargs : Nat → List xV → List (Nat × xV)
  | _, [] => []
  | i, v :: vs => (i, v) :: xargs (i + xcat v) vs
theorem x_len : ∀ vs : List xV, (lg_sl (vs.map xv)).length = (vs.map xcat).sum
  | [] => rfl
  | v :: vs => by
    have ih := x_len vs
    unfold lg_sl at ih ⊢
    rw [List.map_cons, List.flatMap_cons, List.length_append, ih, List.map_cons, List.sum_cons, xv_cat]
    match v with
    | .inl x => rfl
    | .inr (.inl r) => rfl
    | .inr (.inr y) => rfl
theorem x_args : ∀ (vs : List xV) (i : Nat), lv_args i (vs.map xv) = (xargs i vs).map fun q => (q.1, xv q.2)
  | [], _ => rfl
  | v :: vs, i => by
    have e : (if xcat v = 2 then i + 2 else i + 1) = i + xcat v := by
      match v with
      | .inl x => rfl
      | .inr (.inl r) => rfl
      | .inr (.inr y) => rfl
    rw [List.map_cons, lv_args, xv_cat, e, x_args vs (i + xcat v)]
    rfl
theorem x_entry (m : MethodId) (vs : List xV) (n : Nat) (h : (vs.map xcat).sum ≤ n) : ∃ ls, entryFrame m (vs.map xv).toArray n = F0 m 0 ls [] ∧ xL ls n (xargs 0 vs) := by
  refine ⟨_, lg_entry_eq m (vs.map xv) n, ?_⟩
  have hl := lv_entry (vs.map xv) (n := n) (by rw [x_len]; exact h)
  rw [x_args] at hl
  exact hl
section XR
variable {p : Program} {l : Launch} {e : Env} {R : Room} {s : State} {m : MethodId} {args : Array Value} {below : List Frame} {meth : Method} {c : Code} {H : Heap} {locs : List Loc} {cells slots : Nat} {Q : State → Prop}
variable {cc : ByteArray} {pc nL : Nat} {ls : Array Slot} {rest : List Value} {Ts : List Cond} {own : String} {lv lv' : List (Nat × xV)}
theorem x_iload_n (C0 : CallFix p m c cc nL s args Ts own) (hl : xL ls nL lv) (k : Nat) {kn : Fin 4} {i : Nat} {x : Int32} (hdg : decode cc pc = .ok (.iload_n kn, 1)) (hi : (kn : Nat) = i) (hk : lv[k]? = some (i, .inl x))
    (kk : W p l e R s m args below meth c H locs cells slots Q (F0 m (pc + 1) ls (.int x :: rest))) : W p l e R s m args below meth c H locs cells slots Q (F0 m pc ls rest) :=
  lv_iload_n C0.1 C0.2.1 hdg hi (x_at hl k hk) kk
theorem x_iload (C0 : CallFix p m c cc nL s args Ts own) (hl : xL ls nL lv) (k : Nat) {i : Nat} {x : Int32} (hdg : decode cc pc = .ok (.iload i, 2)) (hk : lv[k]? = some (i, .inl x))
    (kk : W p l e R s m args below meth c H locs cells slots Q (F0 m (pc + 2) ls (.int x :: rest))) : W p l e R s m args below meth c H locs cells slots Q (F0 m pc ls rest) :=
  lv_iload C0.1 C0.2.1 hdg (x_at hl k hk) kk
theorem x_lload_n (C0 : CallFix p m c cc nL s args Ts own) (hl : xL ls nL lv) (k : Nat) {kn : Fin 4} {i : Nat} {x : Int64} (hdg : decode cc pc = .ok (.lload_n kn, 1)) (hi : (kn : Nat) = i) (hk : lv[k]? = some (i, .inr (.inr x)))
    (kk : W p l e R s m args below meth c H locs cells slots Q (F0 m (pc + 1) ls (.long x :: rest))) : W p l e R s m args below meth c H locs cells slots Q (F0 m pc ls rest) :=
  lv_lload_n C0.1 C0.2.1 hdg hi (x_at hl k hk) kk
theorem x_lload (C0 : CallFix p m c cc nL s args Ts own) (hl : xL ls nL lv) (k : Nat) {i : Nat} {x : Int64} (hdg : decode cc pc = .ok (.lload i, 2)) (hk : lv[k]? = some (i, .inr (.inr x)))
    (kk : W p l e R s m args below meth c H locs cells slots Q (F0 m (pc + 2) ls (.long x :: rest))) : W p l e R s m args below meth c H locs cells slots Q (F0 m pc ls rest) :=
  lv_lload C0.1 C0.2.1 hdg (x_at hl k hk) kk
theorem x_aload_n (C0 : CallFix p m c cc nL s args Ts own) (hl : xL ls nL lv) (k : Nat) {kn : Fin 4} {i : Nat} {r : Option Nat} (hdg : decode cc pc = .ok (.aload_n kn, 1)) (hi : (kn : Nat) = i) (hk : lv[k]? = some (i, .inr (.inl r)))
    (kk : W p l e R s m args below meth c H locs cells slots Q (F0 m (pc + 1) ls (va_rf r :: rest))) : W p l e R s m args below meth c H locs cells slots Q (F0 m pc ls rest) := by
  cases r with
  | none => exact lv_aload_nN C0.1 C0.2.1 hdg hi (x_at hl k hk) kk
  | some a => exact lv_aload_n C0.1 C0.2.1 hdg hi (x_at hl k hk) kk
theorem x_aload (C0 : CallFix p m c cc nL s args Ts own) (hl : xL ls nL lv) (k : Nat) {i : Nat} {r : Option Nat} (hdg : decode cc pc = .ok (.aload i, 2)) (hk : lv[k]? = some (i, .inr (.inl r)))
    (kk : W p l e R s m args below meth c H locs cells slots Q (F0 m (pc + 2) ls (va_rf r :: rest))) : W p l e R s m args below meth c H locs cells slots Q (F0 m pc ls rest) := by
  cases r with
  | none => exact lv_aloadN C0.1 C0.2.1 hdg (x_at hl k hk) kk
  | some a => exact lv_aload C0.1 C0.2.1 hdg (x_at hl k hk) kk
theorem x_istore_n (C0 : CallFix p m c cc nL s args Ts own) (hl : xL ls nL lv) {kn : Fin 4} {i : Nat} {x : Int32} (hdg : decode cc pc = .ok (.istore_n kn, 1)) (hi : (kn : Nat) = i) (hn : i < nL) (he : xst lv i (.inl x) = lv')
    (kk : ∀ ls, xL ls nL lv' → W p l e R s m args below meth c H locs cells slots Q (F0 m (pc + 1) ls rest)) : W p l e R s m args below meth c H locs cells slots Q (F0 m pc ls (.int x :: rest)) :=
  lv_istore_n C0.1 C0.2.1 hdg hi hl hn ((xst_eq lv i (.inl x)).trans (by rw [he])) kk
theorem x_istore (C0 : CallFix p m c cc nL s args Ts own) (hl : xL ls nL lv) {i : Nat} {x : Int32} (hdg : decode cc pc = .ok (.istore i, 2)) (hn : i < nL) (he : xst lv i (.inl x) = lv')
    (kk : ∀ ls, xL ls nL lv' → W p l e R s m args below meth c H locs cells slots Q (F0 m (pc + 2) ls rest)) : W p l e R s m args below meth c H locs cells slots Q (F0 m pc ls (.int x :: rest)) :=
  lv_istore C0.1 C0.2.1 hdg hl hn ((xst_eq lv i (.inl x)).trans (by rw [he])) kk
theorem x_lstore_n (C0 : CallFix p m c cc nL s args Ts own) (hl : xL ls nL lv) {kn : Fin 4} {i : Nat} {x : Int64} (hdg : decode cc pc = .ok (.lstore_n kn, 1)) (hi : (kn : Nat) = i) (hn : i + 1 < nL) (he : xst2 lv i (.inr (.inr x)) = lv')
    (kk : ∀ ls, xL ls nL lv' → W p l e R s m args below meth c H locs cells slots Q (F0 m (pc + 1) ls rest)) : W p l e R s m args below meth c H locs cells slots Q (F0 m pc ls (.long x :: rest)) :=
  lv_lstore_n C0.1 C0.2.1 hdg hi hl hn ((xst2_eq lv i (.inr (.inr x))).trans (by rw [he])) kk
theorem x_lstore (C0 : CallFix p m c cc nL s args Ts own) (hl : xL ls nL lv) {i : Nat} {x : Int64} (hdg : decode cc pc = .ok (.lstore i, 2)) (hn : i + 1 < nL) (he : xst2 lv i (.inr (.inr x)) = lv')
    (kk : ∀ ls, xL ls nL lv' → W p l e R s m args below meth c H locs cells slots Q (F0 m (pc + 2) ls rest)) : W p l e R s m args below meth c H locs cells slots Q (F0 m pc ls (.long x :: rest)) :=
  lv_lstore C0.1 C0.2.1 hdg hl hn ((xst2_eq lv i (.inr (.inr x))).trans (by rw [he])) kk
theorem x_astore_n (C0 : CallFix p m c cc nL s args Ts own) (hl : xL ls nL lv) {kn : Fin 4} {i : Nat} {r : Option Nat} (hdg : decode cc pc = .ok (.astore_n kn, 1)) (hi : (kn : Nat) = i) (hn : i < nL) (he : xst lv i (.inr (.inl r)) = lv')
    (kk : ∀ ls, xL ls nL lv' → W p l e R s m args below meth c H locs cells slots Q (F0 m (pc + 1) ls rest)) : W p l e R s m args below meth c H locs cells slots Q (F0 m pc ls (va_rf r :: rest)) := by
  cases r with
  | none => exact lv_astore_nN C0.1 C0.2.1 hdg hi hl hn ((xst_eq lv i (.inr (.inl none))).trans (by rw [he])) kk
  | some a => exact lv_astore_n C0.1 C0.2.1 hdg hi hl hn ((xst_eq lv i (.inr (.inl (some a)))).trans (by rw [he])) kk
theorem x_astore (C0 : CallFix p m c cc nL s args Ts own) (hl : xL ls nL lv) {i : Nat} {r : Option Nat} (hdg : decode cc pc = .ok (.astore i, 2)) (hn : i < nL) (he : xst lv i (.inr (.inl r)) = lv')
    (kk : ∀ ls, xL ls nL lv' → W p l e R s m args below meth c H locs cells slots Q (F0 m (pc + 2) ls rest)) : W p l e R s m args below meth c H locs cells slots Q (F0 m pc ls (va_rf r :: rest)) := by
  cases r with
  | none => exact lv_astoreN C0.1 C0.2.1 hdg hl hn ((xst_eq lv i (.inr (.inl none))).trans (by rw [he])) kk
  | some a => exact lv_astore C0.1 C0.2.1 hdg hl hn ((xst_eq lv i (.inr (.inl (some a)))).trans (by rw [he])) kk
theorem x_iinc (C0 : CallFix p m c cc nL s args Ts own) (hl : xL ls nL lv) (k : Nat) {i : Nat} {n : Int} {x v : Int32} (hdg : decode cc pc = .ok (.iinc i n, 3)) (hk : lv[k]? = some (i, .inl x)) (hv : Int32.ofInt n = v) (hn : i < nL) (he : xst lv i (.inl (x + v)) = lv')
    (kk : ∀ ls, xL ls nL lv' → W p l e R s m args below meth c H locs cells slots Q (F0 m (pc + 3) ls rest)) : W p l e R s m args below meth c H locs cells slots Q (F0 m pc ls rest) :=
  lv_iinc (v := x + v) (k := k) C0.1 C0.2.1 hdg hl (by rw [List.getElem?_map, hk]; rfl) (by rw [hv]) hn ((xst_eq lv i (.inl (x + v))).trans (by rw [he])) kk
theorem x_iincW (C0 : CallFix p m c cc nL s args Ts own) (hl : xL ls nL lv) (k : Nat) {i : Nat} {n : Int} {x v : Int32} (hdg : decode cc pc = .ok (.iinc i n, 6)) (hk : lv[k]? = some (i, .inl x)) (hv : Int32.ofInt n = v) (hn : i < nL) (he : xst lv i (.inl (x + v)) = lv')
    (kk : ∀ ls, xL ls nL lv' → W p l e R s m args below meth c H locs cells slots Q (F0 m (pc + 6) ls rest)) : W p l e R s m args below meth c H locs cells slots Q (F0 m pc ls rest) :=
  lv_iincW (v := x + v) (k := k) C0.1 C0.2.1 hdg hl (by rw [List.getElem?_map, hk]; rfl) (by rw [hv]) hn ((xst_eq lv i (.inl (x + v))).trans (by rw [he])) kk
/-! branches over an equation -/
variable {α : Type} {A B : Option α} {o : Option α}
theorem x_goto (C0 : CallFix p m c cc nL s args Ts own) {off : Int} (tgt : Nat) (hdg : decode cc pc = .ok (.goto off, 3)) (ht : (pc : Int) + off = (tgt : Int)) (k : W p l e R s m args below meth c H locs cells slots Q (F0 m tgt ls rest)) : W p l e R s m args below meth c H locs cells slots Q (F0 m pc ls rest) := lv_goto C0.1 C0.2.1 hdg ht k
theorem x_if_eq (C0 : CallFix p m c cc nL s args Ts own) {x : Int32} {off : Int} (tgt : Nat) (hdg : decode cc pc = .ok (.ifCond .eq off, 3)) (ht : (pc : Int) + off = (tgt : Int)) (h : (if x = 0 then A else B) = o)
    (kt : A = o → W p l e R s m args below meth c H locs cells slots Q (F0 m tgt ls rest)) (kf : B = o → W p l e R s m args below meth c H locs cells slots Q (F0 m (pc + 3) ls rest)) : W p l e R s m args below meth c H locs cells slots Q (F0 m pc ls (.int x :: rest)) :=
  lv_if_eq C0.1 C0.2.1 hdg ht (fun z => kt (by rw [if_pos z] at h; exact h)) (fun z => kf (by rw [if_neg z] at h; exact h))
theorem x_icmp_eq (C0 : CallFix p m c cc nL s args Ts own) {x y : Int32} {off : Int} (tgt : Nat) (hdg : decode cc pc = .ok (.if_icmp .eq off, 3)) (ht : (pc : Int) + off = (tgt : Int)) (h : (if x = y then A else B) = o)
    (kt : A = o → W p l e R s m args below meth c H locs cells slots Q (F0 m tgt ls rest)) (kf : B = o → W p l e R s m args below meth c H locs cells slots Q (F0 m (pc + 3) ls rest)) : W p l e R s m args below meth c H locs cells slots Q (F0 m pc ls (.int y :: .int x :: rest)) :=
  lv_icmp_eq C0.1 C0.2.1 hdg ht (fun z => kt (by rw [if_pos z] at h; exact h)) (fun z => kf (by rw [if_neg z] at h; exact h))
theorem x_if_ne (C0 : CallFix p m c cc nL s args Ts own) {x : Int32} {off : Int} (tgt : Nat) (hdg : decode cc pc = .ok (.ifCond .ne off, 3)) (ht : (pc : Int) + off = (tgt : Int)) (h : (if x = 0 then B else A) = o)
    (kt : A = o → W p l e R s m args below meth c H locs cells slots Q (F0 m tgt ls rest)) (kf : B = o → W p l e R s m args below meth c H locs cells slots Q (F0 m (pc + 3) ls rest)) : W p l e R s m args below meth c H locs cells slots Q (F0 m pc ls (.int x :: rest)) :=
  lv_if_ne C0.1 C0.2.1 hdg ht (fun z => kt (by rw [if_neg z] at h; exact h)) (fun z => kf (by rw [if_pos z] at h; exact h))
theorem x_icmp_ne (C0 : CallFix p m c cc nL s args Ts own) {x y : Int32} {off : Int} (tgt : Nat) (hdg : decode cc pc = .ok (.if_icmp .ne off, 3)) (ht : (pc : Int) + off = (tgt : Int)) (h : (if x = y then B else A) = o)
    (kt : A = o → W p l e R s m args below meth c H locs cells slots Q (F0 m tgt ls rest)) (kf : B = o → W p l e R s m args below meth c H locs cells slots Q (F0 m (pc + 3) ls rest)) : W p l e R s m args below meth c H locs cells slots Q (F0 m pc ls (.int y :: .int x :: rest)) :=
  lv_icmp_ne C0.1 C0.2.1 hdg ht (fun z => kt (by rw [if_neg z] at h; exact h)) (fun z => kf (by rw [if_pos z] at h; exact h))
theorem x_if_lt (C0 : CallFix p m c cc nL s args Ts own) {x : Int32} {off : Int} (tgt : Nat) (hdg : decode cc pc = .ok (.ifCond .lt off, 3)) (ht : (pc : Int) + off = (tgt : Int)) (h : (if x < 0 then A else B) = o)
    (kt : A = o → W p l e R s m args below meth c H locs cells slots Q (F0 m tgt ls rest)) (kf : B = o → W p l e R s m args below meth c H locs cells slots Q (F0 m (pc + 3) ls rest)) : W p l e R s m args below meth c H locs cells slots Q (F0 m pc ls (.int x :: rest)) :=
  lv_if_lt C0.1 C0.2.1 hdg ht (fun z => kt (by rw [if_pos z] at h; exact h)) (fun z => kf (by rw [if_neg z] at h; exact h))
theorem x_icmp_lt (C0 : CallFix p m c cc nL s args Ts own) {x y : Int32} {off : Int} (tgt : Nat) (hdg : decode cc pc = .ok (.if_icmp .lt off, 3)) (ht : (pc : Int) + off = (tgt : Int)) (h : (if x < y then A else B) = o)
    (kt : A = o → W p l e R s m args below meth c H locs cells slots Q (F0 m tgt ls rest)) (kf : B = o → W p l e R s m args below meth c H locs cells slots Q (F0 m (pc + 3) ls rest)) : W p l e R s m args below meth c H locs cells slots Q (F0 m pc ls (.int y :: .int x :: rest)) :=
  lv_icmp_lt C0.1 C0.2.1 hdg ht (fun z => kt (by rw [if_pos z] at h; exact h)) (fun z => kf (by rw [if_neg z] at h; exact h))
theorem x_if_ge (C0 : CallFix p m c cc nL s args Ts own) {x : Int32} {off : Int} (tgt : Nat) (hdg : decode cc pc = .ok (.ifCond .ge off, 3)) (ht : (pc : Int) + off = (tgt : Int)) (h : (if 0 ≤ x then A else B) = o)
    (kt : A = o → W p l e R s m args below meth c H locs cells slots Q (F0 m tgt ls rest)) (kf : B = o → W p l e R s m args below meth c H locs cells slots Q (F0 m (pc + 3) ls rest)) : W p l e R s m args below meth c H locs cells slots Q (F0 m pc ls (.int x :: rest)) :=
  lv_if_ge C0.1 C0.2.1 hdg ht (fun z => kt (by rw [if_pos z] at h; exact h)) (fun z => kf (by rw [if_neg z] at h; exact h))
theorem x_icmp_ge (C0 : CallFix p m c cc nL s args Ts own) {x y : Int32} {off : Int} (tgt : Nat) (hdg : decode cc pc = .ok (.if_icmp .ge off, 3)) (ht : (pc : Int) + off = (tgt : Int)) (h : (if y ≤ x then A else B) = o)
    (kt : A = o → W p l e R s m args below meth c H locs cells slots Q (F0 m tgt ls rest)) (kf : B = o → W p l e R s m args below meth c H locs cells slots Q (F0 m (pc + 3) ls rest)) : W p l e R s m args below meth c H locs cells slots Q (F0 m pc ls (.int y :: .int x :: rest)) :=
  lv_icmp_ge C0.1 C0.2.1 hdg ht (fun z => kt (by rw [if_pos z] at h; exact h)) (fun z => kf (by rw [if_neg z] at h; exact h))
theorem x_if_gt (C0 : CallFix p m c cc nL s args Ts own) {x : Int32} {off : Int} (tgt : Nat) (hdg : decode cc pc = .ok (.ifCond .gt off, 3)) (ht : (pc : Int) + off = (tgt : Int)) (h : (if 0 < x then A else B) = o)
    (kt : A = o → W p l e R s m args below meth c H locs cells slots Q (F0 m tgt ls rest)) (kf : B = o → W p l e R s m args below meth c H locs cells slots Q (F0 m (pc + 3) ls rest)) : W p l e R s m args below meth c H locs cells slots Q (F0 m pc ls (.int x :: rest)) :=
  lv_if_gt C0.1 C0.2.1 hdg ht (fun z => kt (by rw [if_pos z] at h; exact h)) (fun z => kf (by rw [if_neg z] at h; exact h))
theorem x_icmp_gt (C0 : CallFix p m c cc nL s args Ts own) {x y : Int32} {off : Int} (tgt : Nat) (hdg : decode cc pc = .ok (.if_icmp .gt off, 3)) (ht : (pc : Int) + off = (tgt : Int)) (h : (if y < x then A else B) = o)
    (kt : A = o → W p l e R s m args below meth c H locs cells slots Q (F0 m tgt ls rest)) (kf : B = o → W p l e R s m args below meth c H locs cells slots Q (F0 m (pc + 3) ls rest)) : W p l e R s m args below meth c H locs cells slots Q (F0 m pc ls (.int y :: .int x :: rest)) :=
  lv_icmp_gt C0.1 C0.2.1 hdg ht (fun z => kt (by rw [if_pos z] at h; exact h)) (fun z => kf (by rw [if_neg z] at h; exact h))
theorem x_if_le (C0 : CallFix p m c cc nL s args Ts own) {x : Int32} {off : Int} (tgt : Nat) (hdg : decode cc pc = .ok (.ifCond .le off, 3)) (ht : (pc : Int) + off = (tgt : Int)) (h : (if x ≤ 0 then A else B) = o)
    (kt : A = o → W p l e R s m args below meth c H locs cells slots Q (F0 m tgt ls rest)) (kf : B = o → W p l e R s m args below meth c H locs cells slots Q (F0 m (pc + 3) ls rest)) : W p l e R s m args below meth c H locs cells slots Q (F0 m pc ls (.int x :: rest)) :=
  lv_if_le C0.1 C0.2.1 hdg ht (fun z => kt (by rw [if_pos z] at h; exact h)) (fun z => kf (by rw [if_neg z] at h; exact h))
theorem x_icmp_le (C0 : CallFix p m c cc nL s args Ts own) {x y : Int32} {off : Int} (tgt : Nat) (hdg : decode cc pc = .ok (.if_icmp .le off, 3)) (ht : (pc : Int) + off = (tgt : Int)) (h : (if x ≤ y then A else B) = o)
    (kt : A = o → W p l e R s m args below meth c H locs cells slots Q (F0 m tgt ls rest)) (kf : B = o → W p l e R s m args below meth c H locs cells slots Q (F0 m (pc + 3) ls rest)) : W p l e R s m args below meth c H locs cells slots Q (F0 m pc ls (.int y :: .int x :: rest)) :=
  lv_icmp_le C0.1 C0.2.1 hdg ht (fun z => kt (by rw [if_pos z] at h; exact h)) (fun z => kf (by rw [if_neg z] at h; exact h))
theorem x_ifnull (C0 : CallFix p m c cc nL s args Ts own) {r : Option Nat} {off : Int} (tgt : Nat) (hdg : decode cc pc = .ok (.ifnull off, 3)) (ht : (pc : Int) + off = (tgt : Int)) (h : (if r = none then A else B) = o)
    (kt : r = none → A = o → W p l e R s m args below meth c H locs cells slots Q (F0 m tgt ls rest)) (kf : ∀ a, r = some a → B = o → W p l e R s m args below meth c H locs cells slots Q (F0 m (pc + 3) ls rest)) : W p l e R s m args below meth c H locs cells slots Q (F0 m pc ls (va_rf r :: rest)) := by
  cases r with
  | none => exact lv_ifnullN C0.1 C0.2.1 hdg ht (kt rfl (by rw [if_pos rfl] at h; exact h))
  | some a => exact lv_ifnull C0.1 C0.2.1 hdg (kf a rfl (by rw [if_neg (by simp)] at h; exact h))
theorem x_ifnonnull (C0 : CallFix p m c cc nL s args Ts own) {r : Option Nat} {off : Int} (tgt : Nat) (hdg : decode cc pc = .ok (.ifnonnull off, 3)) (ht : (pc : Int) + off = (tgt : Int)) (h : (if r = none then B else A) = o)
    (kt : ∀ a, r = some a → A = o → W p l e R s m args below meth c H locs cells slots Q (F0 m tgt ls rest)) (kf : r = none → B = o → W p l e R s m args below meth c H locs cells slots Q (F0 m (pc + 3) ls rest)) : W p l e R s m args below meth c H locs cells slots Q (F0 m pc ls (va_rf r :: rest)) := by
  cases r with
  | none => exact lv_ifnonnullN C0.1 C0.2.1 hdg (kf rfl (by rw [if_pos rfl] at h; exact h))
  | some a => exact lv_ifnonnull C0.1 C0.2.1 hdg ht (kt a rfl (by rw [if_neg (by simp)] at h; exact h))
theorem x_idiv (C0 : CallFix p m c cc nL s args Ts own) {x y : Int32} (hdg : decode cc pc = .ok (.idiv, 1)) (h : (if y = 0 then none else A) = o) (ho : o.isSome)
    (k : A = o → W p l e R s m args below meth c H locs cells slots Q (F0 m (pc + 1) ls (.int (x / y) :: rest))) : W p l e R s m args below meth c H locs cells slots Q (F0 m pc ls (.int y :: .int x :: rest)) := by
  by_cases hy : y = 0
  · rw [if_pos hy] at h; subst h; cases ho
  · rw [if_neg hy] at h; exact lv_idiv C0.1 C0.2.1 hdg hy (k h)
theorem x_irem (C0 : CallFix p m c cc nL s args Ts own) {x y : Int32} (hdg : decode cc pc = .ok (.irem, 1)) (h : (if y = 0 then none else A) = o) (ho : o.isSome)
    (k : A = o → W p l e R s m args below meth c H locs cells slots Q (F0 m (pc + 1) ls (.int (x - x / y * y) :: rest))) : W p l e R s m args below meth c H locs cells slots Q (F0 m pc ls (.int y :: .int x :: rest)) := by
  by_cases hy : y = 0
  · rw [if_pos hy] at h; subst h; cases ho
  · rw [if_neg hy] at h; exact lv_irem C0.1 C0.2.1 hdg hy (k h)
end XR
