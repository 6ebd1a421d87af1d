/-! methods that may throw -/
def xexn (k : Nat) : String := if k = 0 then "java/lang/IllegalStateException" else if k = 1 then "java/lang/IllegalArgumentException" else "java/lang/IndexOutOfBoundsException"
abbrev xnames : List String := ["java/lang/RuntimeException", "java/lang/Exception"]
def xri (r : Int32 ⊕ Nat) : Option Value ⊕ Nat := match r with
  | .inl v => .inl (some (.int v))
  | .inr k => .inr k
def xrl (r : Int64 ⊕ Nat) : Option Value ⊕ Nat := match r with
  | .inl v => .inl (some (.long v))
  | .inr k => .inr k
def xQT (G : Gx) (cl : List vw_C) (r : Option Value ⊕ Nat) (w' : Mp) (sz' : Nat) : Array Value → State → Outcome → State → Prop := fun a st o t => ∃ v, r = .inl v ∧ xQ G cl v w' sz' a st o t
def xXT (G : Gx) (cl : List vw_C) (r : Option Value ⊕ Nat) (w' : Mp) (sz' : Nat) : String → State → State → Prop := fun E st t => ∃ k, r = .inr k ∧ E = xexn k ∧ xhd G cl w' t.heap ∧ t.heap.size = sz' ∧ va_F (xA G) st t
theorem x_noh {c : Code} (h : c.exceptionTable.isEmpty = true) : ∀ x ∈ c.exceptionTable.toList, ∀ q, covers x q = false := by
  intro x hx
  rw [Array.isEmpty_iff.mp h] at hx
  cases hx
section XX
variable {p : Program} {l : Launch} {e : Env} {R : Room} {s : State} {m : MethodId} {args : Array Value} {below : List Frame} {meth : Method} {c : Code} {H : Heap} {locs : List Loc} {cells slots mc ms : Nat} {Q : State → Prop}
variable {cc : ByteArray} {pc nL : Nat} {ls : Array Slot} {rest : List Value} {Ts : List Cond} {own : String} {lv lv' : List (Nat × xV)}
variable {G : Gx} {cl : List vw_C} {aty : List FieldType} {w : Mp} {sz : Nat} {XC : String → State → State → Prop} {Qc : Array Value → State → Outcome → State → Prop}
theorem x_iretT (C0 : CallFix p m c cc nL s args Ts own) (hr : meth.sig.returnType = some .int) (hlocks : meth.locks = false) (hH : xhd G cl w H) (hS : xS G s H locs) (hz : H.size = sz) (hc : cells ≤ mc) (hs : slots ≤ ms) {v : Int32} (hdg : decode cc pc = .ok (.ireturn, 1)) : W p l e R s m args below meth c H locs cells slots (vx_MQ below (xQT G cl (.inl (some (.int v))) w sz) XC args s mc ms (xA G)) (F0 m pc ls [.int v]) := by
  refine vx_ret (W.widen hc hs ?_)
  exact W.iret C0.1 C0.2.1 hr (fun t ht _ => ⟨_, rfl, rfl, by rw [ht]; exact hH, by rw [ht]; exact hz, hS.F ht⟩) hS.2.2 hdg hlocks
theorem x_zretT (C0 : CallFix p m c cc nL s args Ts own) {ty : FieldType} (hr : meth.sig.returnType = some ty) (hlocks : meth.locks = false) (hH : xhd G cl w H) (hS : xS G s H locs) (hz : H.size = sz) (hc : cells ≤ mc) (hs : slots ≤ ms) {v : Int32} (hn : narrow ty (.int v) = .int v) (hdg : decode cc pc = .ok (.ireturn, 1)) : W p l e R s m args below meth c H locs cells slots (vx_MQ below (xQT G cl (.inl (some (.int v))) w sz) XC args s mc ms (xA G)) (F0 m pc ls [.int v]) := by
  refine vx_ret (W.widen hc hs ?_)
  exact W.zret C0.1 C0.2.1 hr hn (fun t ht _ => ⟨_, rfl, rfl, by rw [ht]; exact hH, by rw [ht]; exact hz, hS.F ht⟩) hS.2.2 hdg hlocks
theorem x_lretT (C0 : CallFix p m c cc nL s args Ts own) (hr : meth.sig.returnType = some .long) (hlocks : meth.locks = false) (hH : xhd G cl w H) (hS : xS G s H locs) (hz : H.size = sz) (hc : cells ≤ mc) (hs : slots ≤ ms) {v : Int64} (hdg : decode cc pc = .ok (.lreturn, 1)) : W p l e R s m args below meth c H locs cells slots (vx_MQ below (xQT G cl (.inl (some (.long v))) w sz) XC args s mc ms (xA G)) (F0 m pc ls [.long v]) := by
  refine vx_ret (W.widen hc hs ?_)
  exact W.lret C0.1 C0.2.1 hr (fun t ht _ => ⟨_, rfl, rfl, by rw [ht]; exact hH, by rw [ht]; exact hz, hS.F ht⟩) hS.2.2 hdg hlocks
theorem x_hat {L : List Cond} (C0 : CallFix p m c cc nL s args wA own) (hE : xE G cl aty s) (h1 : ∀ w ∈ L.filter goodWord, w ∈ lw_tbl) (h2 : ∀ w ∈ L.filter (fun w => !goodWord w), w ∈ xnw) : ∀ w ∈ L, w.before args s = true :=
  vx_hat (B := xnw) (fun w hw => C0.2.2.2.2 w (wA_in (h1 w hw) (List.mem_filter.mp hw).2)) h2 (fun w hw => va_Nw.use (xnw_tab w hw) (hE.2.2.1 w hw))
theorem x_kept {H1 : Heap} (hH : xhd G cl w H) (h : ∀ q : Nat, q < H.size → H1[q]? = H[q]?) : xhd G cl w H1 := fun a e he => ⟨(hH a e he).1, (hH a e he).2.kept (h a (hH a e he).2.lt)⟩
theorem x_throw (C0 : CallFix p m c cc nL s args wA own) (hlt : l.stackTraces = false) (hE : xE G cl aty s) (hH : xhd G cl w H) (hS : xS G s H locs) (hz : H.size = sz) (hl : xL ls nL lv) (hout : ∀ x ∈ c.exceptionTable.toList, ∀ q, covers x q = false) (k : Nat) {ik is ic : Nat} {text : String} (hfit : Bundle.fit (xexn k) = true) (hk : Cond.classLink own ik (xexn k) ∈ wA) (hini : Cond.initialized (xexn k) ∈ wA) (hstr : (own, is, text) ∈ xstr)
    (h1 : ∀ w ∈ (vx_atS own ic (xexn k) xnames).filter goodWord, w ∈ lw_tbl) (h2 : ∀ w ∈ (vx_atS own ic (xexn k) xnames).filter (fun w => !goodWord w), w ∈ xnw) (hgood : ∀ w ∈ Cond.classLink own ik (xexn k) :: Cond.initialized (xexn k) :: vx_atS own ic (xexn k) xnames, vx_ot w = true)
    (d0 : decode cc pc = .ok (.new ik, 3)) (d3 : decode cc (pc + 3) = .ok (.dup, 1)) (d4 : decode cc (pc + 4) = .ok (.ldc is, 2)) (d6 : decode cc (pc + 6) = .ok (.invokespecial ic, 3)) (d9 : decode cc (pc + 9) = .ok (.athrow, 1))
    (hRf : 6 ≤ R.frames) (hRl : 82 ≤ R.locals) (hRc : cells + 1 ≤ R.cells) (hRs : slots + 6 ≤ R.slots) (hlocks : meth.locks = false) (hc : cells + 1 ≤ mc) (hs : slots + 6 ≤ ms) :
    W p l e R s m args below meth c H locs cells slots (vx_MQ below Qc (xXT G cl (.inr k) w (sz + 1)) args s mc ms (xA G)) (F0 m pc ls []) := by
  obtain ⟨sa, hsa⟩ := hE.2.2.2.2.2.1 _ hstr
  exact vx_throwS (A := xA G) (names := xnames) C0.1 C0.2.1 hlt C0.2.2.2.1 hfit (by decide +kernel) (C0.2.2.2.2 _ hk) (C0.2.2.2.2 _ hini) hsa (x_hat C0 hE h1 h2) hgood hE.2.2.2.2.1.1 hE.2.2.2.2.1.2 hS (hl.1.trans C0.2.2.1.symm) d0 d3 d4 d6 d9 (fun x hx => hout x hx _) (by show 2 + 3 < _; omega) (by show 0 + (13 * (2 + 1) + 43) ≤ _; omega) hRc hRs hlocks
    (fun t hal hz9 hq => ⟨k, rfl, rfl, x_kept hH hq, by rw [hz9, hz], Nat.le_trans hS.1 (by omega), fun q h1 h2 => (hq q (Nat.lt_of_lt_of_le h1 hS.1)).trans (hS.2.1 q h1 h2)⟩) hS.2.2 hc hs
theorem x_throwW (C0 : CallFix p m c cc nL s args wA own) (hlt : l.stackTraces = false) (hE : xE G cl aty s) (hH : xhd G cl w H) (hS : xS G s H locs) (hz : H.size = sz) (hl : xL ls nL lv) (hout : ∀ x ∈ c.exceptionTable.toList, ∀ q, covers x q = false) (k : Nat) {ik is ic : Nat} {text : String} (hfit : Bundle.fit (xexn k) = true) (hk : Cond.classLink own ik (xexn k) ∈ wA) (hini : Cond.initialized (xexn k) ∈ wA) (hstr : (own, is, text) ∈ xstr)
    (h1 : ∀ w ∈ (vx_atS own ic (xexn k) xnames).filter goodWord, w ∈ lw_tbl) (h2 : ∀ w ∈ (vx_atS own ic (xexn k) xnames).filter (fun w => !goodWord w), w ∈ xnw) (hgood : ∀ w ∈ Cond.classLink own ik (xexn k) :: Cond.initialized (xexn k) :: vx_atS own ic (xexn k) xnames, vx_ot w = true)
    (d0 : decode cc pc = .ok (.new ik, 3)) (d3 : decode cc (pc + 3) = .ok (.dup, 1)) (d4 : decode cc (pc + 4) = .ok (.ldc_w is, 3)) (d6 : decode cc (pc + 7) = .ok (.invokespecial ic, 3)) (d9 : decode cc (pc + 10) = .ok (.athrow, 1))
    (hRf : 6 ≤ R.frames) (hRl : 82 ≤ R.locals) (hRc : cells + 1 ≤ R.cells) (hRs : slots + 6 ≤ R.slots) (hlocks : meth.locks = false) (hc : cells + 1 ≤ mc) (hs : slots + 6 ≤ ms) :
    W p l e R s m args below meth c H locs cells slots (vx_MQ below Qc (xXT G cl (.inr k) w (sz + 1)) args s mc ms (xA G)) (F0 m pc ls []) := by
  obtain ⟨sa, hsa⟩ := hE.2.2.2.2.2.1 _ hstr
  exact vx_throwSW (A := xA G) (names := xnames) C0.1 C0.2.1 hlt C0.2.2.2.1 hfit (by decide +kernel) (C0.2.2.2.2 _ hk) (C0.2.2.2.2 _ hini) hsa (x_hat C0 hE h1 h2) hgood hE.2.2.2.2.1.1 hE.2.2.2.2.1.2 hS (hl.1.trans C0.2.2.1.symm) d0 d3 d4 d6 d9 (fun x hx => hout x hx _) (by show 2 + 3 < _; omega) (by show 0 + (13 * (2 + 1) + 43) ≤ _; omega) hRc hRs hlocks
    (fun t hal hz9 hq => ⟨k, rfl, rfl, x_kept hH hq, by rw [hz9, hz], Nat.le_trans hS.1 (by omega), fun q h1 h2 => (hq q (Nat.lt_of_lt_of_le h1 hS.1)).trans (hS.2.1 q h1 h2)⟩) hS.2.2 hc hs
end XX
