/-- a private method of a superclass is selected as it stands; that its class is no interface another method's word says -/
theorem xj_sel {C : String} {y z : MethodName} {s : State} {args : Array Value} {n : Nat} (hy : y.cls ≠ "java/lang/invoke/MethodHandle" ∧ y.cls ≠ "java/lang/invoke/VarHandle") (hz : z.cls = y.cls)
    (hins : (Cond.instantiable C n).before args s = true) (hpriv : (Cond.privateMethod y).before args s = true) (hinst : (Cond.instanceMethod y).before args s = true) (hzin : (Cond.instanceMethod z).before args s = true) (hsz : (Cond.selects C z z).before args s = true) :
    (Cond.selects C y y).before args s = true := by
  obtain ⟨c, k, hc, hk, -, hniab, -, -⟩ := Cond.instantiable_spec hins
  obtain ⟨mk, methM, hnamed, hmethM, -, -⟩ := Cond.instanceMethod_spec hinst
  obtain ⟨mz, methZ, hnz, hmz, -, -⟩ := Cond.instanceMethod_spec hzin
  have hfound : s.methodFound? y.cls y.name y.desc = some mk := State.methodFound?_of_named hnamed hy
  have hfz : s.methodFound? z.cls z.name z.desc = some mz := State.methodFound?_of_named hnz (by rw [hz]; exact hy)
  have hcls : mz.cls = mk.cls := by
    have a := findClass_of_methodNamed hnz
    have b := findClass_of_methodNamed hnamed
    rw [hz] at a
    exact Option.some.inj (a.symm.trans b)
  have hsel : selectMethod {} s.vm c mk = .method mk := selectMethod_private hmethM (Cond.privateMethod_at hpriv mk methM hnamed hmethM)
  have hany : Option.any (fun x => !x.isInterface) s.vm.classes[mk.cls]? = true := by
    simp only [Cond.before, Cond.holds, Cond.value, hc, hfz, hnz] at hsz
    rw [← hcls]
    revert hsz
    cases selectMethod {} s.vm c mz <;> simp_all
  simp only [Cond.before, Cond.holds, Cond.value, hc, hfound, hnamed, hsel, hk]
  simp
  exact hany
/-! rows for the JDK's own methods: byte arrays, tables of digits, statics -/
section XJ
variable {p : Program} {l : Launch} {e : Env} {R : Room} {s : State} {m : MethodId} {args : Array Value} {below : List Frame} {meth : Method} {c : Code} {H : Heap} {locs : List Loc} {cells slots : Nat} {Q : State → Prop}
variable {cc : ByteArray} {pc nL : Nat} {ls : Array Slot} {rest : List Value} {Ts : List Cond} {own : String} {lv lv' : List (Nat × xV)}
variable {G : Gx} {cl : List vw_C} {aty : List FieldType} {w : Mp} {α : Type} {res : α}
theorem x_bald (C0 : CallFix p m c cc nL s args Ts own) (hE : xE G cl aty s) (hH : xhd G cl w H) {t : Nat} (ht : aty[t]? = some .byte) (hdg : decode cc pc = .ok (.baload, 1))
    {r : Option Nat} {i : Int32} {F : Int32 → Option α} (h : (aI w r t i).bind F = some res) (kk : ∀ v, F v = some res → W p l e R s m args below meth c H locs cells slots Q (F0 m (pc + 1) ls (.int v :: rest))) : W p l e R s m args below meth c H locs cells slots Q (F0 m pc ls (.int i :: va_rf r :: rest)) := by
  obtain ⟨v, hv, hF⟩ := Option.bind_eq_some_iff.mp h
  obtain ⟨a, n, f, rfl, h2, h3, rfl⟩ := aI_inv hv
  exact va_bald (D := G.2.1) (ws := [(a, .inl (G.2.2.1 t, n, .inl f))]) C0.1 C0.2.1 hE.1 (xhd_one hH h2) 0 t rfl (xT_at ht) h3 hdg (kk _ hF)
theorem x_bast (C0 : CallFix p m c cc nL s args Ts own) (hE : xE G cl aty s) (hH : xhd G cl w H) (hS : xS G s H locs) {t : Nat} (ht : aty[t]? = some .byte) (hdg : decode cc pc = .ok (.bastore, 1))
    {r : Option Nat} {i x : Int32} {F : Mp → Option α} (h : (sI w r t i (vp_nar .byte x)).bind F = some res) (kk : ∀ w' H' locs', xhd G cl w' H' → xS G s H' locs' → H'.size = H.size → F w' = some res → W p l e R s m args below meth c H' locs' cells slots Q (F0 m (pc + 1) ls rest)) : W p l e R s m args below meth c H locs cells slots Q (F0 m pc ls (.int x :: .int i :: va_rf r :: rest)) := by
  obtain ⟨w', hv, hF⟩ := Option.bind_eq_some_iff.mp h
  obtain ⟨a, n, f, rfl, h2, h3, rfl⟩ := sI_inv hv
  obtain ⟨hA, h1⟩ := hH a _ h2
  refine W.bast C0.1 C0.2.1 h1 ((hE.1.2 t _ (xT_at ht)).1 n (fun j => .int (f j))) (fun q => by cases q) (by show ¬ (i < 0 ∨ (arrV _ _ _).slots.size ≤ _); rw [arrV_size]; exact h3) rfl rfl hdg fun H1 e z oq => ?_
  refine kk _ H1 _ (xhd_set hH h2 ?_ oq) (hS.put z oq hA) z hF
  show H1[a]? = some (vp_cell _ _)
  rw [e]
  show some ((vp_cell _ (n, .inl f)).setSlot _ _) = some (vp_cell _ (n, .inl _))
  rw [vp_cell_i, vp_cell_i, arrV_store]
  congr 2
  funext q
  by_cases hq : q = i.toNatClampNeg
  · subst hq
    simp [updV, upd, vp_nar]
    try rfl
  · simp [updV, upd, hq]
def xdig (k : Nat) (i : Int32) : Option Int32 := if i < 0 ∨ 100 ≤ i.toNatClampNeg then none else some (if k = 1 then xd1 i.toNatClampNeg else xd2 i.toNatClampNeg)
theorem x_tb1 (C0 : CallFix p m c cc nL s args Ts own) (hE : xE G cl aty s) (hS : xS G s H locs) (hdg : decode cc pc = .ok (.baload, 1)) {i : Int32} {F : Int32 → Option α} (h : (xdig 1 i).bind F = some res)
    (kk : ∀ v, F v = some res → W p l e R s m args below meth c H locs cells slots Q (F0 m (pc + 1) ls (.int v :: rest))) : W p l e R s m args below meth c H locs cells slots Q (F0 m pc ls (.int i :: .ref (G.2.2.2 1) :: rest)) := by
  obtain ⟨v, hv, hF⟩ := Option.bind_eq_some_iff.mp h
  unfold xdig at hv
  split at hv
  · cases hv
  · rename_i hin
    cases hv
    exact va_tb C0.1 C0.2.1 hE.2.1.2.2.1.2 hS hin rfl hdg (kk _ hF)
theorem x_tb2 (C0 : CallFix p m c cc nL s args Ts own) (hE : xE G cl aty s) (hS : xS G s H locs) (hdg : decode cc pc = .ok (.baload, 1)) {i : Int32} {F : Int32 → Option α} (h : (xdig 2 i).bind F = some res)
    (kk : ∀ v, F v = some res → W p l e R s m args below meth c H locs cells slots Q (F0 m (pc + 1) ls (.int v :: rest))) : W p l e R s m args below meth c H locs cells slots Q (F0 m pc ls (.int i :: .ref (G.2.2.2 2) :: rest)) := by
  obtain ⟨v, hv, hF⟩ := Option.bind_eq_some_iff.mp h
  unfold xdig at hv
  split at hv
  · cases hv
  · rename_i hin
    cases hv
    exact va_tb C0.1 C0.2.1 hE.2.1.2.2.2.1.2 hS hin rfl hdg (kk _ hF)
theorem x_gz (C0 : CallFix p m c cc nL s args Ts own) (hE : xE G cl aty s) (hS : xS G s H locs) {index : Nat} (hl : Cond.fieldLink own index "java/lang/String" "COMPACT_STRINGS" "Z" ∈ Ts) (hdg : decode cc pc = .ok (.getstatic index, 3))
    (kk : W p l e R s m args below meth c H locs cells slots Q (F0 m (pc + 3) ls (.int 1 :: rest))) : W p l e R s m args below meth c H locs cells slots Q (F0 m pc ls rest) :=
  va_gets C0.1 C0.2.1 hE.2.1.2.1 hS C0.2.2.2.1 (C0.2.2.2.2 _ hl) (fun _ h9 => h9) hdg kk
theorem x_gd1 (C0 : CallFix p m c cc nL s args Ts own) (hE : xE G cl aty s) (hS : xS G s H locs) {index : Nat} (hl : Cond.fieldLink own index "java/lang/Integer" "DigitOnes" "[B" ∈ Ts) (hdg : decode cc pc = .ok (.getstatic index, 3))
    (kk : W p l e R s m args below meth c H locs cells slots Q (F0 m (pc + 3) ls (.ref (G.2.2.2 1) :: rest))) : W p l e R s m args below meth c H locs cells slots Q (F0 m pc ls rest) :=
  va_gets C0.1 C0.2.1 hE.2.1.2.2.1.1 hS C0.2.2.2.1 (C0.2.2.2.2 _ hl) (fun _ h9 => h9) hdg kk
theorem x_gd2 (C0 : CallFix p m c cc nL s args Ts own) (hE : xE G cl aty s) (hS : xS G s H locs) {index : Nat} (hl : Cond.fieldLink own index "java/lang/Integer" "DigitTens" "[B" ∈ Ts) (hdg : decode cc pc = .ok (.getstatic index, 3))
    (kk : W p l e R s m args below meth c H locs cells slots Q (F0 m (pc + 3) ls (.ref (G.2.2.2 2) :: rest))) : W p l e R s m args below meth c H locs cells slots Q (F0 m pc ls rest) :=
  va_gets C0.1 C0.2.1 hE.2.1.2.2.2.1.1 hS C0.2.2.2.1 (C0.2.2.2.2 _ hl) (fun _ h9 => h9) hdg kk
theorem x_newb (C0 : CallFix p m c cc nL s args Ts own) (hE : xE G cl aty s) (hH : xhd G cl w H) (hS : xS G s H locs) {sz : Nat} (hz : H.size = sz) {t lim : Nat} (ht : aty[t]? = some .byte) (harr : Cond.arrayClass .byte ∈ Ts)
    (hcells : cells + 1 ≤ R.cells) (hslots : slots + lim ≤ R.slots) (hdg : decode cc pc = .ok (.newarray .byte, 2)) {n : Int32} {F : Mp → Option α} (h : (xnI w sz t lim n).bind F = some res)
    (kk : ∀ w' H', xhd G cl w' H' → xS G s H' locs → H'.size = sz + 1 → F w' = some res → W p l e R s m args below meth c H' locs (cells + 1) (slots + lim) Q (F0 m (pc + 2) ls (va_rf (some sz) :: rest))) : W p l e R s m args below meth c H locs cells slots Q (F0 m pc ls (.int n :: rest)) := by
  subst hz
  obtain ⟨w', hv, hF⟩ := Option.bind_eq_some_iff.mp h
  unfold xnI at hv
  split at hv
  · cases hv
  · rename_i hn
    cases hv
    have hb4 : n.toNatClampNeg * componentBytes (newarray.typeOf .byte) ≤ 536870912 := by
      show n.toNatClampNeg * 1 ≤ _
      omega
    refine va_newaK (atype := .byte) C0.1 C0.2.1 (C0.2.2.2.2 _ harr) rfl hdg rfl (fun z => hn (Or.inl z)) rfl hb4 hcells (by omega) rfl fun H1 cA e1 z1 o1 hAr hNm => ?_
    refine W.widen (k := cells + 1) (n := slots + lim) (Nat.le_refl _) (by omega) ?_
    have hcA : cA = G.2.2.1 t := by
      have h9 := (hE.1.2 t _ (xT_at ht)).2
      exact Option.some.inj (hNm.symm.trans h9)
    refine kk _ H1 (xhd_new (e := .inr (t, n.toNatClampNeg, .inl (fun _ => 0))) hH (Nat.le_trans hE.2.1.1 hS.1) ?_ o1) ⟨Nat.le_trans hS.1 (by omega), fun x h1 h2 => (o1 x (Nat.lt_of_lt_of_le h1 hS.1)).trans (hS.2.1 x h1 h2), hS.2.2⟩ z1 hF
    show H1[H.size]? = some (vp_cell (G.2.2.1 t) (n.toNatClampNeg, .inl fun _ => 0))
    rw [vp_cell_i, ← hcA, e1]
    rfl
/-! the text of the kinds' letters -/
def xkl (i : Int32) : Option Int32 := if i < 0 ∨ 4 ≤ i.toNatClampNeg then none else some (([66, 83, 82, 68] : List Int32).getD i.toNatClampNeg 0)
theorem x_ldk (C0 : CallFix p m c cc nL s args Ts "LeafMatches") (hE : xE G cl aty s) (hdg : decode cc pc = .ok (.ldc_w 276, 3))
    (kk : W p l e R s m args below meth c H locs cells slots Q (F0 m (pc + 3) ls (va_rf (some (G.2.2.2 3)) :: rest))) : W p l e R s m args below meth c H locs cells slots Q (F0 m pc ls rest) := by
  intro T hT X
  obtain ⟨t, a1, b1⟩ := kk T hT X
  exact ⟨t, X.ldcStringW C0.1 C0.2.2.2.1 (text := "BSRD") (a := G.2.2.2 3) ((vk_R.warm (State.WarmedH.refl s) hE.2.1.2.2.2.2.2.2.1).1) hE.2.1.2.2.2.2.2.2.1.2 (g := F0 m pc ls rest) rfl (by rw [C0.2.1]; exact hdg) t a1, b1⟩
theorem x_kc (C0 : CallFix p m c cc nL s args Ts own) (hE : xE G cl aty s) (hS : xS G s H locs) {index : Nat} (hl : Cond.fieldLink own index "java/lang/String" "coder" "B" ∈ Ts) (hdg : decode cc pc = .ok (.getfield index, 3))
    (kk : W p l e R s m args below meth c H locs cells slots Q (F0 m (pc + 3) ls (.int 0 :: rest))) : W p l e R s m args below meth c H locs cells slots Q (F0 m pc ls (va_rf (some (G.2.2.2 3)) :: rest)) :=
  vk_getf C0.1 C0.2.1 (hE.2.1.2.2.2.2.2.1.1 0 (by decide)).2.1 hS C0.2.2.2.1 (C0.2.2.2.2 _ hl) (fun _ h9 => h9) hdg kk
theorem x_kv (C0 : CallFix p m c cc nL s args Ts own) (hE : xE G cl aty s) (hS : xS G s H locs) {index : Nat} (hl : Cond.fieldLink own index "java/lang/String" "value" "[B" ∈ Ts) (hdg : decode cc pc = .ok (.getfield index, 3))
    (kk : W p l e R s m args below meth c H locs cells slots Q (F0 m (pc + 3) ls (va_rf (some (G.2.2.2 4)) :: rest))) : W p l e R s m args below meth c H locs cells slots Q (F0 m pc ls (va_rf (some (G.2.2.2 3)) :: rest)) :=
  vk_getf C0.1 C0.2.1 (hE.2.1.2.2.2.2.2.1.1 0 (by decide)).2.2.1 hS C0.2.2.2.1 (C0.2.2.2.2 _ hl) (fun _ h9 => h9) hdg kk
theorem x_klen (C0 : CallFix p m c cc nL s args Ts own) (hE : xE G cl aty s) (hS : xS G s H locs) (hdg : decode cc pc = .ok (.arraylength, 1))
    (kk : W p l e R s m args below meth c H locs cells slots Q (F0 m (pc + 1) ls (.int 4 :: rest))) : W p l e R s m args below meth c H locs cells slots Q (F0 m pc ls (va_rf (some (G.2.2.2 4)) :: rest)) :=
  va_tlen C0.1 C0.2.1 (hE.2.1.2.2.2.2.2.1.1 0 (by decide)).2.2.2 hS (by decide) hdg kk
theorem x_kld (C0 : CallFix p m c cc nL s args Ts own) (hE : xE G cl aty s) (hS : xS G s H locs) (hdg : decode cc pc = .ok (.baload, 1)) {i : Int32} {F : Int32 → Option α} (h : (xkl i).bind F = some res)
    (kk : ∀ v, F v = some res → W p l e R s m args below meth c H locs cells slots Q (F0 m (pc + 1) ls (.int v :: rest))) : W p l e R s m args below meth c H locs cells slots Q (F0 m pc ls (.int i :: va_rf (some (G.2.2.2 4)) :: rest)) := by
  obtain ⟨v, hv, hF⟩ := Option.bind_eq_some_iff.mp h
  unfold xkl at hv
  split at hv
  · cases hv
  · rename_i hin
    cases hv
    exact va_tb C0.1 C0.2.1 (hE.2.1.2.2.2.2.2.1.1 0 (by decide)).2.2.2 hS hin rfl hdg (kk _ hF)
theorem x_preK (hE : xE G cl aty s) (hH : xhd G cl w H) (hS : xS G s H locs) {As : List Value} : PreV s H "java/lang/String" (G.2.2.2 3) (xPc G cl aty w H.size (.ref (G.2.2.2 3) :: As)) As :=
  ⟨xPc_blind, vk_recv (i := 0) hE.2.1.2.2.2.2.2.1 (by decide) hS, fun U hU hW => x_pre hE hH hS U hU hW⟩
theorem x_sio (hE : xE G cl aty s) : ∃ r : Option Nat, va_Z "jdk/internal/util/Preconditions" "SIOOBE_FORMATTER" "Ljava/util/function/BiFunction;" (va_rf r) (xA G) s s.heap := by
  rcases hE.2.1.2.2.2.2.1.1 with h | ⟨t, h⟩
  · exact ⟨none, h⟩
  · exact ⟨some t, h⟩
theorem x_gsio (C0 : CallFix p m c cc nL s args Ts own) (hS : xS G s H locs) {r : Option Nat} (hZ : va_Z "jdk/internal/util/Preconditions" "SIOOBE_FORMATTER" "Ljava/util/function/BiFunction;" (va_rf r) (xA G) s s.heap) {index : Nat} (hl : Cond.fieldLink own index "jdk/internal/util/Preconditions" "SIOOBE_FORMATTER" "Ljava/util/function/BiFunction;" ∈ Ts) (hdg : decode cc pc = .ok (.getstatic index, 3))
    (kk : W p l e R s m args below meth c H locs cells slots Q (F0 m (pc + 3) ls (va_rf r :: rest))) : W p l e R s m args below meth c H locs cells slots Q (F0 m pc ls rest) :=
  va_gets C0.1 C0.2.1 hZ hS C0.2.2.2.1 (C0.2.2.2.2 _ hl) (fun _ h9 => h9) hdg kk
theorem x_cwVP {index maxL mc ms : Nat} {y : MethodName} {C : String} {bytes : ByteArray} {ret : Option FieldType} {rm : Room} (n : Nat) (C0 : CallFix p m c cc nL s args wA own) (hl : Cond.methodLink own index y ∈ wA) (hc : Cond.code y bytes maxL ret ∈ wA) (hi : Cond.initialized y.cls ∈ wA) (hin : Cond.instanceMethod y ∈ wA) (hse : (Cond.selects C y y).before args s = true)
    (hd : y.cls ≠ "java/lang/invoke/MethodHandle" ∧ y.cls ≠ "java/lang/invoke/VarHandle" ∧ (parseMethodDescriptor y.desc).map (fun d => d.parameters.length) = some n) (hR : rm.frames + 1 ≤ R.frames ∧ 8 + (maxL + 11) + rm.locals ≤ R.locals) (hrc : rm.cells = mc := by rfl) (hrs : rm.slots = ms := by rfl) :
    CallW R s args own C index y bytes maxL ret (xws y bytes maxL ret) rm mc ms n :=
  ⟨callB_of n C0.2.2.2.2 (x_good hc) rfl hrc hrs (C0.2.2.2.2 _ hi) (C0.2.2.2.2 _ hl) hd hR, C0.2.2.2.2 _ hin, hse⟩
theorem x_goodSU {y : MethodName} {bytes : ByteArray} {maxL : Nat} {ret : Option FieldType} {index : Nat} (hl : Cond.methodLink own index y ∈ wA) (hsm : Cond.sameMethod y.cls y.cls y.name y.desc ∈ wA) (hsu : Cond.superclass own y.cls ∈ wA) (hin : Cond.instanceMethod y ∈ wA) (hi : Cond.initialized y.cls ∈ wA) (hc : Cond.code y bytes maxL ret ∈ wA) : GoodIn wA (va_wsSU own index y (xws y bytes maxL ret)) := by
  intro w hw
  have h : w ∈ wA := by
    unfold va_wsSU at hw
    rcases List.mem_append.mp hw with h | h
    · simp only [List.mem_cons, List.not_mem_nil, or_false] at h
      rcases h with rfl | rfl | rfl | rfl | rfl
      · exact hl
      · exact hsm
      · exact hsu
      · exact hin
      · exact hi
    · rcases List.mem_cons.mp h with h | h
      · rw [h]; exact hc
      · exact h
  exact ⟨h, good_of_word (List.mem_filter.mp h).2⟩
theorem x_cwSU {index maxL mc ms : Nat} {y : MethodName} {bytes : ByteArray} {ret : Option FieldType} {rm : Room} (n : Nat) (C0 : CallFix p m c cc nL s args wA own) (hl : Cond.methodLink own index y ∈ wA) (hsm : Cond.sameMethod y.cls y.cls y.name y.desc ∈ wA) (hsu : Cond.superclass own y.cls ∈ wA) (hin : Cond.instanceMethod y ∈ wA) (hi : Cond.initialized y.cls ∈ wA) (hc : Cond.code y bytes maxL ret ∈ wA)
    (hd : y.name ≠ "<init>" ∧ (parseMethodDescriptor y.desc).map (fun d => d.parameters.length) = some n) (hR : rm.frames + 1 ≤ R.frames ∧ 8 + (maxL + 11) + rm.locals ≤ R.locals) (hrc : rm.cells = mc := by rfl) (hrs : rm.slots = ms := by rfl) :
    va_CS R s args own index y bytes maxL ret (xws y bytes maxL ret) rm mc ms n :=
  va_cwSU n C0.2.2.2.2 (x_goodSU hl hsm hsu hin hi hc) rfl hrc hrs hd hR
theorem x_clat (hE : xE G vwCl xaty s) : ∃ cC, ClassAt s R_SB cC := by
  obtain ⟨-, hfc, kC, hkC, hkind⟩ := hE.1.1 6 _ rfl
  exact ⟨_, hfc, kC, hkC, hkind⟩
end XJ
