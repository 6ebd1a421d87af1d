section

theorem goodIn_r {big : List Cond} (ws : List Cond) (ps : List Nat) (hp : ws = ps.filterMap (fun i => big[i]?)) (h : ws.all goodWord = true) : GoodIn big ws := by
  intro w hw
  have h1 := List.all_eq_true.mp h w hw
  rw [hp] at hw
  obtain ⟨i, -, hi⟩ := List.mem_filterMap.mp hw
  have hm : w ∈ big := by first | exact List.mem_of_getElem? hi | exact List.getElem?_mem hi
  exact ⟨hm, good_of_word h1⟩
theorem goodIn_app {big a b : List Cond} (ha : GoodIn big a) (hb : GoodIn big b) : GoodIn big (a ++ b) := fun w h => (List.mem_append.mp h).elim (ha w) (hb w)
theorem goodIn_ca {big a b : List Cond} {c : Cond} (ha : GoodIn big (c :: a)) (hb : GoodIn big b) : GoodIn big (c :: (a ++ b)) := fun w h => (List.mem_cons.mp h).elim (fun e => ha w (List.mem_cons.mpr (Or.inl e))) (fun h => (List.mem_append.mp h).elim (fun h => ha w (List.mem_cons.mpr (Or.inr h))) (hb w))
theorem goodIn_sub {big ws : List Cond} (hm : ∀ w ∈ ws, w ∈ big) (h : ws.all goodWord = true) : GoodIn big ws := fun w hw => ⟨hm w hw, good_of_word (List.all_eq_true.mp h w hw)⟩
section VXA
def vx_T (XC : String → State → State → Prop) (st : State) (q : Addr) (t : State) (mc ms : Nat) (free : Addr → Prop) : Prop :=
  ∃ (E : String) (ce : Cell) (L : List Loc), XC E st t ∧ t.heap[q]? = some ce ∧ ce.vm = .none ∧ st.vm.findClass E = some ce.cls ∧ st.WarmedH t.vm ∧ st.sameButNew ({ t with vm := st.vm } : State) L mc ms ∧ ∀ z ∈ L, free z.base
def vx_Q (Qc : Array Value → State → Outcome → State → Prop) (XC : String → State → State → Prop) (mc ms : Nat) (free : Addr → Prop) : Array Value → State → Outcome → State → Prop := fun a st o t =>
  (Qc a st o t ∧ ∃ L, FrameEnd st o t L mc ms ∧ ∀ q ∈ L, free q.base) ∨ ∃ q, o = .threw q ∧ vx_T XC st q t mc ms free
def vx_Met (l : Launch) (y : MethodName) (ws : List Cond) (rm : Room) (Pc : Array Value → State → Prop) (Qc : Array Value → State → Outcome → State → Prop) (XC : String → State → State → Prop) (mc ms : Nat) (free : Addr → Prop) : Prop :=
  MetFree l y (headSpec ws rm) Pc (fun _ _ _ _ _ => True) (vx_Q Qc XC mc ms free)
def vx_Post (XC : String → State → State → Prop) (mc ms : Nat) (free : Addr → Prop) : Pt → Array Value → Addr → Pt → Prop := fun A a q B =>
  ∃ (g : JFrame) (mk : MethodId) (t : State) (L : List Loc) (E : String) (ce : Cell), B.U.heap = t.heap ∧ B.U.vm = t.vm ∧ XC E (A.U.calling g mk a) t ∧ t.heap[q]? = some ce ∧ ce.vm = .none ∧ A.U.vm.findClass E = some ce.cls ∧ B.locs = A.locs ++ L ∧ (∀ z ∈ L, free z.base) ∧ B.cells = A.cells + mc ∧ B.slots = A.slots + ms
def vx_Back (l : Launch) (R : Room) (p : Program) (e : Env) (below : List Frame) (s : State) (sargs : Array Value) (y : MethodName) (len W9 : Nat)
    (Pre : Pt → Array Value → Prop) (Post : Pt → Array Value → Option Value → Pt → Prop) (PostX : Pt → Array Value → Addr → Pt → Prop) : Prop :=
  ∀ (m : MethodId) (meth : Method) (c : Code) (A : Pt) (g : JFrame) (ig : Instr) (mk : MethodId) (a : Array Value),
    Stand p l e R s m sargs below meth c A.U A.locs A.cells A.slots → g.method = m → g.locals.size = c.maxLocals → decode c.code g.pc = .ok (ig, len) →
    2 * g.monitorRoom + (g.stack.map fun v => v.category).sum ≤ W9 → A.U.methodNamed? y = some mk → Pre A a →
    (∃ (v : Option Value) (B : Pt), Stand p l e R s m sargs below meth c B.U B.locs B.cells B.slots ∧ Post A a v B ∧
      Steps p.tables e below (doInvoke e (A.U.setTop g) [] mk a).1 (B.U.setTop { g with pc := g.pc + len, stack := v.toList ++ g.stack })) ∨
    (∃ (q : Addr) (B : Pt), Stand p l e R s m sargs below meth c B.U B.locs B.cells B.slots ∧ PostX A a q B ∧
      Steps p.tables e below (doInvoke e (A.U.setTop g) [] mk a).1 ((B.U.setTop g).pushFrame (.throwing q)))
section Payer
variable {l : Launch} {R : Room} {p : Program} {e : Env} {below : List Frame} {s : State} {sargs : Array Value} {y : MethodName} {len W9 : Nat}
theorem vx_back {ws : List Cond} {rm : Room} {Pc : Array Value → State → Prop} {Qc : Array Value → State → Outcome → State → Prop} {XC : String → State → State → Prop} {mc ms : Nat} {free : Addr → Prop} {bytes : ByteArray} {maxL : Nat} {ret : Option FieldType}
    (hM : vx_Met l y ws rm Pc Qc XC mc ms free) (hblind : FrameBlind Pc) (hrc : rm.cells = mc) (hrs : rm.slots = ms)
    (hframes : rm.frames + 1 ≤ R.frames) (hlocals : W9 + (maxL + 11) + rm.locals ≤ R.locals)
    (hws : ∀ w ∈ ws, ∀ a' U, s.WarmedH U.vm → w.before a' U = true) (hcode : Cond.code y bytes maxL ret ∈ ws) (hinit : ∀ a' U, s.WarmedH U.vm → (Cond.initialized y.cls).before a' U = true) :
    vx_Back l R p e below s sargs y len W9 (PreOf R mc ms Pc) (PostOf Qc mc ms free) (vx_Post XC mc ms free) := by
  intro m meth c A g ig mk a X hg hsize hdg hW hn hp
  have h1 : (headSpec ws rm).pre.before a A.U = true := atoms_intro fun w hw => hws w hw _ _ X.warmed
  have h2 : (Cond.code y bytes maxL ret).before a A.U = true := hws _ hcode _ _ X.warmed
  have h3 : (Cond.initialized y.cls).before a A.U = true := hinit _ _ X.warmed
  have h4 : A.cells + (headSpec ws rm).room.cells ≤ R.cells := by rw [show (headSpec ws rm).room.cells = mc from hrc]; exact hp.1
  have h5 : A.slots + (headSpec ws rm).room.slots ≤ R.slots := by rw [show (headSpec ws rm).room.slots = ms from hrs]; exact hp.2.1
  have hPc : Pc a (A.U.calling g mk a) := hblind _ _ _ _ hp.2.2
  obtain ⟨U, Ls, c0, s0⟩ := A
  dsimp only [Pt.U, Pt.locs, Pt.cells, Pt.slots] at h1 h2 h3 h4 h5 X hn hPc ⊢
  obtain ⟨methY, cY, hmY, hcY, -, hlY, -, -, -, -⟩ := Cond.code_spec hn h2
  obtain ⟨kY, hkY, -⟩ := className_of_methodNamed hn
  have hinitY : kY.init = .initialized := Cond.initialized_spec (findClass_of_methodNamed hn) hkY h3
  have h : At U g.method c below := by rw [hg]; exact X.here
  have hlocals9 : W9 + (maxL + 11) + (headSpec ws rm).room.locals ≤ R.locals := hlocals
  have happ : (headSpec ws rm).appliesLoose y e.platform (U.calling g mk a) = true :=
    Spec.appliesLoose_calling (g := g) h hdg hn hkY hinitY
      (X.room_calling (g := g) (R' := (headSpec ws rm).room) hsize hmY hcY hframes (by rw [hlY]; omega) h4 h5) h1
  obtain ⟨mid, hmid⟩ := h.above
  have hfr : (U.setTop g).frames = (.java g :: mid) ++ below := by rw [State.frames_setTop' g h.top, hmid]; rfl
  obtain ⟨o, s₂, hsteps, -, hend, hq⟩ := Steps.callFree hM p X.admits X.cas X.clock (acts := []) hfr happ hPc trivial
  have hq' : vx_Q Qc XC mc ms free a (U.calling g mk a) o s₂ := hq
  rw [State.frames_setTop' g h.top] at hend
  obtain ⟨g₀, hg0⟩ := Option.isSome_iff_exists.mp h.top
  obtain ⟨r, hr⟩ := State.topJava?_eq_some.mp hg0
  have hr' : (({ U with heap := s₂.heap, slotsUsed := s₂.slotsUsed } : State).setVm s₂.vm).frames = .java g₀ :: r := hr
  rcases hq' with ⟨hqc, L, hfe, hL⟩ | ⟨q, rfl, E, ce, L, hx, hce, hcv, hcl, hW₂, hsm, hL⟩
  · obtain ⟨⟨v, rfl⟩, hW₂, e2, q2, q3, q4, q5, q6⟩ := id hfe
    have e3 : s₂ = ({ (U.calling g mk a).setFrames s₂.frames with heap := s₂.heap, slotsUsed := s₂.slotsUsed } : State).setVm s₂.vm := by
      have : s₂ = ({ s₂ with vm := (U.calling g mk a).vm } : State).setVm s₂.vm := rfl
      rw [e2] at this
      exact this
    obtain ⟨c₂, i₂, len₂, hc₂, hd₂, hf₂⟩ := hend
    have hW' : U.WarmedH s₂.vm := hW₂
    have hcc : c₂ = c := by
      have h1 : s₂.code? g.method = U.code? g.method := by
        rw [State.code?_eq, State.code?_eq, hW'.alike.method?]
      exact Option.some.inj (hc₂.symm.trans (h1.trans h.code))
    subst hcc
    have hlen : len₂ = len := by rw [hdg] at hd₂; cases hd₂; rfl
    subst hlen
    have hs₂ : s₂ = (({ U with heap := s₂.heap, slotsUsed := s₂.slotsUsed } : State).setVm s₂.vm).setTop { g with pc := g.pc + len₂, stack := v.toList ++ g.stack } := by
      refine e3.trans ?_
      rw [hf₂, State.calling_eq h.top, State.setFrames_setFrames, State.setTop_of_frames _ hr', hr]
      rfl
    have hsame : U.sameButNew ({ U with heap := s₂.heap, slotsUsed := s₂.slotsUsed } : State) L mc ms := by
      refine ⟨?_, q2, q3, q4, q5, q6⟩
      obtain ⟨t, ht, -⟩ := State.frames_cons hr
      show ({ U with heap := s₂.heap, slotsUsed := s₂.slotsUsed } : State) = { U.setFrames U.frames with heap := s₂.heap, slotsUsed := s₂.slotsUsed }
      rw [State.setFrames_self ht]
    subst hg
    refine Or.inl ⟨v, ⟨(({ U with heap := s₂.heap, slotsUsed := s₂.slotsUsed } : State).setVm s₂.vm), Ls ++ L, c0 + mc, s0 + ms⟩,
      ⟨X.admits, X.cas, X.clock, X.frames, X.room, X.hears, X.method, X.code, (X.here.setHeapUsed s₂.heap s₂.slotsUsed).setVm hW'.alike, X.tail, State.WarmedH.trans X.warmed hW', X.limits, X.bytes, X.same.trans (hsame.setVm s.vm)⟩,
      ⟨g, mk, s₂, L, rfl, rfl, hqc, rfl, hL, rfl, rfl⟩, ?_⟩
    show Steps p.tables e below _ ((({ U with heap := s₂.heap, slotsUsed := s₂.slotsUsed } : State).setVm s₂.vm).setTop { g with pc := g.pc + len₂, stack := v.toList ++ g.stack })
    rw [← hs₂]
    exact hsteps
  · obtain ⟨e2, q2, q3, q4, q5, q6⟩ := id hsm
    have e3 : s₂ = ({ (U.calling g mk a).setFrames s₂.frames with heap := s₂.heap, slotsUsed := s₂.slotsUsed } : State).setVm s₂.vm := by
      have : s₂ = ({ s₂ with vm := (U.calling g mk a).vm } : State).setVm s₂.vm := rfl
      rw [e2] at this
      exact this
    have hf₂ : s₂.frames = .throwing q :: .java g :: U.frames.tail := hend
    have hW' : U.WarmedH s₂.vm := hW₂
    have hs₂ : s₂ = ((({ U with heap := s₂.heap, slotsUsed := s₂.slotsUsed } : State).setVm s₂.vm).setTop g).pushFrame (.throwing q) := by
      refine e3.trans ?_
      rw [hf₂, State.calling_eq h.top, State.setFrames_setFrames, State.pushFrame, State.frames_setTop _ hr', State.setTop_of_frames _ hr', State.setFrames_setFrames, hr]
      rfl
    have hsame : U.sameButNew ({ U with heap := s₂.heap, slotsUsed := s₂.slotsUsed } : State) L mc ms := by
      refine ⟨?_, q2, q3, q4, q5, q6⟩
      obtain ⟨t, ht, -⟩ := State.frames_cons hr
      show ({ U with heap := s₂.heap, slotsUsed := s₂.slotsUsed } : State) = { U.setFrames U.frames with heap := s₂.heap, slotsUsed := s₂.slotsUsed }
      rw [State.setFrames_self ht]
    subst hg
    refine Or.inr ⟨q, ⟨(({ U with heap := s₂.heap, slotsUsed := s₂.slotsUsed } : State).setVm s₂.vm), Ls ++ L, c0 + mc, s0 + ms⟩,
      ⟨X.admits, X.cas, X.clock, X.frames, X.room, X.hears, X.method, X.code, (X.here.setHeapUsed s₂.heap s₂.slotsUsed).setVm hW'.alike, X.tail, State.WarmedH.trans X.warmed hW', X.limits, X.bytes, X.same.trans (hsame.setVm s.vm)⟩,
      ⟨g, mk, s₂, L, E, ce, rfl, rfl, hx, hce, hcv, hcl, rfl, hL, rfl, rfl⟩, ?_⟩
    show Steps p.tables e below _ (((({ U with heap := s₂.heap, slotsUsed := s₂.slotsUsed } : State).setVm s₂.vm).setTop g).pushFrame (.throwing q))
    rw [← hs₂]
    exact hsteps
end Payer
section Calls
variable {p : Program} {l : Launch} {e : Env} {R : Room} {s : State} {m : MethodId} {args : Array Value} {below : List Frame} {meth : Method} {c : Code} {T : State} {locs : List Loc} {cells slots : Nat}
theorem vx_callV (X : Stand p l e R s m args below meth c T locs cells slots) (hexec : p.tables.exec = Jvm.exec) {own C : String} {index : Nat} {y : MethodName} {bytes : ByteArray} {maxL : Nat} {ret : Option FieldType}
    (hown : s.vm.findClass own = some m.cls) (hlink : (Cond.methodLink own index y).before args s = true) (hinst : (Cond.instanceMethod y).before args s = true) (hsel : (Cond.selects C y y).before args s = true)
    (hcode : (Cond.code y bytes maxL ret).before args s = true) (hy : y.cls ≠ "java/lang/invoke/MethodHandle" ∧ y.cls ≠ "java/lang/invoke/VarHandle")
    {W9 : Nat} {Pre : Pt → Array Value → Prop} {Post : Pt → Array Value → Option Value → Pt → Prop} {PostX : Pt → Array Value → Addr → Pt → Prop} (hK : vx_Back l R p e below s args y 3 W9 Pre Post PostX)
    {b : Addr} {cellB : Cell} (hcell : T.heap[b]? = some cellB) (hobj : cellB.vm.isStatics = false) (hcls : s.vm.findClass C = some cellB.cls)
    {g : JFrame} (hg : g.method = m) (hsize : g.locals.size = c.maxLocals) {argsL rest : List Value} (hlen : ∀ sig, parseMethodDescriptor y.desc = some sig → argsL.length = sig.parameters.length)
    (hstack : g.stack = argsL.reverse ++ .ref b :: rest) (hW : 2 * g.monitorRoom + (rest.map fun v => v.category).sum ≤ W9) (hdg : decode c.code g.pc = .ok (.invokevirtual index, 3))
    (hpre : ∀ vm₁, s.WarmedH vm₁ → Pre ⟨T.setVm vm₁, locs, cells, slots⟩ (Value.ref b :: argsL).toArray) :
    (∃ (v : Option Value) (vm₁ : Vm) (B : Pt), s.WarmedH vm₁ ∧ Stand p l e R s m args below meth c B.U B.locs B.cells B.slots ∧ Post ⟨T.setVm vm₁, locs, cells, slots⟩ (Value.ref b :: argsL).toArray v B ∧
      ∀ target, Steps p.tables e below (B.U.setTop { g with pc := g.pc + 3, stack := v.toList ++ rest }) target → Steps p.tables e below (T.setTop g) target) ∨
    (∃ (q : Addr) (vm₁ : Vm) (B : Pt), s.WarmedH vm₁ ∧ Stand p l e R s m args below meth c B.U B.locs B.cells B.slots ∧ PostX ⟨T.setVm vm₁, locs, cells, slots⟩ (Value.ref b :: argsL).toArray q B ∧
      Steps p.tables e below (T.setTop g) ((B.U.setTop { g with stack := rest }).pushFrame (.throwing q))) := by
  obtain ⟨mk, methM, hnamed, hmethM, hstM, habM⟩ := Cond.instanceMethod_spec hinst
  obtain ⟨methM', cM, hmethM', -, -, -, -, -, -, hsigM⟩ := Cond.code_spec hnamed hcode
  cases hmethM.symm.trans hmethM'
  obtain ⟨c2, r2, m2, q1, q2, q3, q4, kP, hkP, hkPi⟩ := Cond.selects_spec hsel
  cases hcls.symm.trans q1
  cases (State.methodFound?_of_named hnamed hy).symm.trans q2
  cases hnamed.symm.trans q3
  have hselP : selectMethod e.platform s.vm cellB.cls mk = .method mk := by rw [Launch.admits_selectMethod X.admits]; exact q4
  obtain ⟨vm₁, X₁, hstep₁⟩ := X.invokevirtual hexec hown hlink hnamed hmethM hstM hkP hkPi hy (a := b) (cell := cellB) hcell
    (fun z h => by rw [h] at hobj; cases hobj) hselP hmethM habM hkP hkPi (g := g) hg (argsL := argsL) (rest := rest) (hlen _ hsigM) hstack hdg
  rcases hK m meth c ⟨T.setVm vm₁, locs, cells, slots⟩ { g with stack := rest } (.invokevirtual index) mk (Value.ref b :: argsL).toArray X₁ hg hsize hdg hW (X₁.named hnamed) (hpre vm₁ X₁.warmed) with ⟨v, B, X', hpost, hsteps⟩ | ⟨q, B, X', hpost, hsteps⟩
  · exact Or.inl ⟨v, vm₁, B, X₁.warmed, X', hpost, fun target h => hstep₁ _ fun acts => by rw [doInvoke_state]; exact hsteps.trans h⟩
  · exact Or.inr ⟨q, vm₁, B, X₁.warmed, X', hpost, hstep₁ _ fun acts => by rw [doInvoke_state]; exact hsteps⟩
theorem vx_callS (X : Stand p l e R s m args below meth c T locs cells slots) (hexec : p.tables.exec = Jvm.exec) {own : String} {index : Nat} {y : MethodName} {bytes : ByteArray} {maxL : Nat} {ret : Option FieldType}
    (hown : s.vm.findClass own = some m.cls) (hlink : (Cond.methodLink own index y).before args s = true) (hstat : (Cond.static y).before args s = true) (hinit : (Cond.initialized y.cls).before args s = true)
    (hcode : (Cond.code y bytes maxL ret).before args s = true) (hy : y.cls ≠ "java/lang/invoke/MethodHandle" ∧ y.cls ≠ "java/lang/invoke/VarHandle")
    {W9 : Nat} {Pre : Pt → Array Value → Prop} {Post : Pt → Array Value → Option Value → Pt → Prop} {PostX : Pt → Array Value → Addr → Pt → Prop} (hK : vx_Back l R p e below s args y 3 W9 Pre Post PostX)
    {g : JFrame} (hg : g.method = m) (hsize : g.locals.size = c.maxLocals) {argsL rest : List Value} (hlen : ∀ sig, parseMethodDescriptor y.desc = some sig → argsL.length = sig.parameters.length)
    (hstack : g.stack = argsL.reverse ++ rest) (hW : 2 * g.monitorRoom + (rest.map fun v => v.category).sum ≤ W9) (hdg : decode c.code g.pc = .ok (.invokestatic index, 3))
    (hpre : ∀ vm₁, s.WarmedH vm₁ → Pre ⟨T.setVm vm₁, locs, cells, slots⟩ argsL.toArray) :
    (∃ (v : Option Value) (vm₁ : Vm) (B : Pt), s.WarmedH vm₁ ∧ Stand p l e R s m args below meth c B.U B.locs B.cells B.slots ∧ Post ⟨T.setVm vm₁, locs, cells, slots⟩ argsL.toArray v B ∧
      ∀ target, Steps p.tables e below (B.U.setTop { g with pc := g.pc + 3, stack := v.toList ++ rest }) target → Steps p.tables e below (T.setTop g) target) ∨
    (∃ (q : Addr) (vm₁ : Vm) (B : Pt), s.WarmedH vm₁ ∧ Stand p l e R s m args below meth c B.U B.locs B.cells B.slots ∧ PostX ⟨T.setVm vm₁, locs, cells, slots⟩ argsL.toArray q B ∧
      Steps p.tables e below (T.setTop g) ((B.U.setTop { g with stack := rest }).pushFrame (.throwing q))) := by
  obtain ⟨mk, hnamed⟩ := Cond.code_named hcode
  obtain ⟨methM, cM, hmethM, -, -, -, -, -, -, hsigM⟩ := Cond.code_spec hnamed hcode
  have hstatic : methM.isStatic = true := Cond.static_spec hnamed hmethM hstat
  obtain ⟨kP, hkP, -⟩ := className_of_methodNamed hnamed
  have hinitP : kP.init = .initialized := Cond.initialized_spec (findClass_of_methodNamed hnamed) hkP hinit
  obtain ⟨vm₁, X₁, hstep₁⟩ := X.invokestatic hexec hown hlink hnamed hmethM hstatic hkP hinitP hy (g := g) hg (argsL := argsL) (rest := rest) (hlen _ hsigM) hstack hdg
  rcases hK m meth c ⟨T.setVm vm₁, locs, cells, slots⟩ { g with stack := rest } (.invokestatic index) mk argsL.toArray X₁ hg hsize hdg hW (X₁.named hnamed) (hpre vm₁ X₁.warmed) with ⟨v, B, X', hpost, hsteps⟩ | ⟨q, B, X', hpost, hsteps⟩
  · exact Or.inl ⟨v, vm₁, B, X₁.warmed, X', hpost, fun target h => hstep₁ _ fun acts => by rw [doInvoke_state]; exact hsteps.trans h⟩
  · exact Or.inr ⟨q, vm₁, B, X₁.warmed, X', hpost, hstep₁ _ fun acts => by rw [doInvoke_state]; exact hsteps⟩
end Calls
theorem vx_cls {s : State} {T : State} {vm₁ : Vm} {E : String} {k : ClassId} (hW : s.WarmedH vm₁) (h : (T.setVm vm₁).vm.findClass E = some k) : s.vm.findClass E = some k := by
  have h1 : vm₁.findClass E = some k := h
  rw [hW.alike.findClass] at h1
  exact h1
def vx_W (p : Program) (l : Launch) (e : Env) (R : Room) (s : State) (m : MethodId) (args : Array Value) (below : List Frame) (meth : Method) (c : Code) (H : Heap) (locs : List Loc) (cells slots : Nat) (Q : State → Prop) (g : JFrame) (q : Addr) : Prop :=
  ∀ T : State, T.heap = H → Stand p l e R s m args below meth c T locs cells slots → ∃ t, Steps p.tables e below ((T.setTop g).pushFrame (.throwing q)) t ∧ Q t
def vx_Run (p : Program) (l : Launch) (e : Env) (R : Room) (s : State) (m : MethodId) (args : Array Value) (below : List Frame) (meth : Method) (c : Code) (H : Heap) (locs : List Loc) (cells slots mc ms : Nat) (g : JFrame) (rest : List Value) (Qa : State → Outcome → State → Prop) (XC : String → State → State → Prop) (free : Addr → Prop) : Prop :=
  ∀ T : State, T.heap = H → Stand p l e R s m args below meth c T locs cells slots →
    (∃ (v : Option Value) (st₀ t T' : State) (L : List Loc), st₀.heap = H ∧ Stand p l e R s m args below meth c T' (locs ++ L) (cells + mc) (slots + ms) ∧ (∀ q ∈ L, free q.base) ∧ T'.heap = t.heap ∧ T'.vm = t.vm ∧ Qa st₀ (.returned v) t ∧
      Goes p e below T g T' { g with pc := g.pc + 3, stack := v.toList ++ rest }) ∨
    (∃ (q : Addr) (st₀ t T' : State) (L : List Loc) (E : String) (ce : Cell), st₀.heap = H ∧ Stand p l e R s m args below meth c T' (locs ++ L) (cells + mc) (slots + ms) ∧ (∀ z ∈ L, free z.base) ∧ T'.heap = t.heap ∧ T'.vm = t.vm ∧ XC E st₀ t ∧ t.heap[q]? = some ce ∧ ce.vm = .none ∧ s.vm.findClass E = some ce.cls ∧
      Steps p.tables e below (T.setTop g) ((T'.setTop { g with stack := rest }).pushFrame (.throwing q)))
def vx_X {S : Type} (px : S → Prop) (B : String → S → State → Prop) (A : Nat → Prop) : String → State → State → Prop := fun E st t => ∃ u : S, px u ∧ B E u t ∧ va_F A st t
section Runs
variable {p : Program} {l : Launch} {e : Env} {R : Room} {s : State} {m : MethodId} {args : Array Value} {below : List Frame} {meth : Method} {c : Code} {H : Heap} {locs : List Loc} {cells slots : Nat}
variable {y : MethodName} {bytes cc : ByteArray} {maxL nL mc ms n index : Nat} {ret : Option FieldType} {ws : List Cond} {rm : Room} {Pc : Array Value → State → Prop} {Qc : Array Value → State → Outcome → State → Prop} {XC : String → State → State → Prop} {free : Addr → Prop} {Ts : List Cond} {own C : String} {b : Addr} {As rest : List Value} {g : JFrame}
theorem vx_callBack (cb : CallB R s args own index y bytes maxL ret ws rm mc ms n) (hM : vx_Met l y ws rm Pc Qc XC mc ms free) (hbl : FrameBlind Pc) : vx_Back l R p e below s args y 3 8 (PreOf R mc ms Pc) (PostOf Qc mc ms free) (vx_Post XC mc ms free) := by
  obtain ⟨hrc, hrs, hfr, hlo, hws, hcw, -, hini, -⟩ := cb
  exact vx_back (bytes := bytes) (maxL := maxL) (ret := ret) hM hbl hrc hrs hfr hlo hws hcw (fun a' U hW => word_at hW (Or.inl (by first | rfl | simp [Cond.onTables, Cond.keeps, Cond.steady])) hini)
theorem vx_runV (S : CallFix p m c cc nL s args Ts own) (hM : vx_Met l y ws rm Pc Qc XC mc ms free) (cw : CallW R s args own C index y bytes maxL ret ws rm mc ms n) (hp : PreV s H C b Pc As)
    (hg : g.method = m) (hn : As.length = n) (hsize : g.locals.size = nL) (hstack : g.stack = As.reverse ++ .ref b :: rest) (hW : 2 * g.monitorRoom + (rest.map fun v => v.category).sum ≤ 8) (hdg : decode cc g.pc = .ok (.invokevirtual index, 3)) (hf : cells + mc ≤ R.cells ∧ slots + ms ≤ R.slots) :
    vx_Run p l e R s m args below meth c H locs cells slots mc ms g rest (Qc (Value.ref b :: As).toArray) XC free := by
  have hK : vx_Back l R p e below s args y 3 8 (PreOf R mc ms Pc) (PostOf Qc mc ms free) (vx_Post XC mc ms free) := vx_callBack cw.1 hM hp.1
  obtain ⟨⟨-, -, -, -, -, -, hcode, -, hy, hlen, hl⟩, hin, hse⟩ := cw
  obtain ⟨hx, hb, hml, ho, -⟩ := S
  obtain ⟨-, ⟨cellB, hcB, hoB, hclB⟩, hPc⟩ := hp
  intro T hT X
  rcases vx_callV X hx (C := C) (bytes := bytes) (maxL := maxL) (ret := ret) ho hl hin hse hcode hy hK (by rw [hT]; exact hcB) hoB hclB hg (hsize.trans hml.symm) (argsL := As) (rest := rest) (fun sig h => hn.trans (hlen sig h)) hstack hW (by rw [hb]; exact hdg)
    (fun vm₁ hW₁ => ⟨hf.1, hf.2, hPc (T.setVm vm₁) hT hW₁⟩) with ⟨v, vm₁, ⟨U', l2, c2, s2⟩, hW₁, X', ⟨g', mk, t, L, e1, e2, hq, h1, hL, h2, h3⟩, st⟩ | ⟨q, vm₁, ⟨U', l2, c2, s2⟩, hW₁, X', ⟨g', mk, t, L, E, ce, e1, e2, hq, hce, hcv, hcl, h1, hL, h2, h3⟩, st⟩
  · dsimp only [Pt.U, Pt.locs, Pt.cells, Pt.slots] at X' e1 e2 h1 h2 h3 st
    subst h1; subst h2; subst h3
    exact Or.inl ⟨v, (T.setVm vm₁).calling g' mk (Value.ref b :: As).toArray, t, U', L, hT, X', hL, e1, e2, hq, st⟩
  · dsimp only [Pt.U, Pt.locs, Pt.cells, Pt.slots] at X' e1 e2 h1 h2 h3 st hcl
    subst h1; subst h2; subst h3
    exact Or.inr ⟨q, (T.setVm vm₁).calling g' mk (Value.ref b :: As).toArray, t, U', L, E, ce, hT, X', hL, e1, e2, hq, hce, hcv, vx_cls hW₁ hcl, st⟩
theorem vx_runS (S : CallFix p m c cc nL s args Ts own) (hM : vx_Met l y ws rm Pc Qc XC mc ms free) (cw : CallB R s args own index y bytes maxL ret ws rm mc ms n ∧ (Cond.static y).before args s = true) (hp : PreS s H Pc As)
    (hg : g.method = m) (hn : As.length = n) (hsize : g.locals.size = nL) (hstack : g.stack = As.reverse ++ rest) (hW : 2 * g.monitorRoom + (rest.map fun v => v.category).sum ≤ 8) (hdg : decode cc g.pc = .ok (.invokestatic index, 3)) (hf : cells + mc ≤ R.cells ∧ slots + ms ≤ R.slots) :
    vx_Run p l e R s m args below meth c H locs cells slots mc ms g rest (Qc As.toArray) XC free := by
  have hK : vx_Back l R p e below s args y 3 8 (PreOf R mc ms Pc) (PostOf Qc mc ms free) (vx_Post XC mc ms free) := vx_callBack cw.1 hM hp.1
  obtain ⟨⟨-, -, -, -, -, -, hcode, hini, hy, hlen, hl⟩, hstt⟩ := cw
  obtain ⟨hx, hb, hml, ho, -⟩ := S
  intro T hT X
  rcases vx_callS X hx (bytes := bytes) (maxL := maxL) (ret := ret) ho hl hstt hini hcode hy hK hg (hsize.trans hml.symm) (argsL := As) (rest := rest) (fun sig h => hn.trans (hlen sig h)) hstack hW (by rw [hb]; exact hdg)
    (fun vm₁ hW₁ => ⟨hf.1, hf.2, hp.2 (T.setVm vm₁) hT hW₁⟩) with ⟨v, vm₁, ⟨U', l2, c2, s2⟩, hW₁, X', ⟨g', mk, t, L, e1, e2, hq, h1, hL, h2, h3⟩, st⟩ | ⟨q, vm₁, ⟨U', l2, c2, s2⟩, hW₁, X', ⟨g', mk, t, L, E, ce, e1, e2, hq, hce, hcv, hcl, h1, hL, h2, h3⟩, st⟩
  · dsimp only [Pt.U, Pt.locs, Pt.cells, Pt.slots] at X' e1 e2 h1 h2 h3 st
    subst h1; subst h2; subst h3
    exact Or.inl ⟨v, (T.setVm vm₁).calling g' mk As.toArray, t, U', L, hT, X', hL, e1, e2, hq, st⟩
  · dsimp only [Pt.U, Pt.locs, Pt.cells, Pt.slots] at X' e1 e2 h1 h2 h3 st hcl
    subst h1; subst h2; subst h3
    exact Or.inr ⟨q, (T.setVm vm₁).calling g' mk As.toArray, t, U', L, E, ce, hT, X', hL, e1, e2, hq, hce, hcv, vx_cls hW₁ hcl, st⟩
end Runs
section Rows
variable {p : Program} {l : Launch} {e : Env} {R : Room} {s : State} {m : MethodId} {args : Array Value} {below : List Frame} {meth : Method} {c : Code} {H : Heap} {locs : List Loc} {cells slots : Nat} {Q : State → Prop}
variable {mc ms : Nat} {free : Addr → Prop} {A0 A1 : Nat → Prop} {H0 : Heap} {a : Array Value} {pc : Nat} {ls : Array Slot} {st0 rest : List Value}
theorem vx_keep {st₀ t T' : State} {L : List Loc} (h0 : st₀.heap = H) (e1 : T'.heap = t.heap) (hS : va_S A0 H0 H locs) (hA : ∀ q, q < H.size → A1 q → A0 q) (hf : ∀ q, free q → A0 q) (hL : ∀ q ∈ L, free q.base) (hF : va_F A1 st₀ t) :
    H.size ≤ T'.heap.size ∧ (∀ q : Nat, q < H.size → ¬ A1 q → T'.heap[q]? = H[q]?) ∧ va_S A0 H0 T'.heap (locs ++ L) := by
  obtain ⟨hz, hk⟩ := hF
  rw [h0] at hz hk
  exact ⟨by rw [e1]; exact hz, fun q h1 h2 => by rw [e1]; exact hk q h1 h2,
    ⟨Nat.le_trans hS.1 (by rw [e1]; exact hz), fun q h1 h2 => by rw [e1, hk q (Nat.lt_of_lt_of_le h1 hS.1) (fun z => h2 (hA q (Nat.lt_of_lt_of_le h1 hS.1) z))]; exact hS.2.1 q h1 h2, fun q hq => by
      rcases List.mem_append.mp hq with h | h
      · exact hS.2.2 q h
      · exact hf _ (hL q h)⟩⟩
theorem vx_calli {S SX : Type} {post : Int32 → S → Prop} {px : SX → Prop} {B : S → State → Prop} {BX : String → SX → State → Prop} {AX : Nat → Prop} (hr : vx_Run p l e R s m args below meth c H locs cells slots mc ms (F0 m pc ls st0) rest (va_Qi post B A1 a) (vx_X px BX AX) free) (hS : va_S A0 H0 H locs) (hA : ∀ q, q < H.size → A1 q → A0 q) (hf : ∀ q, free q → A0 q) (hAX : ∀ q, q < H.size → AX q → A0 q)
    (kx : ∀ (E : String) (ce : Cell) (q9 : Addr) (u : SX) (t : State) (H1 : Heap) (locs1 : List Loc), t.heap = H1 → s.vm.Alike t.vm → px u → BX E u t → H.size ≤ H1.size → (∀ q : Nat, q < H.size → ¬ AX q → H1[q]? = H[q]?) → va_S A0 H0 H1 locs1 → H1[q9]? = some ce → ce.vm = .none → s.vm.findClass E = some ce.cls → vx_W p l e R s m args below meth c H1 locs1 (cells + mc) (slots + ms) Q (F0 m pc ls rest) q9)
    (kk : ∀ (r : Int32) (u : S) (t : State) (H1 : Heap) (locs1 : List Loc), t.heap = H1 → s.vm.Alike t.vm → post r u → B u t → H.size ≤ H1.size → (∀ q : Nat, q < H.size → ¬ A1 q → H1[q]? = H[q]?) → va_S A0 H0 H1 locs1 → W p l e R s m args below meth c H1 locs1 (cells + mc) (slots + ms) Q (F0 m (pc + 3) ls (.int r :: rest))) : W p l e R s m args below meth c H locs cells slots Q (F0 m pc ls st0) := by
  intro T hT X
  rcases hr T hT X with ⟨v, st₀, t, T', L, h0, X', hL, e1, e2, ⟨⟨r, u, hv, hp, hb⟩, hF⟩, st⟩ | ⟨q, st₀, t, T', L, E, ce, h0, X', hL, e1, e2, ⟨u, hp, hb, hF⟩, hce, hcv, hcl, st⟩
  · cases hv
    obtain ⟨k1, k2, k3⟩ := vx_keep h0 e1 hS hA hf hL hF
    obtain ⟨t2, a1, b1⟩ := kk r u t T'.heap (locs ++ L) e1.symm (by rw [← e2]; exact X'.warmed.alike) hp hb k1 k2 k3 T' rfl X'
    exact ⟨t2, st t2 a1, b1⟩
  · obtain ⟨k1, k2, k3⟩ := vx_keep h0 e1 hS hAX hf hL hF
    obtain ⟨t2, a1, b1⟩ := kx E ce q u t T'.heap (locs ++ L) e1.symm (by rw [← e2]; exact X'.warmed.alike) hp hb k1 k2 k3 (by rw [e1]; exact hce) hcv hcl T' rfl X'
    exact ⟨t2, st.trans a1, b1⟩
theorem vx_calll {S SX : Type} {post : Int64 → S → Prop} {px : SX → Prop} {B : S → State → Prop} {BX : String → SX → State → Prop} {AX : Nat → Prop} (hr : vx_Run p l e R s m args below meth c H locs cells slots mc ms (F0 m pc ls st0) rest (va_Ql post B A1 a) (vx_X px BX AX) free) (hS : va_S A0 H0 H locs) (hA : ∀ q, q < H.size → A1 q → A0 q) (hf : ∀ q, free q → A0 q) (hAX : ∀ q, q < H.size → AX q → A0 q)
    (kx : ∀ (E : String) (ce : Cell) (q9 : Addr) (u : SX) (t : State) (H1 : Heap) (locs1 : List Loc), t.heap = H1 → s.vm.Alike t.vm → px u → BX E u t → H.size ≤ H1.size → (∀ q : Nat, q < H.size → ¬ AX q → H1[q]? = H[q]?) → va_S A0 H0 H1 locs1 → H1[q9]? = some ce → ce.vm = .none → s.vm.findClass E = some ce.cls → vx_W p l e R s m args below meth c H1 locs1 (cells + mc) (slots + ms) Q (F0 m pc ls rest) q9)
    (kk : ∀ (r : Int64) (u : S) (t : State) (H1 : Heap) (locs1 : List Loc), t.heap = H1 → s.vm.Alike t.vm → post r u → B u t → H.size ≤ H1.size → (∀ q : Nat, q < H.size → ¬ A1 q → H1[q]? = H[q]?) → va_S A0 H0 H1 locs1 → W p l e R s m args below meth c H1 locs1 (cells + mc) (slots + ms) Q (F0 m (pc + 3) ls (.long r :: rest))) : W p l e R s m args below meth c H locs cells slots Q (F0 m pc ls st0) := by
  intro T hT X
  rcases hr T hT X with ⟨v, st₀, t, T', L, h0, X', hL, e1, e2, ⟨⟨r, u, hv, hp, hb⟩, hF⟩, st⟩ | ⟨q, st₀, t, T', L, E, ce, h0, X', hL, e1, e2, ⟨u, hp, hb, hF⟩, hce, hcv, hcl, st⟩
  · cases hv
    obtain ⟨k1, k2, k3⟩ := vx_keep h0 e1 hS hA hf hL hF
    obtain ⟨t2, a1, b1⟩ := kk r u t T'.heap (locs ++ L) e1.symm (by rw [← e2]; exact X'.warmed.alike) hp hb k1 k2 k3 T' rfl X'
    exact ⟨t2, st t2 a1, b1⟩
  · obtain ⟨k1, k2, k3⟩ := vx_keep h0 e1 hS hAX hf hL hF
    obtain ⟨t2, a1, b1⟩ := kx E ce q u t T'.heap (locs ++ L) e1.symm (by rw [← e2]; exact X'.warmed.alike) hp hb k1 k2 k3 (by rw [e1]; exact hce) hcv hcl T' rfl X'
    exact ⟨t2, st.trans a1, b1⟩
theorem vx_callf {S SX : Type} {post : UInt32 → S → Prop} {px : SX → Prop} {B : S → State → Prop} {BX : String → SX → State → Prop} {AX : Nat → Prop} (hr : vx_Run p l e R s m args below meth c H locs cells slots mc ms (F0 m pc ls st0) rest (va_Qf post B A1 a) (vx_X px BX AX) free) (hS : va_S A0 H0 H locs) (hA : ∀ q, q < H.size → A1 q → A0 q) (hf : ∀ q, free q → A0 q) (hAX : ∀ q, q < H.size → AX q → A0 q)
    (kx : ∀ (E : String) (ce : Cell) (q9 : Addr) (u : SX) (t : State) (H1 : Heap) (locs1 : List Loc), t.heap = H1 → s.vm.Alike t.vm → px u → BX E u t → H.size ≤ H1.size → (∀ q : Nat, q < H.size → ¬ AX q → H1[q]? = H[q]?) → va_S A0 H0 H1 locs1 → H1[q9]? = some ce → ce.vm = .none → s.vm.findClass E = some ce.cls → vx_W p l e R s m args below meth c H1 locs1 (cells + mc) (slots + ms) Q (F0 m pc ls rest) q9)
    (kk : ∀ (r : UInt32) (u : S) (t : State) (H1 : Heap) (locs1 : List Loc), t.heap = H1 → s.vm.Alike t.vm → post r u → B u t → H.size ≤ H1.size → (∀ q : Nat, q < H.size → ¬ A1 q → H1[q]? = H[q]?) → va_S A0 H0 H1 locs1 → W p l e R s m args below meth c H1 locs1 (cells + mc) (slots + ms) Q (F0 m (pc + 3) ls (.float r :: rest))) : W p l e R s m args below meth c H locs cells slots Q (F0 m pc ls st0) := by
  intro T hT X
  rcases hr T hT X with ⟨v, st₀, t, T', L, h0, X', hL, e1, e2, ⟨⟨r, u, hv, hp, hb⟩, hF⟩, st⟩ | ⟨q, st₀, t, T', L, E, ce, h0, X', hL, e1, e2, ⟨u, hp, hb, hF⟩, hce, hcv, hcl, st⟩
  · cases hv
    obtain ⟨k1, k2, k3⟩ := vx_keep h0 e1 hS hA hf hL hF
    obtain ⟨t2, a1, b1⟩ := kk r u t T'.heap (locs ++ L) e1.symm (by rw [← e2]; exact X'.warmed.alike) hp hb k1 k2 k3 T' rfl X'
    exact ⟨t2, st t2 a1, b1⟩
  · obtain ⟨k1, k2, k3⟩ := vx_keep h0 e1 hS hAX hf hL hF
    obtain ⟨t2, a1, b1⟩ := kx E ce q u t T'.heap (locs ++ L) e1.symm (by rw [← e2]; exact X'.warmed.alike) hp hb k1 k2 k3 (by rw [e1]; exact hce) hcv hcl T' rfl X'
    exact ⟨t2, st.trans a1, b1⟩
theorem vx_calld {S SX : Type} {post : UInt64 → S → Prop} {px : SX → Prop} {B : S → State → Prop} {BX : String → SX → State → Prop} {AX : Nat → Prop} (hr : vx_Run p l e R s m args below meth c H locs cells slots mc ms (F0 m pc ls st0) rest (va_Qd post B A1 a) (vx_X px BX AX) free) (hS : va_S A0 H0 H locs) (hA : ∀ q, q < H.size → A1 q → A0 q) (hf : ∀ q, free q → A0 q) (hAX : ∀ q, q < H.size → AX q → A0 q)
    (kx : ∀ (E : String) (ce : Cell) (q9 : Addr) (u : SX) (t : State) (H1 : Heap) (locs1 : List Loc), t.heap = H1 → s.vm.Alike t.vm → px u → BX E u t → H.size ≤ H1.size → (∀ q : Nat, q < H.size → ¬ AX q → H1[q]? = H[q]?) → va_S A0 H0 H1 locs1 → H1[q9]? = some ce → ce.vm = .none → s.vm.findClass E = some ce.cls → vx_W p l e R s m args below meth c H1 locs1 (cells + mc) (slots + ms) Q (F0 m pc ls rest) q9)
    (kk : ∀ (r : UInt64) (u : S) (t : State) (H1 : Heap) (locs1 : List Loc), t.heap = H1 → s.vm.Alike t.vm → post r u → B u t → H.size ≤ H1.size → (∀ q : Nat, q < H.size → ¬ A1 q → H1[q]? = H[q]?) → va_S A0 H0 H1 locs1 → W p l e R s m args below meth c H1 locs1 (cells + mc) (slots + ms) Q (F0 m (pc + 3) ls (.double r :: rest))) : W p l e R s m args below meth c H locs cells slots Q (F0 m pc ls st0) := by
  intro T hT X
  rcases hr T hT X with ⟨v, st₀, t, T', L, h0, X', hL, e1, e2, ⟨⟨r, u, hv, hp, hb⟩, hF⟩, st⟩ | ⟨q, st₀, t, T', L, E, ce, h0, X', hL, e1, e2, ⟨u, hp, hb, hF⟩, hce, hcv, hcl, st⟩
  · cases hv
    obtain ⟨k1, k2, k3⟩ := vx_keep h0 e1 hS hA hf hL hF
    obtain ⟨t2, a1, b1⟩ := kk r u t T'.heap (locs ++ L) e1.symm (by rw [← e2]; exact X'.warmed.alike) hp hb k1 k2 k3 T' rfl X'
    exact ⟨t2, st t2 a1, b1⟩
  · obtain ⟨k1, k2, k3⟩ := vx_keep h0 e1 hS hAX hf hL hF
    obtain ⟨t2, a1, b1⟩ := kx E ce q u t T'.heap (locs ++ L) e1.symm (by rw [← e2]; exact X'.warmed.alike) hp hb k1 k2 k3 (by rw [e1]; exact hce) hcv hcl T' rfl X'
    exact ⟨t2, st.trans a1, b1⟩
theorem vx_callv {S SX : Type} {post : S → Prop} {px : SX → Prop} {B : S → State → Prop} {BX : String → SX → State → Prop} {AX : Nat → Prop} (hr : vx_Run p l e R s m args below meth c H locs cells slots mc ms (F0 m pc ls st0) rest (va_Qv post B A1 a) (vx_X px BX AX) free) (hS : va_S A0 H0 H locs) (hA : ∀ q, q < H.size → A1 q → A0 q) (hf : ∀ q, free q → A0 q) (hAX : ∀ q, q < H.size → AX q → A0 q)
    (kx : ∀ (E : String) (ce : Cell) (q9 : Addr) (u : SX) (t : State) (H1 : Heap) (locs1 : List Loc), t.heap = H1 → s.vm.Alike t.vm → px u → BX E u t → H.size ≤ H1.size → (∀ q : Nat, q < H.size → ¬ AX q → H1[q]? = H[q]?) → va_S A0 H0 H1 locs1 → H1[q9]? = some ce → ce.vm = .none → s.vm.findClass E = some ce.cls → vx_W p l e R s m args below meth c H1 locs1 (cells + mc) (slots + ms) Q (F0 m pc ls rest) q9)
    (kk : ∀ (u : S) (t : State) (H1 : Heap) (locs1 : List Loc), t.heap = H1 → s.vm.Alike t.vm → post u → B u t → H.size ≤ H1.size → (∀ q : Nat, q < H.size → ¬ A1 q → H1[q]? = H[q]?) → va_S A0 H0 H1 locs1 → W p l e R s m args below meth c H1 locs1 (cells + mc) (slots + ms) Q (F0 m (pc + 3) ls (rest))) : W p l e R s m args below meth c H locs cells slots Q (F0 m pc ls st0) := by
  intro T hT X
  rcases hr T hT X with ⟨v, st₀, t, T', L, h0, X', hL, e1, e2, ⟨⟨u, hv, hp, hb⟩, hF⟩, st⟩ | ⟨q, st₀, t, T', L, E, ce, h0, X', hL, e1, e2, ⟨u, hp, hb, hF⟩, hce, hcv, hcl, st⟩
  · cases hv
    obtain ⟨k1, k2, k3⟩ := vx_keep h0 e1 hS hA hf hL hF
    obtain ⟨t2, a1, b1⟩ := kk u t T'.heap (locs ++ L) e1.symm (by rw [← e2]; exact X'.warmed.alike) hp hb k1 k2 k3 T' rfl X'
    exact ⟨t2, st t2 a1, b1⟩
  · obtain ⟨k1, k2, k3⟩ := vx_keep h0 e1 hS hAX hf hL hF
    obtain ⟨t2, a1, b1⟩ := kx E ce q u t T'.heap (locs ++ L) e1.symm (by rw [← e2]; exact X'.warmed.alike) hp hb k1 k2 k3 (by rw [e1]; exact hce) hcv hcl T' rfl X'
    exact ⟨t2, st.trans a1, b1⟩
theorem vx_catch {own name : String} {E : String} {ce : Cell} {q : Addr} (hown : s.vm.findClass own = some m.cls) (pre : List ExceptionTableEntry) (x : ExceptionTableEntry) (suf : List ExceptionTableEntry) (hsplit : c.exceptionTable.toList = pre ++ x :: suf)
    (hpass : ∀ z ∈ pre, covers z pc = false ∨ (z.catchType ≠ 0 ∧ ∃ nm : String, (Cond.classLink own z.catchType nm).before args s = true ∧ va_Nc E nm s)) (hx : covers x pc = true) (h0 : x.catchType ≠ 0)
    (hlink : (Cond.classLink own x.catchType name).before args s = true) (hcast : (Cond.castable E name).before args s = true) (hcell : H[q]? = some ce) (hv : ce.vm = .none) (hcl : s.vm.findClass E = some ce.cls)
    (kk : W p l e R s m args below meth c H locs cells slots Q (F0 m x.handlerPc ls [.ref q])) : vx_W p l e R s m args below meth c H locs cells slots Q (F0 m pc ls rest) q := by
  intro T hT X
  have hpl : e.platform.magicAccessors = ({} : Platform).magicAccessors := by rw [X.admits.platform]
  obtain ⟨c3, c4, hc3, hc4, hasg⟩ := Cond.castable_spec hcast
  cases Option.some.inj (hc3.symm.trans hcl)
  obtain ⟨c5, hc5, hcl5⟩ := Cond.classLink_spec hown hlink e.platform hpl
  cases Option.some.inj (hc4.symm.trans hc5)
  obtain ⟨vm', X', st⟩ := X.thenCaughtThrough q (g := F0 m pc ls rest) rfl (Steps.refl _) (by rw [hT]; exact hcell) (by rw [hv]; rfl) (by obtain ⟨k9, h9, -⟩ := Vm.findClass_spec hcl; exact ⟨k9, h9⟩) pre x suf hsplit
    (fun z hz => by
      rcases hpass z hz with h | ⟨hz0, nm, hl1, hn1⟩
      · exact Or.inl h
      · obtain ⟨c6, hc6, hcl6⟩ := Cond.classLink_spec hown hl1 e.platform hpl
        obtain ⟨a8, b8, h1, h2, h3⟩ := hn1
        cases Option.some.inj (h1.symm.trans hcl)
        cases Option.some.inj (h2.symm.trans hc6)
        exact Or.inr ⟨hz0, _, hcl6, h3⟩) hx (Or.inr ⟨h0, c4, hcl5, hasg⟩)
  obtain ⟨t, a1, b1⟩ := kk (T.setVm vm') hT X'
  exact ⟨t, st.trans a1, b1⟩
end Rows
section Ends
variable {p : Program} {l : Launch} {e : Env} {R : Room} {s : State} {m : MethodId} {args : Array Value} {below : List Frame} {meth : Method} {c : Code} {H : Heap} {locs : List Loc} {cells slots : Nat} {Q : State → Prop}
variable {mc ms : Nat} {free : Addr → Prop} {A0 A1 : Nat → Prop} {H0 : Heap} {a : Array Value} {ls : Array Slot} {st0 rest : List Value}
variable {Qc : Array Value → State → Outcome → State → Prop} {XC : String → State → State → Prop}
def vx_MQ (below : List Frame) (Qc : Array Value → State → Outcome → State → Prop) (XC : String → State → State → Prop) (a : Array Value) (s : State) (mc ms : Nat) (free : Addr → Prop) : State → Prop := fun t =>
  ∃ o, t.status = .running ∧ Ended t below o ∧ vx_Q Qc XC mc ms free a s o t
theorem vx_ret {g : JFrame} {mc ms : Nat} (k : W p l e R s m args below meth c H locs cells slots (MQ below Qc args s mc ms free) g) : W p l e R s m args below meth c H locs cells slots (vx_MQ below Qc XC args s mc ms free) g := by
  intro T hT X
  obtain ⟨t, a1, o, b1, b2, b3, b4⟩ := k T hT X
  exact ⟨t, a1, o, b1, b2, Or.inl ⟨b3, b4⟩⟩
theorem vx_widen {g : JFrame} {q : Addr} {k n : Nat} (h1 : cells ≤ k) (h2 : slots ≤ n) (kk : vx_W p l e R s m args below meth c H locs k n Q g q) : vx_W p l e R s m args below meth c H locs cells slots Q g q := fun T hT X => kk T hT (stand_widen X h1 h2)
theorem vx_out {pc : Nat} {E : String} {ce : Cell} {q : Addr} {mc ms : Nat} (hout : ∀ x ∈ c.exceptionTable.toList, covers x pc = false) (hlocks : meth.locks = false) (hcell : H[q]? = some ce) (hv : ce.vm = .none) (hcl : s.vm.findClass E = some ce.cls)
    (hx : ∀ t : State, t.heap = H → s.vm.Alike t.vm → XC E s t) (hf : ∀ z ∈ locs, free z.base) (hc : cells ≤ mc) (hs : slots ≤ ms) :
    vx_W p l e R s m args below meth c H locs cells slots (vx_MQ below Qc XC args s mc ms free) (F0 m pc ls rest) q := by
  intro T hT X
  obtain ⟨st1, hrun, hend, hW, hsm⟩ := X.leaveThrown q (g := F0 m pc ls rest) rfl rfl rfl hout hlocks
  have hcell9 : (T.setFrames (.throwing q :: below)).heap[q]? = some ce := by
    show T.heap[q]? = some ce
    rw [hT]; exact hcell
  exact ⟨_, st1, .threw q, hrun, hend, Or.inr ⟨q, rfl, E, ce, locs, hx _ hT hW.alike, hcell9, hv, hcl, hW, hsm.mono hc hs, hf⟩⟩
theorem vx_frame {U : State} {k n : Nat} (h : s.sameButNew ({ U with vm := s.vm } : State) locs k n) : s.heap.size ≤ U.heap.size ∧ ∀ q : Nat, q < s.heap.size → (∀ z ∈ locs, z.base ≠ q) → U.heap[q]? = s.heap[q]? := by
  obtain ⟨-, h2, -, -, -, h6⟩ := h
  refine ⟨h2, fun q hq hz => ?_⟩
  obtain ⟨c9, e1, e2, e3, e4⟩ := h6 q _ (Array.getElem?_eq_getElem hq)
  have hs : c9.slots = (s.heap[q]).slots := Array.ext_getElem? fun i => e4 i fun hm => hz _ hm rfl
  have h9 : c9 = s.heap[q] := by
    rw [hs] at e2
    exact e2
  have e5 : U.heap[q]? = some c9 := e1
  rw [e5, h9, Array.getElem?_eq_getElem hq]
def vx_no (w : Cond) : Bool := decide (w ≠ .isRef (.static Bundle.tN "UNASSIGNED_STACK" Bundle.steD)) && decide (w ≠ .isRef (.static Bundle.tN "SUPPRESSED_SENTINEL" Bundle.listD)) && decide (w ≠ .laysStatic Bundle.tN "UNASSIGNED_STACK" Bundle.steD) && decide (w ≠ .laysStatic Bundle.tN "SUPPRESSED_SENTINEL" Bundle.listD)
def vx_at0 (own : String) (ic : Nat) (X : String) (names : List String) : List Cond := (Bundle.ownAtoms0 own ic X names).filter vx_no
def vx_atS (own : String) (ic : Nat) (X : String) (names : List String) : List Cond := (Bundle.ownAtoms own ic X names).filter vx_no
def vx_ot (w : Cond) : Bool := w.onTables || goodWord w
theorem vx_ot_at {args a' : Array Value} {s U : State} {w : Cond} (hW : s.WarmedH U.vm) (hvm : s.vm = U.vm) (hg : vx_ot w = true) (h : w.before args s = true) : w.before a' U = true := by
  simp only [vx_ot, Bool.or_eq_true] at hg
  rcases hg with hg | hg
  · exact va_tabs hg hvm h
  · exact word_at hW (good_of_word hg) h
theorem vx_hat {args : Array Value} {s : State} {L B : List Cond} (h1 : ∀ w ∈ L.filter goodWord, w.before args s = true) (h2 : ∀ w ∈ L.filter (fun w => !goodWord w), w ∈ B) (h3 : ∀ w ∈ B, w.before args s = true) : ∀ w ∈ L, w.before args s = true := by
  intro w hw
  by_cases g : goodWord w = true
  · exact h1 w (List.mem_filter.mpr ⟨hw, g⟩)
  · refine h3 w (h2 w (List.mem_filter.mpr ⟨hw, ?_⟩))
    show (!goodWord w) = true
    cases hgw : goodWord w
    · rfl
    · exact absurd hgw g
theorem vx_c {args : Array Value} {s : State} {w : Cond} {B : List Cond} (h : w.before args s = true) (t : ∀ w ∈ B, w.before args s = true) : ∀ w' ∈ w :: B, w'.before args s = true := fun w' h' => (List.mem_cons.mp h').elim (fun e => by rw [e]; exact h) (t w')
theorem vx_n {args : Array Value} {s : State} : ∀ w ∈ ([] : List Cond), w.before args s = true := fun _ h => nomatch h
theorem vx_own {args : Array Value} {s : State} {L : List Cond} (h1 : ∀ w ∈ L.filter vx_no, w.before args s = true)
    (hU : (Cond.isRef (.static Bundle.tN "UNASSIGNED_STACK" Bundle.steD)).before args s = true) (hN : (Cond.isRef (.static Bundle.tN "SUPPRESSED_SENTINEL" Bundle.listD)).before args s = true)
    (lU : (Cond.laysStatic Bundle.tN "UNASSIGNED_STACK" Bundle.steD).before args s = true) (lN : (Cond.laysStatic Bundle.tN "SUPPRESSED_SENTINEL" Bundle.listD).before args s = true) : ∀ w ∈ L, w.before args s = true := by
  intro w hw
  by_cases e1 : w = .isRef (.static Bundle.tN "UNASSIGNED_STACK" Bundle.steD)
  · rw [e1]; exact hU
  · by_cases e2 : w = .isRef (.static Bundle.tN "SUPPRESSED_SENTINEL" Bundle.listD)
    · rw [e2]; exact hN
    · by_cases e3 : w = .laysStatic Bundle.tN "UNASSIGNED_STACK" Bundle.steD
      · rw [e3]; exact lU
      · by_cases e4 : w = .laysStatic Bundle.tN "SUPPRESSED_SENTINEL" Bundle.listD
        · rw [e4]; exact lN
        · exact h1 w (List.mem_filter.mpr ⟨hw, by unfold vx_no; rw [decide_eq_true e1, decide_eq_true e2, decide_eq_true e3, decide_eq_true e4]; rfl⟩)
def vx_L (C n d : String) (A : Nat → Prop) (U : State) (H : Heap) : Prop := ∃ (c : ClassId) (k : Class) (i : Nat) (f : Field) (a : Nat) (cell : Cell), U.vm.findClass C = some c ∧ U.fieldFound? C n d = some (c, k, i, f) ∧ f.isStatic = true ∧ k.statics = some a ∧ H[a]? = some cell ∧ cell.vm.isStatics = true ∧ cell.cls = c ∧ f.slot < cell.slots.size ∧ k.staticTypes[f.slot]? = some f.type ∧ ¬ A a
theorem vx_L.moved {C n d : String} {A : Nat → Prop} {u U : State} {H : Heap} (hvm : u.vm.Alike U.vm) (h : vx_L C n d A u H) : vx_L C n d A U H := by
  obtain ⟨c, k, i, f, a, cell, h1, h2, h3, h4, h5, h6, h7, h8, h9, h10⟩ := h
  obtain ⟨k', hi', he⟩ := State.fieldFound?_setVm hvm h2
  exact ⟨c, k', i, f, a, cell, by rw [hvm.findClass]; exact h1, hi', h3, by rw [he]; exact h4, h5, h6, h7, h8, by rw [he]; exact h9, h10⟩
theorem vx_L.kept {C n d : String} {A : Nat → Prop} {U : State} {H H1 : Heap} (h : vx_L C n d A U H) (hq : ∀ a : Nat, a < H.size → ¬ A a → H1[a]? = H[a]?) : vx_L C n d A U H1 := by
  obtain ⟨c, k, i, f, a, cell, h1, h2, h3, h4, h5, h6, h7, h8, h9, h10⟩ := h
  exact ⟨c, k, i, f, a, cell, h1, h2, h3, h4, by rw [hq a (Array.getElem?_eq_some_iff.mp h5).1 h10]; exact h5, h6, h7, h8, h9, h10⟩
theorem vx_L.narrow {C n d : String} {A B : Nat → Prop} {U : State} {H : Heap} (h : vx_L C n d A U H) (hAB : ∀ q, B q → A q) : vx_L C n d B U H := by
  obtain ⟨c, k, i, f, a, cell, h1, h2, h3, h4, h5, h6, h7, h8, h9, h10⟩ := h
  exact ⟨c, k, i, f, a, cell, h1, h2, h3, h4, h5, h6, h7, h8, h9, fun z => h10 (hAB _ z)⟩
theorem vx_L.word {C n d : String} {A : Nat → Prop} {s : State} {args : Array Value} (h : vx_L C n d A s s.heap) : (Cond.laysStatic C n d).before args s = true := by
  obtain ⟨c, k, i, f, a, cell, h1, h2, h3, h4, h5, h6, h7, h8, h9, -⟩ := h
  show (Cond.laysStatic C n d).holds args s none s [] = true
  exact Cond.laysStatic_of h1 h2 h3 h4 h5 h6 h7 h8 h9
def vx_Zq (C n d : String) (A : Nat → Prop) (U : State) (H : Heap) : Prop := va_Zq C n d A U H ∧ vx_L C n d A U H
theorem vx_Zq.moved {C n d : String} {A : Nat → Prop} {u U : State} {H : Heap} (hvm : u.vm.Alike U.vm) (h : vx_Zq C n d A u H) : vx_Zq C n d A U H := ⟨va_Zq.moved hvm h.1, vx_L.moved hvm h.2⟩
theorem vx_Zq.kept {C n d : String} {A : Nat → Prop} {U : State} {H H1 : Heap} (h : vx_Zq C n d A U H) (hq : ∀ a : Nat, a < H.size → ¬ A a → H1[a]? = H[a]?) : vx_Zq C n d A U H1 := ⟨va_Zq.kept h.1 hq, vx_L.kept h.2 hq⟩
theorem vx_Zq.narrow {C n d : String} {A B : Nat → Prop} {U : State} {H : Heap} (h : vx_Zq C n d A U H) (hAB : ∀ q, B q → A q) : vx_Zq C n d B U H := ⟨va_Zq.narrow h.1 hAB, vx_L.narrow h.2 hAB⟩
theorem vx_Zqof {args : Array Value} {s : State} {C n d : String} {A : Nat → Prop} (hl : (Cond.laysStatic C n d).before args s = true) (hini : (Cond.initialized C).before args s = true) (h : (Cond.isRef (.static C n d)).before args s = true) (hA : ∀ a : Nat, a < s.heap.size → ¬ A a) : vx_Zq C n d A s s.heap := by
  refine ⟨va_Zqof hl hini h hA, ?_⟩
  obtain ⟨c, k, i, f, a, cell, h1, h2, h3, h4, h5, h6, h7, h8, h9⟩ := Cond.laysStatic_spec hl
  exact ⟨c, k, i, f, a, cell, h1, h2, h3, h4, h5, h6, h7, h8, h9, hA a (Array.getElem?_eq_some_iff.mp h5).1⟩
theorem vx_isRef {C n d : String} {v : Value} {A : Nat → Prop} {s : State} {args : Array Value} (h : va_Z C n d v A s s.heap) (hv : v.isRef = true) : (Cond.isRef (.static C n d)).before args s = true := by
  obtain ⟨cf, kf, fi, f, a, cell, h1, h2, h3, h4, h5, h6, h7, -⟩ := h
  have he : (Term.static C n d).eval args s none [] s = some v := by
    simp [Term.eval, State.fieldNamed?, h1, h2, h4, h5, h6, h7]
  simp only [Cond.before, Cond.holds, Cond.value, he]
  cases v <;> simp_all [Value.isRef]
theorem vx_isRefq {C n d : String} {A : Nat → Prop} {s : State} {args : Array Value} (h : va_Zq C n d A s s.heap) : (Cond.isRef (.static C n d)).before args s = true := by
  rcases h with h | ⟨t, h⟩
  · exact vx_isRef h rfl
  · exact vx_isRef h rfl
theorem vx_rebase {T : State} (X : Stand p l e R s m args below meth c T locs cells slots) {R' : Room} (hf : R'.frames ≤ R.frames) (hl : R'.locals ≤ R.locals) (hc : cells + R'.cells ≤ R.cells) (hs : slots + R'.slots ≤ R.slots) :
    Stand p l e R' ((T.setVm s.vm).setFrames (.invoking m args :: below)) m args below meth c T [] 0 0 := by
  have htop : (T.setVm s.vm).topJava?.isSome := X.here.top
  have hF : ((T.setVm s.vm).setFrames (.invoking m args :: below)).frames = .invoking m args :: below := State.frames_setFrames _ (State.cur_lt_of_top htop)
  obtain ⟨g₀, hg0⟩ := Option.isSome_iff_exists.mp htop
  obtain ⟨r, hr⟩ := State.topJava?_eq_some.mp hg0
  have hl9 : e.platform.stackLimits (T.setVm s.vm).me = e.platform.stackLimits s.me := X.limits
  have hb9 : (T.setVm s.vm).me.stackBytes = s.me.stackBytes := X.bytes
  refine ⟨X.admits, X.cas, X.clock, hF, ?_, X.hears, X.method, X.code, X.here, X.tail, X.warmed, ?_, ?_, ?_⟩
  · have h := X.room
    have hU : ((T.setVm s.vm).setFrames (.invoking m args :: below)).localsInUse = s.localsInUse := by
      rw [State.localsInUse_invoking hF (meth := meth) (c := c) X.method X.code, State.localsInUse_invoking X.frames X.method X.code]
    simp only [State.hasRoom, Bool.and_eq_true, decide_eq_true_eq] at h ⊢
    obtain ⟨⟨⟨⟨h1, h2, h3, h4, h5, h6⟩, h7⟩, h8⟩, h9⟩ := h
    rw [X.frames, List.length_cons] at h2 h3
    have q1 := X.heapSize
    have q2 := X.used
    simp only [hF, hU, List.length_cons, State.stackLimits_setFrames, State.stackBytes_setFrames, hl9, hb9]
    refine ⟨⟨⟨⟨by omega, by omega, by omega, by omega, by omega, h6⟩, ?_⟩, ?_⟩, X.book⟩
    · show T.heap.size + R'.cells ≤ e.platform.maxCells
      omega
    · show T.slotsUsed + R'.slots ≤ e.platform.maxSlots
      omega
  · rw [State.stackLimits_setFrames]; rfl
  · rw [State.stackBytes_setFrames]; rfl
  · refine ⟨?_, Nat.le_refl _, Nat.le_refl _, ?_, ?_, fun a c9 h9 => ⟨c9, h9, rfl, rfl, fun _ _ => rfl⟩⟩
    · obtain ⟨t, ht, -⟩ := State.frames_cons hr
      show T.setVm s.vm = { ((T.setVm s.vm).setFrames (.invoking m args :: below)).setFrames (T.setVm s.vm).frames with heap := T.heap, slotsUsed := T.slotsUsed }
      rw [State.setFrames_setFrames, State.setFrames_self ht]
      rfl
    · show T.slotsUsed = T.slotsUsed + ((T.heap.toList.drop T.heap.size).map (·.slots.size)).sum
      rw [List.drop_eq_nil_of_le (Nat.le_of_eq Array.length_toList)]
      rfl
    · show ((T.heap.toList.drop T.heap.size).map (·.slots.size)).sum ≤ 0
      rw [List.drop_eq_nil_of_le (Nat.le_of_eq Array.length_toList)]
      exact Nat.le_refl _
theorem vx_throw0 {cc : ByteArray} {pc : Nat} (hexec : p.tables.exec = Jvm.exec) (hb : c.code = cc) (hl : l.stackTraces = false) {own cls : String} {names : List String} {ik ic mc ms : Nat} {A : Nat → Prop}
    (hown : s.vm.findClass own = some m.cls) (hcls : Bundle.fit cls = true) (hnames : ∀ n ∈ names, Bundle.fit n = true)
    (hk : (Cond.classLink own ik cls).before args s = true) (hini : (Cond.initialized cls).before args s = true) (hat : ∀ w ∈ vx_at0 own ic cls names, w.before args s = true)
    (hgood : ∀ w ∈ Cond.classLink own ik cls :: Cond.initialized cls :: vx_at0 own ic cls names, vx_ot w = true)
    (hU : vx_Zq Bundle.tN "UNASSIGNED_STACK" Bundle.steD A s s.heap) (hN : vx_Zq Bundle.tN "SUPPRESSED_SENTINEL" Bundle.listD A s s.heap) (hS : va_S A s.heap H locs) (hsize : ls.size = c.maxLocals)
    (d0 : decode cc pc = .ok (.new ik, 3)) (d3 : decode cc (pc + 3) = .ok (.dup, 1)) (d4 : decode cc (pc + 4) = .ok (.invokespecial ic, 3)) (d7 : decode cc (pc + 7) = .ok (.athrow, 1))
    (hout : ∀ x ∈ c.exceptionTable.toList, covers x (pc + 7) = false)
    (hRframes : names.length + 3 < R.frames) (hRlocals : (rest.map fun v => v.category).sum + (13 * (names.length + 1) + 42) ≤ R.locals) (hRcells : cells + 1 ≤ R.cells) (hRslots : slots + 6 ≤ R.slots) (hlocks : meth.locks = false)
    (hx : ∀ t : State, s.vm.Alike t.vm → H.size ≤ t.heap.size → (∀ q : Nat, q < H.size → t.heap[q]? = H[q]?) → XC cls s t)
    (hf : ∀ z ∈ locs, free z.base) (hc : cells + 1 ≤ mc) (hs : slots + 6 ≤ ms) :
    W p l e R s m args below meth c H locs cells slots (vx_MQ below Qc XC args s mc ms free) (F0 m pc ls rest) := by
  intro T hT X
  have htr : e.platform.stackTraces = false := (show e.platform.stackTraces = l.stackTraces by rw [X.admits.platform]).trans hl
  have Y := vx_rebase X (R' := { frames := R.frames, locals := R.locals, cells := 1, slots := 6 }) (Nat.le_refl _) (Nat.le_refl _) hRcells hRslots
  obtain ⟨s', hA⟩ : ∃ z, z = (T.setVm s.vm).setFrames (.invoking m args :: below) := ⟨_, rfl⟩
  rw [← hA] at Y
  have hvm : s'.vm = s.vm := by rw [hA]; rfl
  have hhp : s'.heap = H := by rw [hA]; exact hT
  have hW0 : s.WarmedH s'.vm := by rw [hvm]; exact State.WarmedH.refl s
  have hat' : ∀ w ∈ vx_at0 own ic cls names, w.before args s' = true := fun w hw => vx_ot_at hW0 hvm.symm (hgood w (List.mem_cons_of_mem _ (List.mem_cons_of_mem _ hw))) (hat w hw)
  have hk' : (Cond.classLink own ik cls).before args s' = true := vx_ot_at hW0 hvm.symm (hgood _ List.mem_cons_self) hk
  have hini' : (Cond.initialized cls).before args s' = true := vx_ot_at hW0 hvm.symm (hgood _ (List.mem_cons_of_mem _ List.mem_cons_self)) hini
  have hU' : vx_Zq Bundle.tN "UNASSIGNED_STACK" Bundle.steD A s' s'.heap := by rw [hhp]; exact vx_Zq.moved hW0.alike (hU.kept hS.2.1)
  have hN' : vx_Zq Bundle.tN "SUPPRESSED_SENTINEL" Bundle.listD A s' s'.heap := by rw [hhp]; exact vx_Zq.moved hW0.alike (hN.kept hS.2.1)
  have h : ∀ w ∈ Bundle.ownAtoms0 own ic cls names, w.before args s' = true := vx_own hat' (vx_isRefq hU'.1) (vx_isRefq hN'.1) hU'.2.word hN'.2.word
  have hown' : s'.vm.findClass own = some m.cls := by rw [hvm]; exact hown
  have hins : (Cond.instantiable cls 6).before args s' = true := h _ (by simp [Bundle.ownAtoms0])
  obtain ⟨vm₁, cX, kX, hfX, hkX, -, -, X₁, st1⟩ := Y.newCold hexec (own := own) (C := cls) (index := ik) (n := 6) hown' hk' hins hini'
    (g := F0 m pc ls rest) rfl (by rw [hb]; exact d0) (Nat.le_refl _) (Nat.le_refl _)
  generalize hT1 : (T.setVm vm₁).pushCell { cls := cX, slots := kX.instanceTypes.map defaultValue, vm := .none } = T1 at X₁ st1
  have hcat : (Value.ref T.heap.size).category = 1 := rfl
  have hcellA : T1.heap[T.heap.size]? = some (freshCell cX kX) := by rw [← hT1]; exact State.heap_pushCell_size _ _
  have d3' : decode c.code (pc + 3) = .ok (.dup, 1) := by rw [hb]; exact d3
  obtain ⟨U, hsteps, hrun, hend, hW, hsame, ce, hce, hO⟩ := X₁.ctorThrow0 hexec htr (own := own) (cls := cls) (names := names) (ic := ic) hown' hcls hnames h (fun x hx => nomatch hx) hfX hkX hcellA (by rw [hhp, hT]; exact Nat.le_refl _)
    (g := { method := m, pc := pc + 4, locals := ls, stack := .ref T.heap.size :: .ref T.heap.size :: rest, locked := none }) rfl hsize rfl rfl (rest := rest) rfl
    (by rw [hb]; exact d4) (by rw [hb]; exact d7) hout hRframes (by simp only [List.map_cons, List.sum_cons, hcat]; omega) hlocks
  obtain ⟨f1, f2⟩ := vx_frame hsame
  rw [hhp] at f1 f2
  have hWs : s.WarmedH U.vm := State.WarmedH.trans hW0 hW
  have hcl : s.vm.findClass cls = some ce.cls := by
    have h9 := hO.cls
    rw [hvm] at h9
    exact h9
  have hall : s.sameButNew ({ U with vm := s.vm } : State) locs mc ms := by
    subst hA
    obtain ⟨e1, e2⟩ := hsame
    rw [State.setFrames_setFrames] at e1
    have h2 : (T.setVm s.vm).sameButNew ({ U with vm := s.vm } : State) [] (0 + 1) (0 + 6) := ⟨e1, e2⟩
    have h3 := X.same.trans h2
    rw [List.append_nil] at h3
    exact h3.mono hc hs
  refine ⟨U, ?_, .threw T.heap.size, hrun, hend, Or.inr ⟨T.heap.size, rfl, cls, ce, locs, hx U hWs.alike f1 (fun q hq => f2 q hq (fun z hz => nomatch hz)), hce, hO.vm, hcl, hWs, hall, hf⟩⟩
  refine st1 _ ?_
  show Steps p.tables e below (T1.setTop { method := m, pc := pc + 3, locals := ls, stack := .ref T.heap.size :: rest, locked := none }) _
  jvm_step X₁.here [X₁.here.top, hexec, d3', Value.category]
  exact hsteps
theorem vx_throwS {cc : ByteArray} {pc : Nat} (hexec : p.tables.exec = Jvm.exec) (hb : c.code = cc) (hl : l.stackTraces = false) {own cls text : String} {names : List String} {ik is ic mc ms sa : Nat} {A : Nat → Prop}
    (hown : s.vm.findClass own = some m.cls) (hcls : Bundle.fit cls = true) (hnames : ∀ n ∈ names, Bundle.fit n = true)
    (hk : (Cond.classLink own ik cls).before args s = true) (hini : (Cond.initialized cls).before args s = true) (hstr : vk_R own is text sa s) (hat : ∀ w ∈ vx_atS own ic cls names, w.before args s = true)
    (hgood : ∀ w ∈ Cond.classLink own ik cls :: Cond.initialized cls :: vx_atS own ic cls names, vx_ot w = true)
    (hU : vx_Zq Bundle.tN "UNASSIGNED_STACK" Bundle.steD A s s.heap) (hN : vx_Zq Bundle.tN "SUPPRESSED_SENTINEL" Bundle.listD A s s.heap) (hS : va_S A s.heap H locs) (hsize : ls.size = c.maxLocals)
    (d0 : decode cc pc = .ok (.new ik, 3)) (d3 : decode cc (pc + 3) = .ok (.dup, 1)) (d4 : decode cc (pc + 4) = .ok (.ldc is, 2)) (d6 : decode cc (pc + 6) = .ok (.invokespecial ic, 3)) (d9 : decode cc (pc + 9) = .ok (.athrow, 1))
    (hout : ∀ x ∈ c.exceptionTable.toList, covers x (pc + 9) = false)
    (hRframes : names.length + 3 < R.frames) (hRlocals : (rest.map fun v => v.category).sum + (13 * (names.length + 1) + 43) ≤ R.locals) (hRcells : cells + 1 ≤ R.cells) (hRslots : slots + 6 ≤ R.slots) (hlocks : meth.locks = false)
    (hx : ∀ t : State, s.vm.Alike t.vm → H.size ≤ t.heap.size → (∀ q : Nat, q < H.size → t.heap[q]? = H[q]?) → XC cls s t)
    (hf : ∀ z ∈ locs, free z.base) (hc : cells + 1 ≤ mc) (hs : slots + 6 ≤ ms) :
    W p l e R s m args below meth c H locs cells slots (vx_MQ below Qc XC args s mc ms free) (F0 m pc ls rest) := by
  intro T hT X
  have htr : e.platform.stackTraces = false := (show e.platform.stackTraces = l.stackTraces by rw [X.admits.platform]).trans hl
  have Y := vx_rebase X (R' := { frames := R.frames, locals := R.locals, cells := 1, slots := 6 }) (Nat.le_refl _) (Nat.le_refl _) hRcells hRslots
  obtain ⟨s', hA⟩ : ∃ z, z = (T.setVm s.vm).setFrames (.invoking m args :: below) := ⟨_, rfl⟩
  rw [← hA] at Y
  have hvm : s'.vm = s.vm := by rw [hA]; rfl
  have hhp : s'.heap = H := by rw [hA]; exact hT
  have hW0 : s.WarmedH s'.vm := by rw [hvm]; exact State.WarmedH.refl s
  have hat' : ∀ w ∈ vx_atS own ic cls names, w.before args s' = true := fun w hw => vx_ot_at hW0 hvm.symm (hgood w (List.mem_cons_of_mem _ (List.mem_cons_of_mem _ hw))) (hat w hw)
  have hk' : (Cond.classLink own ik cls).before args s' = true := vx_ot_at hW0 hvm.symm (hgood _ List.mem_cons_self) hk
  have hini' : (Cond.initialized cls).before args s' = true := vx_ot_at hW0 hvm.symm (hgood _ (List.mem_cons_of_mem _ List.mem_cons_self)) hini
  have hU' : vx_Zq Bundle.tN "UNASSIGNED_STACK" Bundle.steD A s' s'.heap := by rw [hhp]; exact vx_Zq.moved hW0.alike (hU.kept hS.2.1)
  have hN' : vx_Zq Bundle.tN "SUPPRESSED_SENTINEL" Bundle.listD A s' s'.heap := by rw [hhp]; exact vx_Zq.moved hW0.alike (hN.kept hS.2.1)
  have h : ∀ w ∈ Bundle.ownAtoms own ic cls names, w.before args s' = true := vx_own hat' (vx_isRefq hU'.1) (vx_isRefq hN'.1) hU'.2.word hN'.2.word
  have hown' : s'.vm.findClass own = some m.cls := by rw [hvm]; exact hown
  have hins : (Cond.instantiable cls 6).before args s' = true := h _ (by simp [Bundle.ownAtoms])
  obtain ⟨vm₁, cX, kX, hfX, hkX, -, -, X₁, st1⟩ := Y.newCold hexec (own := own) (C := cls) (index := ik) (n := 6) hown' hk' hins hini'
    (g := F0 m pc ls rest) rfl (by rw [hb]; exact d0) (Nat.le_refl _) (Nat.le_refl _)
  generalize hT1 : (T.setVm vm₁).pushCell { cls := cX, slots := kX.instanceTypes.map defaultValue, vm := .none } = T1 at X₁ st1
  have hcat : (Value.ref T.heap.size).category = 1 := rfl
  have hcellA : T1.heap[T.heap.size]? = some (freshCell cX kX) := by rw [← hT1]; exact State.heap_pushCell_size _ _
  have d3' : decode c.code (pc + 3) = .ok (.dup, 1) := by rw [hb]; exact d3
  have d4' : decode c.code (pc + 4) = .ok (.ldc is, 2) := by rw [hb]; exact d4
  have hstr' : vk_R own is text sa s' := vk_R.warm hW0 hstr
  obtain ⟨U, hsteps, hrun, hend, hW, hsame, ce, hce, hO⟩ := X₁.ctorThrowS hexec htr (own := own) (cls := cls) (names := names) (ic := ic) hown' hcls hnames h (fun x hx => nomatch hx) hfX hkX hcellA (by rw [hhp, hT]; exact Nat.le_refl _) (msg := .ref sa) rfl
    (g := { method := m, pc := pc + 6, locals := ls, stack := .ref sa :: .ref T.heap.size :: .ref T.heap.size :: rest, locked := none }) rfl hsize rfl rfl (rest := rest) rfl
    (by rw [hb]; exact d6) (by rw [hb]; exact d9) hout hRframes (by simp only [List.map_cons, List.sum_cons, hcat]; omega) hlocks
  obtain ⟨f1, f2⟩ := vx_frame hsame
  rw [hhp] at f1 f2
  have hWs : s.WarmedH U.vm := State.WarmedH.trans hW0 hW
  have hcl : s.vm.findClass cls = some ce.cls := by
    have h9 := hO.cls
    rw [hvm] at h9
    exact h9
  have hall : s.sameButNew ({ U with vm := s.vm } : State) locs mc ms := by
    subst hA
    obtain ⟨e1, e2⟩ := hsame
    rw [State.setFrames_setFrames] at e1
    have h2 : (T.setVm s.vm).sameButNew ({ U with vm := s.vm } : State) [] (0 + 1) (0 + 6) := ⟨e1, e2⟩
    have h3 := X.same.trans h2
    rw [List.append_nil] at h3
    exact h3.mono hc hs
  refine ⟨U, ?_, .threw T.heap.size, hrun, hend, Or.inr ⟨T.heap.size, rfl, cls, ce, locs, hx U hWs.alike f1 (fun q hq => f2 q hq (fun z hz => nomatch hz)), hce, hO.vm, hcl, hWs, hall, hf⟩⟩
  refine st1 _ ?_
  show Steps p.tables e below (T1.setTop { method := m, pc := pc + 3, locals := ls, stack := .ref T.heap.size :: rest, locked := none }) _
  jvm_step X₁.here [X₁.here.top, hexec, d3', Value.category]
  exact X₁.ldcString hexec (own := own) (text := text) (index := is) (a := sa) hown' hstr'.1 hstr'.2
    (g := { method := m, pc := pc + 4, locals := ls, stack := .ref T.heap.size :: .ref T.heap.size :: rest, locked := none }) rfl d4' _ hsteps
theorem vx_throwSW {cc : ByteArray} {pc : Nat} (hexec : p.tables.exec = Jvm.exec) (hb : c.code = cc) (hl : l.stackTraces = false) {own cls text : String} {names : List String} {ik is ic mc ms sa : Nat} {A : Nat → Prop}
    (hown : s.vm.findClass own = some m.cls) (hcls : Bundle.fit cls = true) (hnames : ∀ n ∈ names, Bundle.fit n = true)
    (hk : (Cond.classLink own ik cls).before args s = true) (hini : (Cond.initialized cls).before args s = true) (hstr : vk_R own is text sa s) (hat : ∀ w ∈ vx_atS own ic cls names, w.before args s = true)
    (hgood : ∀ w ∈ Cond.classLink own ik cls :: Cond.initialized cls :: vx_atS own ic cls names, vx_ot w = true)
    (hU : vx_Zq Bundle.tN "UNASSIGNED_STACK" Bundle.steD A s s.heap) (hN : vx_Zq Bundle.tN "SUPPRESSED_SENTINEL" Bundle.listD A s s.heap) (hS : va_S A s.heap H locs) (hsize : ls.size = c.maxLocals)
    (d0 : decode cc pc = .ok (.new ik, 3)) (d3 : decode cc (pc + 3) = .ok (.dup, 1)) (d4 : decode cc (pc + 4) = .ok (.ldc_w is, 3)) (d7 : decode cc (pc + 7) = .ok (.invokespecial ic, 3)) (d10 : decode cc (pc + 10) = .ok (.athrow, 1))
    (hout : ∀ x ∈ c.exceptionTable.toList, covers x (pc + 10) = false)
    (hRframes : names.length + 3 < R.frames) (hRlocals : (rest.map fun v => v.category).sum + (13 * (names.length + 1) + 43) ≤ R.locals) (hRcells : cells + 1 ≤ R.cells) (hRslots : slots + 6 ≤ R.slots) (hlocks : meth.locks = false)
    (hx : ∀ t : State, s.vm.Alike t.vm → H.size ≤ t.heap.size → (∀ q : Nat, q < H.size → t.heap[q]? = H[q]?) → XC cls s t)
    (hf : ∀ z ∈ locs, free z.base) (hc : cells + 1 ≤ mc) (hs : slots + 6 ≤ ms) :
    W p l e R s m args below meth c H locs cells slots (vx_MQ below Qc XC args s mc ms free) (F0 m pc ls rest) := by
  intro T hT X
  have htr : e.platform.stackTraces = false := (show e.platform.stackTraces = l.stackTraces by rw [X.admits.platform]).trans hl
  have Y := vx_rebase X (R' := { frames := R.frames, locals := R.locals, cells := 1, slots := 6 }) (Nat.le_refl _) (Nat.le_refl _) hRcells hRslots
  obtain ⟨s', hA⟩ : ∃ z, z = (T.setVm s.vm).setFrames (.invoking m args :: below) := ⟨_, rfl⟩
  rw [← hA] at Y
  have hvm : s'.vm = s.vm := by rw [hA]; rfl
  have hhp : s'.heap = H := by rw [hA]; exact hT
  have hW0 : s.WarmedH s'.vm := by rw [hvm]; exact State.WarmedH.refl s
  have hat' : ∀ w ∈ vx_atS own ic cls names, w.before args s' = true := fun w hw => vx_ot_at hW0 hvm.symm (hgood w (List.mem_cons_of_mem _ (List.mem_cons_of_mem _ hw))) (hat w hw)
  have hk' : (Cond.classLink own ik cls).before args s' = true := vx_ot_at hW0 hvm.symm (hgood _ List.mem_cons_self) hk
  have hini' : (Cond.initialized cls).before args s' = true := vx_ot_at hW0 hvm.symm (hgood _ (List.mem_cons_of_mem _ List.mem_cons_self)) hini
  have hU' : vx_Zq Bundle.tN "UNASSIGNED_STACK" Bundle.steD A s' s'.heap := by rw [hhp]; exact vx_Zq.moved hW0.alike (hU.kept hS.2.1)
  have hN' : vx_Zq Bundle.tN "SUPPRESSED_SENTINEL" Bundle.listD A s' s'.heap := by rw [hhp]; exact vx_Zq.moved hW0.alike (hN.kept hS.2.1)
  have h : ∀ w ∈ Bundle.ownAtoms own ic cls names, w.before args s' = true := vx_own hat' (vx_isRefq hU'.1) (vx_isRefq hN'.1) hU'.2.word hN'.2.word
  have hown' : s'.vm.findClass own = some m.cls := by rw [hvm]; exact hown
  have hins : (Cond.instantiable cls 6).before args s' = true := h _ (by simp [Bundle.ownAtoms])
  obtain ⟨vm₁, cX, kX, hfX, hkX, -, -, X₁, st1⟩ := Y.newCold hexec (own := own) (C := cls) (index := ik) (n := 6) hown' hk' hins hini'
    (g := F0 m pc ls rest) rfl (by rw [hb]; exact d0) (Nat.le_refl _) (Nat.le_refl _)
  generalize hT1 : (T.setVm vm₁).pushCell { cls := cX, slots := kX.instanceTypes.map defaultValue, vm := .none } = T1 at X₁ st1
  have hcat : (Value.ref T.heap.size).category = 1 := rfl
  have hcellA : T1.heap[T.heap.size]? = some (freshCell cX kX) := by rw [← hT1]; exact State.heap_pushCell_size _ _
  have d3' : decode c.code (pc + 3) = .ok (.dup, 1) := by rw [hb]; exact d3
  have d4' : decode c.code (pc + 4) = .ok (.ldc_w is, 3) := by rw [hb]; exact d4
  have hstr' : vk_R own is text sa s' := vk_R.warm hW0 hstr
  obtain ⟨U, hsteps, hrun, hend, hW, hsame, ce, hce, hO⟩ := X₁.ctorThrowS hexec htr (own := own) (cls := cls) (names := names) (ic := ic) hown' hcls hnames h (fun x hx => nomatch hx) hfX hkX hcellA (by rw [hhp, hT]; exact Nat.le_refl _) (msg := .ref sa) rfl
    (g := { method := m, pc := pc + 7, locals := ls, stack := .ref sa :: .ref T.heap.size :: .ref T.heap.size :: rest, locked := none }) rfl hsize rfl rfl (rest := rest) rfl
    (by rw [hb]; exact d7) (by rw [hb]; exact d10) hout hRframes (by simp only [List.map_cons, List.sum_cons, hcat]; omega) hlocks
  obtain ⟨f1, f2⟩ := vx_frame hsame
  rw [hhp] at f1 f2
  have hWs : s.WarmedH U.vm := State.WarmedH.trans hW0 hW
  have hcl : s.vm.findClass cls = some ce.cls := by
    have h9 := hO.cls
    rw [hvm] at h9
    exact h9
  have hall : s.sameButNew ({ U with vm := s.vm } : State) locs mc ms := by
    subst hA
    obtain ⟨e1, e2⟩ := hsame
    rw [State.setFrames_setFrames] at e1
    have h2 : (T.setVm s.vm).sameButNew ({ U with vm := s.vm } : State) [] (0 + 1) (0 + 6) := ⟨e1, e2⟩
    have h3 := X.same.trans h2
    rw [List.append_nil] at h3
    exact h3.mono hc hs
  refine ⟨U, ?_, .threw T.heap.size, hrun, hend, Or.inr ⟨T.heap.size, rfl, cls, ce, locs, hx U hWs.alike f1 (fun q hq => f2 q hq (fun z hz => nomatch hz)), hce, hO.vm, hcl, hWs, hall, hf⟩⟩
  refine st1 _ ?_
  show Steps p.tables e below (T1.setTop { method := m, pc := pc + 3, locals := ls, stack := .ref T.heap.size :: rest, locked := none }) _
  jvm_step X₁.here [X₁.here.top, hexec, d3', Value.category]
  exact X₁.ldcStringW hexec (own := own) (text := text) (index := is) (a := sa) hown' hstr'.1 hstr'.2
    (g := { method := m, pc := pc + 4, locals := ls, stack := .ref T.heap.size :: .ref T.heap.size :: rest, locked := none }) rfl d4' _ hsteps
end Ends
section Bodies
variable {l : Launch}
theorem vx_ofW {y : MethodName} {ws ws' : List Cond} {rm : Room} {Pc : Array Value → State → Prop} {Qc : Array Value → State → Outcome → State → Prop} {XC : String → State → State → Prop} {mc ms : Nat} {free : Addr → Prop} {cc : ByteArray} {maxL : Nat} {ret : Option FieldType}
    (hy : plainName y.cls = true) (hw : ws = Cond.code y cc maxL ret :: ws')
    (body : ∀ p e s m args below meth c s₁, BodyLoose p l y (headSpec ws rm) cc maxL ret e s m args below meth c s₁ → c.maxLocals = maxL → (∀ x ∈ c.exceptionTable.toList, False) → Pc args s →
      W p l e (headSpec ws rm).room s m args below meth c s.heap [] 0 0 (vx_MQ below Qc XC args s mc ms free) (entryFrame m args maxL)) : vx_Met l y ws rm Pc Qc XC mc ms free := by
  refine MetFree.of_bodyS (code := cc) (maxLocals := maxL) (ret := ret) hy ?_ ?_
  · intro args s m h hn
    obtain ⟨meth, c, h1, h2, h3, h4, h5, h6, -, -⟩ := Cond.code_spec hn (atoms_spec (ws := ws) h _ (by rw [hw]; exact List.mem_cons_self))
    exact ⟨meth, c, h1, h2, h3, h4, h5, h6⟩
  · intro p e s m args below meth c s₁ B hml hP _
    have hh0 : s₁.heap = s.heap := by rw [B.state]; rfl
    have ht : ∀ x ∈ c.exceptionTable.toList, False := by
      obtain ⟨meth9, c9, h1, h2, -, -, -, -, h7, -⟩ := Cond.code_spec B.named (atoms_spec (ws := ws) B.pre _ (by rw [hw]; exact List.mem_cons_self))
      cases Option.some.inj (h1.symm.trans B.method)
      cases Option.some.inj (h2.symm.trans (Stand.of_body B).code)
      intro x hx
      rw [Array.isEmpty_iff.mp h7] at hx
      cases hx
    obtain ⟨t, a1, o, b1, b2, b3⟩ := body p e s m args below meth c s₁ B hml ht hP s₁ hh0 (Stand.of_body B)
    exact ⟨t, o, a1, b1, b2, b3⟩
theorem vx_table {p : Program} {x y : MethodName} {S : Spec} {cc bytes : ByteArray} {maxL maxL' : Nat} {ret ret' : Option FieldType} {e : Env} {s s₁ : State} {m : MethodId} {args : Array Value} {below : List Frame} {meth : Method} {c : Code} {hh : List (Nat × Nat × Nat × Nat)}
    (B : BodyLoose p l y S cc maxL ret e s m args below meth c s₁) (h : (Cond.codeWith y bytes maxL' ret' hh).before args s = true) : c.exceptionTable.toList = tableOf hh := by
  obtain ⟨m9, meth9, c9, hn9, h1, h2, -, -, h6, -⟩ := Cond.codeWith_spec h
  cases Option.some.inj (hn9.symm.trans B.named)
  cases Option.some.inj (h1.symm.trans B.method)
  cases Option.some.inj (h2.symm.trans (Stand.of_body B).code)
  rw [← h6, table_eq]
end Bodies
end VXA
section VXS
variable {p : Program} {l : Launch} {e : Env} {R : Room} {s : State} {m : MethodId} {args : Array Value} {below : List Frame} {meth : Method} {c : Code} {T : State} {H : Heap} {locs : List Loc} {cells slots : Nat}
abbrev vx_CSW (R : Room) (s : State) (args : Array Value) (own : String) (index : Nat) (y : MethodName) (bytes : ByteArray) (maxL : Nat) (ret : Option FieldType) (hh : List (Nat × Nat × Nat × Nat)) (ws : List Cond) (rm : Room) (mc ms n : Nat) : Prop :=
  (rm.cells = mc ∧ rm.slots = ms ∧ rm.frames + 1 ≤ R.frames ∧ 8 + (maxL + 11) + rm.locals ≤ R.locals ∧ (∀ w ∈ ws, ∀ (a' : Array Value) (U : State), s.WarmedH U.vm → w.before a' U = true) ∧ Cond.codeWith y bytes maxL ret hh ∈ ws) ∧
  (Cond.codeWith y bytes maxL ret hh).before args s = true ∧ (Cond.initialized y.cls).before args s = true ∧ (y.cls ≠ "java/lang/invoke/MethodHandle" ∧ y.cls ≠ "java/lang/invoke/VarHandle") ∧
  (∀ sig, parseMethodDescriptor y.desc = some sig → n = sig.parameters.length) ∧ (Cond.methodLink own index y).before args s = true ∧ (Cond.static y).before args s = true
theorem vx_cwSW {own : String} {index maxL mc ms : Nat} {y : MethodName} {bytes : ByteArray} {ret : Option FieldType} {hh : List (Nat × Nat × Nat × Nat)} {Ts ws ws' : List Cond} {rm : Room} (n : Nat) (ht : ∀ w ∈ Ts, w.before args s = true) (hT : GoodIn Ts (va_wsS own index y ws)) (hw : ws = Cond.codeWith y bytes maxL ret hh :: ws') (hrc : rm.cells = mc) (hrs : rm.slots = ms)
    (hd : y.cls ≠ "java/lang/invoke/MethodHandle" ∧ y.cls ≠ "java/lang/invoke/VarHandle" ∧ (parseMethodDescriptor y.desc).map (fun d => d.parameters.length) = some n) (hR : rm.frames + 1 ≤ R.frames ∧ 8 + (maxL + 11) + rm.locals ≤ R.locals) :
    vx_CSW R s args own index y bytes maxL ret hh ws rm mc ms n := by
  have ok : ∀ w ∈ va_wsS own index y ws, w.before args s = true := fun w h => ht w (hT w h).1
  have hG : GoodIn Ts ws := fun w h => hT w (by unfold va_wsS; exact List.mem_append_right _ h)
  have hc : Cond.codeWith y bytes maxL ret hh ∈ ws := by rw [hw]; exact List.mem_cons_self
  refine ⟨⟨hrc, hrs, hR.1, hR.2, pay_in ht hG, hc⟩, ht _ (hG _ hc).1, ok _ (by simp [va_wsS]), ⟨hd.1, hd.2.1⟩, fun sig h => ?_, ok _ (by simp [va_wsS]), ok _ (by simp [va_wsS])⟩
  have h2 := hd.2.2
  rw [h] at h2
  exact (Option.some.inj h2).symm
theorem vx_callSW (X : Stand p l e R s m args below meth c T locs cells slots) (hexec : p.tables.exec = Jvm.exec) {own : String} {index : Nat} {y : MethodName} {bytes : ByteArray} {maxL : Nat} {ret : Option FieldType} {hh : List (Nat × Nat × Nat × Nat)}
    (hown : s.vm.findClass own = some m.cls) (hlink : (Cond.methodLink own index y).before args s = true) (hstat : (Cond.static y).before args s = true) (hinit : (Cond.initialized y.cls).before args s = true)
    (hcode : (Cond.codeWith y bytes maxL ret hh).before args s = true) (hy : y.cls ≠ "java/lang/invoke/MethodHandle" ∧ y.cls ≠ "java/lang/invoke/VarHandle")
    {W9 : Nat} {Pre : Pt → Array Value → Prop} {Post : Pt → Array Value → Option Value → Pt → Prop} (hK : Back l R p e below s args y 3 W9 Pre Post)
    {g : JFrame} (hg : g.method = m) (hsize : g.locals.size = c.maxLocals) {argsL rest : List Value} (hlen : ∀ sig, parseMethodDescriptor y.desc = some sig → argsL.length = sig.parameters.length)
    (hstack : g.stack = argsL.reverse ++ rest) (hW : 2 * g.monitorRoom + (rest.map fun v => v.category).sum ≤ W9) (hdg : decode c.code g.pc = .ok (.invokestatic index, 3))
    (hpre : ∀ vm₁, s.WarmedH vm₁ → Pre ⟨T.setVm vm₁, locs, cells, slots⟩ argsL.toArray) :
    ∃ (v : Option Value) (vm₁ : Vm) (B : Pt), s.WarmedH vm₁ ∧ Stand p l e R s m args below meth c B.U B.locs B.cells B.slots ∧ Post ⟨T.setVm vm₁, locs, cells, slots⟩ argsL.toArray v B ∧
      ∀ target, Steps p.tables e below (B.U.setTop { g with pc := g.pc + 3, stack := v.toList ++ rest }) target → Steps p.tables e below (T.setTop g) target := by
  obtain ⟨mk, methM, cM, hnamed, hmethM, -, -, -, -, -, -, hsigM⟩ := Cond.codeWith_spec hcode
  have hstatic : methM.isStatic = true := Cond.static_spec hnamed hmethM hstat
  obtain ⟨kP, hkP, -⟩ := className_of_methodNamed hnamed
  have hinitP : kP.init = .initialized := Cond.initialized_spec (findClass_of_methodNamed hnamed) hkP hinit
  obtain ⟨vm₁, X₁, hstep₁⟩ := X.invokestatic hexec hown hlink hnamed hmethM hstatic hkP hinitP hy (g := g) hg (argsL := argsL) (rest := rest) (hlen _ hsigM) hstack hdg
  obtain ⟨v, B, X', hpost, hsteps⟩ := hK m meth c ⟨T.setVm vm₁, locs, cells, slots⟩ { g with stack := rest } (.invokestatic index) mk argsL.toArray X₁ hg hsize hdg hW (X₁.named hnamed) (hpre vm₁ X₁.warmed)
  exact ⟨v, vm₁, B, X₁.warmed, X', hpost, fun target h => hstep₁ _ fun acts => by rw [doInvoke_state]; exact hsteps.trans h⟩
theorem vx_runSW {y : MethodName} {bytes cc : ByteArray} {maxL nL mc ms n index : Nat} {ret : Option FieldType} {hh : List (Nat × Nat × Nat × Nat)} {ws : List Cond} {rm : Room} {Pc : Array Value → State → Prop} {Qc : Array Value → State → Outcome → State → Prop} {free : Addr → Prop} {Ts : List Cond} {own : String} {As rest : List Value} {g : JFrame}
    (S : CallFix p m c cc nL s args Ts own) (hM : Met l y ws rm Pc Qc mc ms free) (cw : vx_CSW R s args own index y bytes maxL ret hh ws rm mc ms n) (hp : PreS s H Pc As)
    (hg : g.method = m) (hn : As.length = n) (hsize : g.locals.size = nL) (hstack : g.stack = As.reverse ++ rest) (hW : 2 * g.monitorRoom + (rest.map fun v => v.category).sum ≤ 8) (hdg : decode cc g.pc = .ok (.invokestatic index, 3)) (hf : cells + mc ≤ R.cells ∧ slots + ms ≤ R.slots) :
    va_Run p l e R s m args below meth c H locs cells slots mc ms g rest (Qc As.toArray) (free) := by
  obtain ⟨⟨hrc, hrs, hfr, hlo, hws, hcw⟩, hcode, hini, hy, hlen, hl, hstt⟩ := cw
  have hK : Back l R p e below s args y 3 8 (PreOf R mc ms Pc) (PostOf Qc mc ms free) := va_backW (hh := hh) (bytes := bytes) (maxL := maxL) (ret := ret) hM hp.1 hrc hrs hfr hlo hws hcw (fun a' U hW => word_at hW (Or.inl (by first | rfl | simp [Cond.onTables, Cond.keeps, Cond.steady])) hini)
  obtain ⟨hx, hb, hml, ho, -⟩ := S
  intro T hT X
  obtain ⟨v, vm₁, ⟨U', l2, c2, s2⟩, hW₁, X', ⟨g', mk, t, L, e1, e2, hq, h1, hL, h2, h3⟩, st⟩ := vx_callSW X hx (hh := hh) (bytes := bytes) (maxL := maxL) (ret := ret) ho hl hstt hini hcode hy hK hg (hsize.trans hml.symm) (argsL := As) (rest := rest) (fun sig h => hn.trans (hlen sig h)) hstack hW (by rw [hb]; exact hdg)
    (fun vm₁ hW₁ => ⟨hf.1, hf.2, hp.2 (T.setVm vm₁) hT hW₁⟩)
  dsimp only [Pt.U, Pt.locs, Pt.cells, Pt.slots] at X' e1 e2 h1 h2 h3 st
  subst h1; subst h2; subst h3
  exact ⟨v, (T.setVm vm₁).calling g' mk As.toArray, t, U', L, hT, X', hL, e1, e2, hq, st⟩
theorem vx_outP {p : Program} {l : Launch} {e : Env} {R : Room} {s : State} {m : MethodId} {args : Array Value} {below : List Frame} {meth : Method} {c : Code} {H : Heap} {locs : List Loc} {cells slots : Nat} {free : Addr → Prop} {ls : Array Slot} {rest : List Value} {Qc : Array Value → State → Outcome → State → Prop} {XC : String → State → State → Prop}
    {pc : Nat} {own E : String} {ce : Cell} {q : Addr} {mc ms : Nat} (hown : s.vm.findClass own = some m.cls) (hlocks : meth.locks = false)
    (hpass : ∀ z ∈ c.exceptionTable.toList, covers z pc = false ∨ (z.catchType ≠ 0 ∧ ∃ nm : String, (Cond.classLink own z.catchType nm).before args s = true ∧ va_Nc E nm s)) (hcell : H[q]? = some ce) (hv : ce.vm = .none) (hcl : s.vm.findClass E = some ce.cls)
    (hx : ∀ t : State, t.heap = H → s.vm.Alike t.vm → XC E s t) (hf : ∀ z ∈ locs, free z.base) (hc : cells ≤ mc) (hs : slots ≤ ms) :
    vx_W p l e R s m args below meth c H locs cells slots (vx_MQ below Qc XC args s mc ms free) (F0 m pc ls rest) q := by
  intro T hT X
  have hpl : e.platform.magicAccessors = ({} : Platform).magicAccessors := by rw [X.admits.platform]
  obtain ⟨vm', hW', X', st⟩ := X.outThrough hlocks q (g := F0 m pc ls rest) rfl rfl rfl (cell := ce) (by rw [hT]; exact hcell) (by rw [hv]; rfl)
    (by obtain ⟨k9, h9, -⟩ := Vm.findClass_spec hcl; exact ⟨k9, h9⟩) (fun z hz => by
      rcases hpass z hz with h | ⟨hz0, nm, hl1, hn1⟩
      · exact Or.inl h
      · obtain ⟨c6, hc6, hcl6⟩ := Cond.classLink_spec hown hl1 e.platform hpl
        obtain ⟨a8, b8, h1, h2, h3⟩ := hn1
        cases Option.some.inj (h1.symm.trans hcl)
        cases Option.some.inj (h2.symm.trans hc6)
        exact Or.inr ⟨hz0, _, hcl6, h3⟩)
  obtain ⟨g₀, hfr⟩ := X'.frames_eq
  have hcell9 : ((T.setVm vm').setFrames (.throwing q :: below)).heap[q]? = some ce := by
    show T.heap[q]? = some ce
    rw [hT]; exact hcell
  have hend : Ended ((T.setVm vm').setFrames (.throwing q :: below)) below (.threw q) := State.frames_setFrames _ (State.cur_lt_of_frames hfr)
  refine ⟨(T.setVm vm').setFrames (.throwing q :: below), ?_, .threw q, X'.here.running, hend, Or.inr ⟨q, rfl, E, ce, locs, hx _ hT (X'.ends _).1.alike, hcell9, hv, hcl, (X'.ends _).1, (X'.ends _).2.mono hc hs, hf⟩⟩
  rw [X.pushThrowing_eq]
  exact st
theorem vx_lt {D : va_G} {cl : List vw_C} {ws : va_W} {H1 : Heap} (h : va_P D cl ws H1) {k : Nat} {q : Nat × va_E} (hk : ws[k]? = some q) : q.1 < H1.size := (h k q hk).lt
end VXS
section VXH
section
variable {l : Launch} {R : Room} {p : Program} {e : Env} {below : List Frame} {s : State} {sargs : Array Value} {y : MethodName} {len W9 : Nat}
theorem vx_backW {ws : List Cond} {rm : Room} {Pc : Array Value → State → Prop} {Qc : Array Value → State → Outcome → State → Prop} {XC : String → State → State → Prop} {mc ms : Nat} {free : Addr → Prop} {bytes : ByteArray} {maxL : Nat} {ret : Option FieldType} {hh : List (Nat × Nat × Nat × Nat)}
    (hM : vx_Met l y ws rm Pc Qc XC mc ms free) (hblind : FrameBlind Pc) (hrc : rm.cells = mc) (hrs : rm.slots = ms)
    (hframes : rm.frames + 1 ≤ R.frames) (hlocals : W9 + (maxL + 11) + rm.locals ≤ R.locals)
    (hws : ∀ w ∈ ws, ∀ a' U, s.WarmedH U.vm → w.before a' U = true) (hcode : Cond.codeWith y bytes maxL ret hh ∈ ws) (hinit : ∀ a' U, s.WarmedH U.vm → (Cond.initialized y.cls).before a' U = true) :
    vx_Back l R p e below s sargs y len W9 (PreOf R mc ms Pc) (PostOf Qc mc ms free) (vx_Post XC mc ms free) := by
  intro m meth c A g ig mk a X hg hsize hdg hW hn hp
  have h1 : (headSpec ws rm).pre.before a A.U = true := atoms_intro fun w hw => hws w hw _ _ X.warmed
  have h2 : (Cond.codeWith y bytes maxL ret hh).before a A.U = true := hws _ hcode _ _ X.warmed
  have h3 : (Cond.initialized y.cls).before a A.U = true := hinit _ _ X.warmed
  have h4 : A.cells + (headSpec ws rm).room.cells ≤ R.cells := by rw [show (headSpec ws rm).room.cells = mc from hrc]; exact hp.1
  have h5 : A.slots + (headSpec ws rm).room.slots ≤ R.slots := by rw [show (headSpec ws rm).room.slots = ms from hrs]; exact hp.2.1
  have hPc : Pc a (A.U.calling g mk a) := hblind _ _ _ _ hp.2.2
  obtain ⟨U, Ls, c0, s0⟩ := A
  dsimp only [Pt.U, Pt.locs, Pt.cells, Pt.slots] at h1 h2 h3 h4 h5 X hn hPc ⊢
  obtain ⟨m9, methY, cY, hn9, hmY, hcY, -, hlY, -⟩ := Cond.codeWith_spec h2
  cases Option.some.inj (hn9.symm.trans hn)
  obtain ⟨kY, hkY, -⟩ := className_of_methodNamed hn
  have hinitY : kY.init = .initialized := Cond.initialized_spec (findClass_of_methodNamed hn) hkY h3
  have h : At U g.method c below := by rw [hg]; exact X.here
  have hlocals9 : W9 + (maxL + 11) + (headSpec ws rm).room.locals ≤ R.locals := hlocals
  have happ : (headSpec ws rm).appliesLoose y e.platform (U.calling g mk a) = true :=
    Spec.appliesLoose_calling (g := g) h hdg hn hkY hinitY
      (X.room_calling (g := g) (R' := (headSpec ws rm).room) hsize hmY hcY hframes (by rw [hlY]; omega) h4 h5) h1
  obtain ⟨mid, hmid⟩ := h.above
  have hfr : (U.setTop g).frames = (.java g :: mid) ++ below := by rw [State.frames_setTop' g h.top, hmid]; rfl
  obtain ⟨o, s₂, hsteps, -, hend, hq⟩ := Steps.callFree hM p X.admits X.cas X.clock (acts := []) hfr happ hPc trivial
  have hq' : vx_Q Qc XC mc ms free a (U.calling g mk a) o s₂ := hq
  rw [State.frames_setTop' g h.top] at hend
  obtain ⟨g₀, hg0⟩ := Option.isSome_iff_exists.mp h.top
  obtain ⟨r, hr⟩ := State.topJava?_eq_some.mp hg0
  have hr' : (({ U with heap := s₂.heap, slotsUsed := s₂.slotsUsed } : State).setVm s₂.vm).frames = .java g₀ :: r := hr
  rcases hq' with ⟨hqc, L, hfe, hL⟩ | ⟨q, rfl, E, ce, L, hx, hce, hcv, hcl, hW₂, hsm, hL⟩
  · obtain ⟨⟨v, rfl⟩, hW₂, e2, q2, q3, q4, q5, q6⟩ := id hfe
    have e3 : s₂ = ({ (U.calling g mk a).setFrames s₂.frames with heap := s₂.heap, slotsUsed := s₂.slotsUsed } : State).setVm s₂.vm := by
      have : s₂ = ({ s₂ with vm := (U.calling g mk a).vm } : State).setVm s₂.vm := rfl
      rw [e2] at this
      exact this
    obtain ⟨c₂, i₂, len₂, hc₂, hd₂, hf₂⟩ := hend
    have hW' : U.WarmedH s₂.vm := hW₂
    have hcc : c₂ = c := by
      have h1 : s₂.code? g.method = U.code? g.method := by
        rw [State.code?_eq, State.code?_eq, hW'.alike.method?]
      exact Option.some.inj (hc₂.symm.trans (h1.trans h.code))
    subst hcc
    have hlen : len₂ = len := by rw [hdg] at hd₂; cases hd₂; rfl
    subst hlen
    have hs₂ : s₂ = (({ U with heap := s₂.heap, slotsUsed := s₂.slotsUsed } : State).setVm s₂.vm).setTop { g with pc := g.pc + len₂, stack := v.toList ++ g.stack } := by
      refine e3.trans ?_
      rw [hf₂, State.calling_eq h.top, State.setFrames_setFrames, State.setTop_of_frames _ hr', hr]
      rfl
    have hsame : U.sameButNew ({ U with heap := s₂.heap, slotsUsed := s₂.slotsUsed } : State) L mc ms := by
      refine ⟨?_, q2, q3, q4, q5, q6⟩
      obtain ⟨t, ht, -⟩ := State.frames_cons hr
      show ({ U with heap := s₂.heap, slotsUsed := s₂.slotsUsed } : State) = { U.setFrames U.frames with heap := s₂.heap, slotsUsed := s₂.slotsUsed }
      rw [State.setFrames_self ht]
    subst hg
    refine Or.inl ⟨v, ⟨(({ U with heap := s₂.heap, slotsUsed := s₂.slotsUsed } : State).setVm s₂.vm), Ls ++ L, c0 + mc, s0 + ms⟩,
      ⟨X.admits, X.cas, X.clock, X.frames, X.room, X.hears, X.method, X.code, (X.here.setHeapUsed s₂.heap s₂.slotsUsed).setVm hW'.alike, X.tail, State.WarmedH.trans X.warmed hW', X.limits, X.bytes, X.same.trans (hsame.setVm s.vm)⟩,
      ⟨g, mk, s₂, L, rfl, rfl, hqc, rfl, hL, rfl, rfl⟩, ?_⟩
    show Steps p.tables e below _ ((({ U with heap := s₂.heap, slotsUsed := s₂.slotsUsed } : State).setVm s₂.vm).setTop { g with pc := g.pc + len₂, stack := v.toList ++ g.stack })
    rw [← hs₂]
    exact hsteps
  · obtain ⟨e2, q2, q3, q4, q5, q6⟩ := id hsm
    have e3 : s₂ = ({ (U.calling g mk a).setFrames s₂.frames with heap := s₂.heap, slotsUsed := s₂.slotsUsed } : State).setVm s₂.vm := by
      have : s₂ = ({ s₂ with vm := (U.calling g mk a).vm } : State).setVm s₂.vm := rfl
      rw [e2] at this
      exact this
    have hf₂ : s₂.frames = .throwing q :: .java g :: U.frames.tail := hend
    have hW' : U.WarmedH s₂.vm := hW₂
    have hs₂ : s₂ = ((({ U with heap := s₂.heap, slotsUsed := s₂.slotsUsed } : State).setVm s₂.vm).setTop g).pushFrame (.throwing q) := by
      refine e3.trans ?_
      rw [hf₂, State.calling_eq h.top, State.setFrames_setFrames, State.pushFrame, State.frames_setTop _ hr', State.setTop_of_frames _ hr', State.setFrames_setFrames, hr]
      rfl
    have hsame : U.sameButNew ({ U with heap := s₂.heap, slotsUsed := s₂.slotsUsed } : State) L mc ms := by
      refine ⟨?_, q2, q3, q4, q5, q6⟩
      obtain ⟨t, ht, -⟩ := State.frames_cons hr
      show ({ U with heap := s₂.heap, slotsUsed := s₂.slotsUsed } : State) = { U.setFrames U.frames with heap := s₂.heap, slotsUsed := s₂.slotsUsed }
      rw [State.setFrames_self ht]
    subst hg
    refine Or.inr ⟨q, ⟨(({ U with heap := s₂.heap, slotsUsed := s₂.slotsUsed } : State).setVm s₂.vm), Ls ++ L, c0 + mc, s0 + ms⟩,
      ⟨X.admits, X.cas, X.clock, X.frames, X.room, X.hears, X.method, X.code, (X.here.setHeapUsed s₂.heap s₂.slotsUsed).setVm hW'.alike, X.tail, State.WarmedH.trans X.warmed hW', X.limits, X.bytes, X.same.trans (hsame.setVm s.vm)⟩,
      ⟨g, mk, s₂, L, E, ce, rfl, rfl, hx, hce, hcv, hcl, rfl, hL, rfl, rfl⟩, ?_⟩
    show Steps p.tables e below _ (((({ U with heap := s₂.heap, slotsUsed := s₂.slotsUsed } : State).setVm s₂.vm).setTop g).pushFrame (.throwing q))
    rw [← hs₂]
    exact hsteps
end
variable {p : Program} {l : Launch} {e : Env} {R : Room} {s : State} {m : MethodId} {args : Array Value} {below : List Frame} {meth : Method} {c : Code} {T : State} {H : Heap} {locs : List Loc} {cells slots : Nat}
theorem vx_callVX (X : Stand p l e R s m args below meth c T locs cells slots) (hexec : p.tables.exec = Jvm.exec) {own C : String} {index : Nat} {y : MethodName} {bytes : ByteArray} {maxL : Nat} {ret : Option FieldType} {hh : List (Nat × Nat × Nat × Nat)}
    (hown : s.vm.findClass own = some m.cls) (hlink : (Cond.methodLink own index y).before args s = true) (hinst : (Cond.instanceMethod y).before args s = true) (hsel : (Cond.selects C y y).before args s = true)
    (hcode : (Cond.codeWith y bytes maxL ret hh).before args s = true) (hy : y.cls ≠ "java/lang/invoke/MethodHandle" ∧ y.cls ≠ "java/lang/invoke/VarHandle")
    {W9 : Nat} {Pre : Pt → Array Value → Prop} {Post : Pt → Array Value → Option Value → Pt → Prop} {PostX : Pt → Array Value → Addr → Pt → Prop} (hK : vx_Back l R p e below s args y 3 W9 Pre Post PostX)
    {b : Addr} {cellB : Cell} (hcell : T.heap[b]? = some cellB) (hobj : cellB.vm.isStatics = false) (hcls : s.vm.findClass C = some cellB.cls)
    {g : JFrame} (hg : g.method = m) (hsize : g.locals.size = c.maxLocals) {argsL rest : List Value} (hlen : ∀ sig, parseMethodDescriptor y.desc = some sig → argsL.length = sig.parameters.length)
    (hstack : g.stack = argsL.reverse ++ .ref b :: rest) (hW : 2 * g.monitorRoom + (rest.map fun v => v.category).sum ≤ W9) (hdg : decode c.code g.pc = .ok (.invokevirtual index, 3))
    (hpre : ∀ vm₁, s.WarmedH vm₁ → Pre ⟨T.setVm vm₁, locs, cells, slots⟩ (Value.ref b :: argsL).toArray) :
    (∃ (v : Option Value) (vm₁ : Vm) (B : Pt), s.WarmedH vm₁ ∧ Stand p l e R s m args below meth c B.U B.locs B.cells B.slots ∧ Post ⟨T.setVm vm₁, locs, cells, slots⟩ (Value.ref b :: argsL).toArray v B ∧
      ∀ target, Steps p.tables e below (B.U.setTop { g with pc := g.pc + 3, stack := v.toList ++ rest }) target → Steps p.tables e below (T.setTop g) target) ∨
    (∃ (q : Addr) (vm₁ : Vm) (B : Pt), s.WarmedH vm₁ ∧ Stand p l e R s m args below meth c B.U B.locs B.cells B.slots ∧ PostX ⟨T.setVm vm₁, locs, cells, slots⟩ (Value.ref b :: argsL).toArray q B ∧
      Steps p.tables e below (T.setTop g) ((B.U.setTop { g with stack := rest }).pushFrame (.throwing q))) := by
  obtain ⟨mk, methM, hnamed, hmethM, hstM, habM⟩ := Cond.instanceMethod_spec hinst
  obtain ⟨m8, methM', cM, hn8, hmethM', -, -, -, -, -, -, hsigM⟩ := Cond.codeWith_spec hcode
  cases Option.some.inj (hn8.symm.trans hnamed)
  cases hmethM.symm.trans hmethM'
  obtain ⟨c2, r2, m2, q1, q2, q3, q4, kP, hkP, hkPi⟩ := Cond.selects_spec hsel
  cases hcls.symm.trans q1
  cases (State.methodFound?_of_named hnamed hy).symm.trans q2
  cases hnamed.symm.trans q3
  have hselP : selectMethod e.platform s.vm cellB.cls mk = .method mk := by rw [Launch.admits_selectMethod X.admits]; exact q4
  obtain ⟨vm₁, X₁, hstep₁⟩ := X.invokevirtual hexec hown hlink hnamed hmethM hstM hkP hkPi hy (a := b) (cell := cellB) hcell
    (fun z h => by rw [h] at hobj; cases hobj) hselP hmethM habM hkP hkPi (g := g) hg (argsL := argsL) (rest := rest) (hlen _ hsigM) hstack hdg
  rcases hK m meth c ⟨T.setVm vm₁, locs, cells, slots⟩ { g with stack := rest } (.invokevirtual index) mk (Value.ref b :: argsL).toArray X₁ hg hsize hdg hW (X₁.named hnamed) (hpre vm₁ X₁.warmed) with ⟨v, B, X', hpost, hsteps⟩ | ⟨q, B, X', hpost, hsteps⟩
  · exact Or.inl ⟨v, vm₁, B, X₁.warmed, X', hpost, fun target h => hstep₁ _ fun acts => by rw [doInvoke_state]; exact hsteps.trans h⟩
  · exact Or.inr ⟨q, vm₁, B, X₁.warmed, X', hpost, hstep₁ _ fun acts => by rw [doInvoke_state]; exact hsteps⟩
theorem vx_callSX (X : Stand p l e R s m args below meth c T locs cells slots) (hexec : p.tables.exec = Jvm.exec) {own : String} {index : Nat} {y : MethodName} {bytes : ByteArray} {maxL : Nat} {ret : Option FieldType} {hh : List (Nat × Nat × Nat × Nat)}
    (hown : s.vm.findClass own = some m.cls) (hlink : (Cond.methodLink own index y).before args s = true) (hstat : (Cond.static y).before args s = true) (hinit : (Cond.initialized y.cls).before args s = true)
    (hcode : (Cond.codeWith y bytes maxL ret hh).before args s = true) (hy : y.cls ≠ "java/lang/invoke/MethodHandle" ∧ y.cls ≠ "java/lang/invoke/VarHandle")
    {W9 : Nat} {Pre : Pt → Array Value → Prop} {Post : Pt → Array Value → Option Value → Pt → Prop} {PostX : Pt → Array Value → Addr → Pt → Prop} (hK : vx_Back l R p e below s args y 3 W9 Pre Post PostX)
    {g : JFrame} (hg : g.method = m) (hsize : g.locals.size = c.maxLocals) {argsL rest : List Value} (hlen : ∀ sig, parseMethodDescriptor y.desc = some sig → argsL.length = sig.parameters.length)
    (hstack : g.stack = argsL.reverse ++ rest) (hW : 2 * g.monitorRoom + (rest.map fun v => v.category).sum ≤ W9) (hdg : decode c.code g.pc = .ok (.invokestatic index, 3))
    (hpre : ∀ vm₁, s.WarmedH vm₁ → Pre ⟨T.setVm vm₁, locs, cells, slots⟩ argsL.toArray) :
    (∃ (v : Option Value) (vm₁ : Vm) (B : Pt), s.WarmedH vm₁ ∧ Stand p l e R s m args below meth c B.U B.locs B.cells B.slots ∧ Post ⟨T.setVm vm₁, locs, cells, slots⟩ argsL.toArray v B ∧
      ∀ target, Steps p.tables e below (B.U.setTop { g with pc := g.pc + 3, stack := v.toList ++ rest }) target → Steps p.tables e below (T.setTop g) target) ∨
    (∃ (q : Addr) (vm₁ : Vm) (B : Pt), s.WarmedH vm₁ ∧ Stand p l e R s m args below meth c B.U B.locs B.cells B.slots ∧ PostX ⟨T.setVm vm₁, locs, cells, slots⟩ argsL.toArray q B ∧
      Steps p.tables e below (T.setTop g) ((B.U.setTop { g with stack := rest }).pushFrame (.throwing q))) := by
  obtain ⟨mk, methM, cM, hnamed, hmethM, -, -, -, -, -, -, hsigM⟩ := Cond.codeWith_spec hcode
  have hstatic : methM.isStatic = true := Cond.static_spec hnamed hmethM hstat
  obtain ⟨kP, hkP, -⟩ := className_of_methodNamed hnamed
  have hinitP : kP.init = .initialized := Cond.initialized_spec (findClass_of_methodNamed hnamed) hkP hinit
  obtain ⟨vm₁, X₁, hstep₁⟩ := X.invokestatic hexec hown hlink hnamed hmethM hstatic hkP hinitP hy (g := g) hg (argsL := argsL) (rest := rest) (hlen _ hsigM) hstack hdg
  rcases hK m meth c ⟨T.setVm vm₁, locs, cells, slots⟩ { g with stack := rest } (.invokestatic index) mk argsL.toArray X₁ hg hsize hdg hW (X₁.named hnamed) (hpre vm₁ X₁.warmed) with ⟨v, B, X', hpost, hsteps⟩ | ⟨q, B, X', hpost, hsteps⟩
  · exact Or.inl ⟨v, vm₁, B, X₁.warmed, X', hpost, fun target h => hstep₁ _ fun acts => by rw [doInvoke_state]; exact hsteps.trans h⟩
  · exact Or.inr ⟨q, vm₁, B, X₁.warmed, X', hpost, hstep₁ _ fun acts => by rw [doInvoke_state]; exact hsteps⟩
theorem vx_callVW (X : Stand p l e R s m args below meth c T locs cells slots) (hexec : p.tables.exec = Jvm.exec) {own C : String} {index : Nat} {y : MethodName} {bytes : ByteArray} {maxL : Nat} {ret : Option FieldType} {hh : List (Nat × Nat × Nat × Nat)}
    (hown : s.vm.findClass own = some m.cls) (hlink : (Cond.methodLink own index y).before args s = true) (hinst : (Cond.instanceMethod y).before args s = true) (hsel : (Cond.selects C y y).before args s = true)
    (hcode : (Cond.codeWith y bytes maxL ret hh).before args s = true) (hy : y.cls ≠ "java/lang/invoke/MethodHandle" ∧ y.cls ≠ "java/lang/invoke/VarHandle")
    {W9 : Nat} {Pre : Pt → Array Value → Prop} {Post : Pt → Array Value → Option Value → Pt → Prop} (hK : Back l R p e below s args y 3 W9 Pre Post)
    {b : Addr} {cellB : Cell} (hcell : T.heap[b]? = some cellB) (hobj : cellB.vm.isStatics = false) (hcls : s.vm.findClass C = some cellB.cls)
    {g : JFrame} (hg : g.method = m) (hsize : g.locals.size = c.maxLocals) {argsL rest : List Value} (hlen : ∀ sig, parseMethodDescriptor y.desc = some sig → argsL.length = sig.parameters.length)
    (hstack : g.stack = argsL.reverse ++ .ref b :: rest) (hW : 2 * g.monitorRoom + (rest.map fun v => v.category).sum ≤ W9) (hdg : decode c.code g.pc = .ok (.invokevirtual index, 3))
    (hpre : ∀ vm₁, s.WarmedH vm₁ → Pre ⟨T.setVm vm₁, locs, cells, slots⟩ (Value.ref b :: argsL).toArray) :
    ∃ (v : Option Value) (vm₁ : Vm) (B : Pt), s.WarmedH vm₁ ∧ Stand p l e R s m args below meth c B.U B.locs B.cells B.slots ∧ Post ⟨T.setVm vm₁, locs, cells, slots⟩ (Value.ref b :: argsL).toArray v B ∧
      ∀ target, Steps p.tables e below (B.U.setTop { g with pc := g.pc + 3, stack := v.toList ++ rest }) target → Steps p.tables e below (T.setTop g) target := by
  obtain ⟨mk, methM, hnamed, hmethM, hstM, habM⟩ := Cond.instanceMethod_spec hinst
  obtain ⟨m8, methM', cM, hn8, hmethM', -, -, -, -, -, -, hsigM⟩ := Cond.codeWith_spec hcode
  cases Option.some.inj (hn8.symm.trans hnamed)
  cases hmethM.symm.trans hmethM'
  obtain ⟨c2, r2, m2, q1, q2, q3, q4, kP, hkP, hkPi⟩ := Cond.selects_spec hsel
  cases hcls.symm.trans q1
  cases (State.methodFound?_of_named hnamed hy).symm.trans q2
  cases hnamed.symm.trans q3
  have hselP : selectMethod e.platform s.vm cellB.cls mk = .method mk := by rw [Launch.admits_selectMethod X.admits]; exact q4
  obtain ⟨vm₁, X₁, hstep₁⟩ := X.invokevirtual hexec hown hlink hnamed hmethM hstM hkP hkPi hy (a := b) (cell := cellB) hcell
    (fun z h => by rw [h] at hobj; cases hobj) hselP hmethM habM hkP hkPi (g := g) hg (argsL := argsL) (rest := rest) (hlen _ hsigM) hstack hdg
  obtain ⟨v, B, X', hpost, hsteps⟩ := hK m meth c ⟨T.setVm vm₁, locs, cells, slots⟩ { g with stack := rest } (.invokevirtual index) mk (Value.ref b :: argsL).toArray X₁ hg hsize hdg hW (X₁.named hnamed) (hpre vm₁ X₁.warmed)
  exact ⟨v, vm₁, B, X₁.warmed, X', hpost, fun target h => hstep₁ _ fun acts => by rw [doInvoke_state]; exact hsteps.trans h⟩
abbrev vx_CVW (R : Room) (s : State) (args : Array Value) (own C : String) (index : Nat) (y : MethodName) (bytes : ByteArray) (maxL : Nat) (ret : Option FieldType) (hh : List (Nat × Nat × Nat × Nat)) (ws : List Cond) (rm : Room) (mc ms n : Nat) : Prop :=
  (rm.cells = mc ∧ rm.slots = ms ∧ rm.frames + 1 ≤ R.frames ∧ 8 + (maxL + 11) + rm.locals ≤ R.locals ∧ (∀ w ∈ ws, ∀ (a' : Array Value) (U : State), s.WarmedH U.vm → w.before a' U = true) ∧ Cond.codeWith y bytes maxL ret hh ∈ ws) ∧
  (Cond.codeWith y bytes maxL ret hh).before args s = true ∧ (Cond.initialized y.cls).before args s = true ∧ (y.cls ≠ "java/lang/invoke/MethodHandle" ∧ y.cls ≠ "java/lang/invoke/VarHandle") ∧
  (∀ sig, parseMethodDescriptor y.desc = some sig → n = sig.parameters.length) ∧ (Cond.methodLink own index y).before args s = true ∧ (Cond.instanceMethod y).before args s = true ∧ (Cond.selects C y y).before args s = true
theorem vx_cwVW {own C : String} {index maxL mc ms : Nat} {y : MethodName} {bytes : ByteArray} {ret : Option FieldType} {hh : List (Nat × Nat × Nat × Nat)} {Ts ws ws' : List Cond} {rm : Room} (n : Nat) (ht : ∀ w ∈ Ts, w.before args s = true) (hT : GoodIn Ts (wsV own index C y ws)) (hw : ws = Cond.codeWith y bytes maxL ret hh :: ws') (hrc : rm.cells = mc) (hrs : rm.slots = ms)
    (hd : y.cls = C ∧ y.cls ≠ "java/lang/invoke/MethodHandle" ∧ y.cls ≠ "java/lang/invoke/VarHandle" ∧ (parseMethodDescriptor y.desc).map (fun d => d.parameters.length) = some n) (hR : rm.frames + 1 ≤ R.frames ∧ 8 + (maxL + 11) + rm.locals ≤ R.locals) :
    vx_CVW R s args own C index y bytes maxL ret hh ws rm mc ms n := by
  obtain ⟨hC, hd⟩ := hd
  subst hC
  have ok : ∀ w ∈ wsV own index y.cls y ws, w.before args s = true := fun w h => ht w (hT w h).1
  have hG : GoodIn Ts ws := fun w h => hT w (by unfold wsV; exact List.mem_append_right _ h)
  have hc : Cond.codeWith y bytes maxL ret hh ∈ ws := by rw [hw]; exact List.mem_cons_self
  refine ⟨⟨hrc, hrs, hR.1, hR.2, pay_in ht hG, hc⟩, ht _ (hG _ hc).1, ok _ (by simp [wsV]), ⟨hd.1, hd.2.1⟩, fun sig h => ?_, ok _ (by simp [wsV]), ok _ (by simp [wsV]), ok _ (by simp [wsV])⟩
  have h2 := hd.2.2
  rw [h] at h2
  exact (Option.some.inj h2).symm
theorem vx_runVW {y : MethodName} {bytes cc : ByteArray} {maxL nL mc ms n index : Nat} {ret : Option FieldType} {hh : List (Nat × Nat × Nat × Nat)} {ws : List Cond} {rm : Room} {Pc : Array Value → State → Prop} {Qc : Array Value → State → Outcome → State → Prop} {free : Addr → Prop} {Ts : List Cond} {own C : String} {b : Addr} {As rest : List Value} {g : JFrame}
    (S : CallFix p m c cc nL s args Ts own) (hM : Met l y ws rm Pc Qc mc ms free) (cw : vx_CVW R s args own C index y bytes maxL ret hh ws rm mc ms n) (hp : PreV s H C b Pc As)
    (hg : g.method = m) (hn : As.length = n) (hsize : g.locals.size = nL) (hstack : g.stack = As.reverse ++ .ref b :: rest) (hW : 2 * g.monitorRoom + (rest.map fun v => v.category).sum ≤ 8) (hdg : decode cc g.pc = .ok (.invokevirtual index, 3)) (hf : cells + mc ≤ R.cells ∧ slots + ms ≤ R.slots) :
    va_Run p l e R s m args below meth c H locs cells slots mc ms g rest (Qc (Value.ref b :: As).toArray) free := by
  obtain ⟨⟨hrc, hrs, hfr, hlo, hws, hcw⟩, hcode, hini, hy, hlen, hl, hin, hse⟩ := cw
  have hK : Back l R p e below s args y 3 8 (PreOf R mc ms Pc) (PostOf Qc mc ms free) := va_backW (hh := hh) (bytes := bytes) (maxL := maxL) (ret := ret) hM hp.1 hrc hrs hfr hlo hws hcw (fun a' U hW => word_at hW (Or.inl (by first | rfl | simp [Cond.onTables, Cond.keeps, Cond.steady])) hini)
  obtain ⟨hx, hb, hml, ho, -⟩ := S
  obtain ⟨-, ⟨cellB, hcB, hoB, hclB⟩, hPc⟩ := hp
  intro T hT X
  obtain ⟨v, vm₁, ⟨U', l2, c2, s2⟩, hW₁, X', ⟨g', mk, t, L, e1, e2, hq, h1, hL, h2, h3⟩, st⟩ := vx_callVW X hx (C := C) (hh := hh) (bytes := bytes) (maxL := maxL) (ret := ret) ho hl hin hse hcode hy hK (by rw [hT]; exact hcB) hoB hclB hg (hsize.trans hml.symm) (argsL := As) (rest := rest) (fun sig h => hn.trans (hlen sig h)) hstack hW (by rw [hb]; exact hdg)
    (fun vm₁ hW₁ => ⟨hf.1, hf.2, hPc (T.setVm vm₁) hT hW₁⟩)
  dsimp only [Pt.U, Pt.locs, Pt.cells, Pt.slots] at X' e1 e2 h1 h2 h3 st
  subst h1; subst h2; subst h3
  exact ⟨v, (T.setVm vm₁).calling g' mk (Value.ref b :: As).toArray, t, U', L, hT, X', hL, e1, e2, hq, st⟩
section
variable {y : MethodName} {bytes cc : ByteArray} {maxL nL mc ms n index : Nat} {ret : Option FieldType} {ws : List Cond} {rm : Room} {Pc : Array Value → State → Prop} {Qc : Array Value → State → Outcome → State → Prop} {XC : String → State → State → Prop} {free : Addr → Prop} {Ts : List Cond} {own C : String} {b : Addr} {As rest : List Value} {g : JFrame}
theorem vx_runVX {hh : List (Nat × Nat × Nat × Nat)} (S : CallFix p m c cc nL s args Ts own) (hM : vx_Met l y ws rm Pc Qc XC mc ms free) (cw : vx_CVW R s args own C index y bytes maxL ret hh ws rm mc ms n) (hp : PreV s H C b Pc As)
    (hg : g.method = m) (hn : As.length = n) (hsize : g.locals.size = nL) (hstack : g.stack = As.reverse ++ .ref b :: rest) (hW : 2 * g.monitorRoom + (rest.map fun v => v.category).sum ≤ 8) (hdg : decode cc g.pc = .ok (.invokevirtual index, 3)) (hf : cells + mc ≤ R.cells ∧ slots + ms ≤ R.slots) :
    vx_Run p l e R s m args below meth c H locs cells slots mc ms g rest (Qc (Value.ref b :: As).toArray) XC free := by
  obtain ⟨⟨hrc, hrs, hfr, hlo, hws, hcw⟩, hcode, hini, hy, hlen, hl, hin, hse⟩ := cw
  have hK : vx_Back l R p e below s args y 3 8 (PreOf R mc ms Pc) (PostOf Qc mc ms free) (vx_Post XC mc ms free) := vx_backW (hh := hh) (bytes := bytes) (maxL := maxL) (ret := ret) hM hp.1 hrc hrs hfr hlo hws hcw (fun a' U hW => word_at hW (Or.inl (by first | rfl | simp [Cond.onTables, Cond.keeps, Cond.steady])) hini)
  obtain ⟨hx, hb, hml, ho, -⟩ := S
  obtain ⟨-, ⟨cellB, hcB, hoB, hclB⟩, hPc⟩ := hp
  intro T hT X
  rcases vx_callVX X hx (C := C) (hh := hh) (bytes := bytes) (maxL := maxL) (ret := ret) ho hl hin hse hcode hy hK (by rw [hT]; exact hcB) hoB hclB hg (hsize.trans hml.symm) (argsL := As) (rest := rest) (fun sig h => hn.trans (hlen sig h)) hstack hW (by rw [hb]; exact hdg)
    (fun vm₁ hW₁ => ⟨hf.1, hf.2, hPc (T.setVm vm₁) hT hW₁⟩) with ⟨v, vm₁, ⟨U', l2, c2, s2⟩, hW₁, X', ⟨g', mk, t, L, e1, e2, hq, h1, hL, h2, h3⟩, st⟩ | ⟨q, vm₁, ⟨U', l2, c2, s2⟩, hW₁, X', ⟨g', mk, t, L, E, ce, e1, e2, hq, hce, hcv, hcl, h1, hL, h2, h3⟩, st⟩
  · dsimp only [Pt.U, Pt.locs, Pt.cells, Pt.slots] at X' e1 e2 h1 h2 h3 st
    subst h1; subst h2; subst h3
    exact Or.inl ⟨v, (T.setVm vm₁).calling g' mk (Value.ref b :: As).toArray, t, U', L, hT, X', hL, e1, e2, hq, st⟩
  · dsimp only [Pt.U, Pt.locs, Pt.cells, Pt.slots] at X' e1 e2 h1 h2 h3 st hcl
    subst h1; subst h2; subst h3
    exact Or.inr ⟨q, (T.setVm vm₁).calling g' mk (Value.ref b :: As).toArray, t, U', L, E, ce, hT, X', hL, e1, e2, hq, hce, hcv, vx_cls hW₁ hcl, st⟩
theorem vx_runSX {hh : List (Nat × Nat × Nat × Nat)} (S : CallFix p m c cc nL s args Ts own) (hM : vx_Met l y ws rm Pc Qc XC mc ms free) (cw : vx_CSW R s args own index y bytes maxL ret hh ws rm mc ms n) (hp : PreS s H Pc As)
    (hg : g.method = m) (hn : As.length = n) (hsize : g.locals.size = nL) (hstack : g.stack = As.reverse ++ rest) (hW : 2 * g.monitorRoom + (rest.map fun v => v.category).sum ≤ 8) (hdg : decode cc g.pc = .ok (.invokestatic index, 3)) (hf : cells + mc ≤ R.cells ∧ slots + ms ≤ R.slots) :
    vx_Run p l e R s m args below meth c H locs cells slots mc ms g rest (Qc As.toArray) XC free := by
  obtain ⟨⟨hrc, hrs, hfr, hlo, hws, hcw⟩, hcode, hini, hy, hlen, hl, hstt⟩ := cw
  have hK : vx_Back l R p e below s args y 3 8 (PreOf R mc ms Pc) (PostOf Qc mc ms free) (vx_Post XC mc ms free) := vx_backW (hh := hh) (bytes := bytes) (maxL := maxL) (ret := ret) hM hp.1 hrc hrs hfr hlo hws hcw (fun a' U hW => word_at hW (Or.inl (by first | rfl | simp [Cond.onTables, Cond.keeps, Cond.steady])) hini)
  obtain ⟨hx, hb, hml, ho, -⟩ := S
  intro T hT X
  rcases vx_callSX X hx (hh := hh) (bytes := bytes) (maxL := maxL) (ret := ret) ho hl hstt hini hcode hy hK hg (hsize.trans hml.symm) (argsL := As) (rest := rest) (fun sig h => hn.trans (hlen sig h)) hstack hW (by rw [hb]; exact hdg)
    (fun vm₁ hW₁ => ⟨hf.1, hf.2, hp.2 (T.setVm vm₁) hT hW₁⟩) with ⟨v, vm₁, ⟨U', l2, c2, s2⟩, hW₁, X', ⟨g', mk, t, L, e1, e2, hq, h1, hL, h2, h3⟩, st⟩ | ⟨q, vm₁, ⟨U', l2, c2, s2⟩, hW₁, X', ⟨g', mk, t, L, E, ce, e1, e2, hq, hce, hcv, hcl, h1, hL, h2, h3⟩, st⟩
  · dsimp only [Pt.U, Pt.locs, Pt.cells, Pt.slots] at X' e1 e2 h1 h2 h3 st
    subst h1; subst h2; subst h3
    exact Or.inl ⟨v, (T.setVm vm₁).calling g' mk As.toArray, t, U', L, hT, X', hL, e1, e2, hq, st⟩
  · dsimp only [Pt.U, Pt.locs, Pt.cells, Pt.slots] at X' e1 e2 h1 h2 h3 st hcl
    subst h1; subst h2; subst h3
    exact Or.inr ⟨q, (T.setVm vm₁).calling g' mk As.toArray, t, U', L, E, ce, hT, X', hL, e1, e2, hq, hce, hcv, vx_cls hW₁ hcl, st⟩
end
end VXH
theorem vx_ofWH {l : Launch} {y : MethodName} {ws ws' : List Cond} {rm : Room} {Pc : Array Value → State → Prop} {Qc : Array Value → State → Outcome → State → Prop} {XC : String → State → State → Prop} {mc ms : Nat} {free : Addr → Prop} {cc : ByteArray} {maxL : Nat} {ret : Option FieldType} {hh : List (Nat × Nat × Nat × Nat)}
    (hy : plainName y.cls = true) (hw : ws = Cond.codeWith y cc maxL ret hh :: ws')
    (body : ∀ p e s m args below meth c s₁, BodyLoose p l y (headSpec ws rm) cc maxL ret e s m args below meth c s₁ → c.maxLocals = maxL → Pc args s →
      W p l e (headSpec ws rm).room s m args below meth c s.heap [] 0 0 (vx_MQ below Qc XC args s mc ms free) (entryFrame m args maxL)) : vx_Met l y ws rm Pc Qc XC mc ms free := by
  refine MetFree.of_bodyS (code := cc) (maxLocals := maxL) (ret := ret) hy ?_ ?_
  · intro args s m h hn
    obtain ⟨m9, meth, c, hn9, h1, h2, h3, h4, -, h5, h6, -⟩ := Cond.codeWith_spec (atoms_spec (ws := ws) h _ (by rw [hw]; exact List.mem_cons_self))
    cases hn.symm.trans hn9
    exact ⟨meth, c, h1, h2, h3, h4, h5, h6⟩
  · intro p e s m args below meth c s₁ B hml hP _
    have hh0 : s₁.heap = s.heap := by rw [B.state]; rfl
    obtain ⟨t, a1, o, b1, b2, b3⟩ := body p e s m args below meth c s₁ B hml hP s₁ hh0 (Stand.of_body B)
    exact ⟨t, o, a1, b1, b2, b3⟩
end
section
-- ===== PART A: goes FIRST, ahead of the names: the tables' words, and 'selects' of the private methods out of them =====
/-- a private method of a class that the tables say can be made, by its rows of tables_1 -/
def lw_okq (q : MethodName × Nat) : Prop := (q.1.cls ≠ "java/lang/invoke/MethodHandle" ∧ q.1.cls ≠ "java/lang/invoke/VarHandle") ∧ Cond.instantiable q.1.cls q.2 ∈ tables_1 ∧ Cond.privateMethod q.1 ∈ tables_1 ∧ Cond.instanceMethod q.1 ∈ tables_1
theorem lw_p0 : lw_okq (⟨"java/lang/Throwable", "fillInStackTrace", "(I)Ljava/lang/Throwable;"⟩, 6) := ⟨⟨by decide +kernel, by decide +kernel⟩, List.mem_of_getElem? (i := 150) (by decide +kernel), List.mem_of_getElem? (i := 148) (by decide +kernel), List.mem_of_getElem? (i := 149) (by decide +kernel)⟩
theorem lw_p1 : lw_okq (⟨"LeafMatches", "isNumberTaken", "(II)Z"⟩, 6) := ⟨⟨by decide +kernel, by decide +kernel⟩, List.mem_of_getElem? (i := 25) (by decide +kernel), List.mem_of_getElem? (i := 180) (by decide +kernel), List.mem_of_getElem? (i := 181) (by decide +kernel)⟩
theorem lw_p2 : lw_okq (⟨"LeafMatches", "leafOrNull", "(I)LLeafMatches$Leaf;"⟩, 6) := ⟨⟨by decide +kernel, by decide +kernel⟩, List.mem_of_getElem? (i := 25) (by decide +kernel), List.mem_of_getElem? (i := 259) (by decide +kernel), List.mem_of_getElem? (i := 260) (by decide +kernel)⟩
theorem lw_p3 : lw_okq (⟨"LeafMatches", "leastFlitchWith", "(I)I"⟩, 6) := ⟨⟨by decide +kernel, by decide +kernel⟩, List.mem_of_getElem? (i := 25) (by decide +kernel), List.mem_of_getElem? (i := 306) (by decide +kernel), List.mem_of_getElem? (i := 307) (by decide +kernel)⟩
theorem lw_p4 : lw_okq (⟨"LeafMatches", "countFree", "(I)I"⟩, 6) := ⟨⟨by decide +kernel, by decide +kernel⟩, List.mem_of_getElem? (i := 25) (by decide +kernel), List.mem_of_getElem? (i := 310) (by decide +kernel), List.mem_of_getElem? (i := 311) (by decide +kernel)⟩
theorem lw_p5 : lw_okq (⟨"LeafMatches", "gatherFree", "(I)I"⟩, 6) := ⟨⟨by decide +kernel, by decide +kernel⟩, List.mem_of_getElem? (i := 25) (by decide +kernel), List.mem_of_getElem? (i := 321) (by decide +kernel), List.mem_of_getElem? (i := 322) (by decide +kernel)⟩
theorem lw_p6 : lw_okq (⟨"LeafMatches", "isBroken", "(I)Z"⟩, 6) := ⟨⟨by decide +kernel, by decide +kernel⟩, List.mem_of_getElem? (i := 25) (by decide +kernel), List.mem_of_getElem? (i := 325) (by decide +kernel), List.mem_of_getElem? (i := 326) (by decide +kernel)⟩
theorem lw_p7 : lw_okq (⟨"LeafMatches", "faceOrNull", "(I)LLeafMatches$Face;"⟩, 6) := ⟨⟨by decide +kernel, by decide +kernel⟩, List.mem_of_getElem? (i := 25) (by decide +kernel), List.mem_of_getElem? (i := 389) (by decide +kernel), List.mem_of_getElem? (i := 390) (by decide +kernel)⟩
theorem lw_p8 : lw_okq (⟨"LeafMatches$Planner", "makeRoom", "(I)V"⟩, 9) := ⟨⟨by decide +kernel, by decide +kernel⟩, List.mem_of_getElem? (i := 37) (by decide +kernel), List.mem_of_getElem? (i := 749) (by decide +kernel), List.mem_of_getElem? (i := 750) (by decide +kernel)⟩
theorem lw_p9 : lw_okq (⟨"LeafMatches$Planner", "findRows", "([LLeafMatches$Leaf;I)V"⟩, 9) := ⟨⟨by decide +kernel, by decide +kernel⟩, List.mem_of_getElem? (i := 37) (by decide +kernel), List.mem_of_getElem? (i := 757) (by decide +kernel), List.mem_of_getElem? (i := 758) (by decide +kernel)⟩
theorem lw_p10 : lw_okq (⟨"LeafMatches$Planner", "findRow", "([LLeafMatches$Leaf;III)V"⟩, 9) := ⟨⟨by decide +kernel, by decide +kernel⟩, List.mem_of_getElem? (i := 37) (by decide +kernel), List.mem_of_getElem? (i := 761) (by decide +kernel), List.mem_of_getElem? (i := 762) (by decide +kernel)⟩
theorem lw_p11 : lw_okq (⟨"LeafMatches$Planner", "findLeastLoss", "(I)V"⟩, 9) := ⟨⟨by decide +kernel, by decide +kernel⟩, List.mem_of_getElem? (i := 37) (by decide +kernel), List.mem_of_getElem? (i := 766) (by decide +kernel), List.mem_of_getElem? (i := 767) (by decide +kernel)⟩
theorem lw_p12 : lw_okq (⟨"LeafMatches$Planner", "lowerByFace", "(II)V"⟩, 9) := ⟨⟨by decide +kernel, by decide +kernel⟩, List.mem_of_getElem? (i := 37) (by decide +kernel), List.mem_of_getElem? (i := 771) (by decide +kernel), List.mem_of_getElem? (i := 772) (by decide +kernel)⟩
theorem lw_p13 : lw_okq (⟨"LeafMatches$Planner", "keepPlan", "([LLeafMatches$Leaf;I)V"⟩, 9) := ⟨⟨by decide +kernel, by decide +kernel⟩, List.mem_of_getElem? (i := 37) (by decide +kernel), List.mem_of_getElem? (i := 776) (by decide +kernel), List.mem_of_getElem? (i := 777) (by decide +kernel)⟩
theorem lw_p14 : lw_okq (⟨"LeafMatches$Planner", "faceBegunAt", "(II)I"⟩, 9) := ⟨⟨by decide +kernel, by decide +kernel⟩, List.mem_of_getElem? (i := 37) (by decide +kernel), List.mem_of_getElem? (i := 780) (by decide +kernel), List.mem_of_getElem? (i := 781) (by decide +kernel)⟩
theorem lw_p15 : lw_okq (⟨"LeafMatchesModel", "fillRow", "(I)V"⟩, 22) := ⟨⟨by decide +kernel, by decide +kernel⟩, List.mem_of_getElem? (i := 794) (by decide +kernel), List.mem_of_getElem? (i := 891) (by decide +kernel), List.mem_of_getElem? (i := 892) (by decide +kernel)⟩
def lw_privs_1 : List (MethodName × Nat) := [(⟨"java/lang/Throwable", "fillInStackTrace", "(I)Ljava/lang/Throwable;"⟩, 6), (⟨"LeafMatches", "isNumberTaken", "(II)Z"⟩, 6), (⟨"LeafMatches", "leafOrNull", "(I)LLeafMatches$Leaf;"⟩, 6), (⟨"LeafMatches", "leastFlitchWith", "(I)I"⟩, 6), (⟨"LeafMatches", "countFree", "(I)I"⟩, 6), (⟨"LeafMatches", "gatherFree", "(I)I"⟩, 6), (⟨"LeafMatches", "isBroken", "(I)Z"⟩, 6), (⟨"LeafMatches", "faceOrNull", "(I)LLeafMatches$Face;"⟩, 6), (⟨"LeafMatches$Planner", "makeRoom", "(I)V"⟩, 9), (⟨"LeafMatches$Planner", "findRows", "([LLeafMatches$Leaf;I)V"⟩, 9), (⟨"LeafMatches$Planner", "findRow", "([LLeafMatches$Leaf;III)V"⟩, 9), (⟨"LeafMatches$Planner", "findLeastLoss", "(I)V"⟩, 9), (⟨"LeafMatches$Planner", "lowerByFace", "(II)V"⟩, 9), (⟨"LeafMatches$Planner", "keepPlan", "([LLeafMatches$Leaf;I)V"⟩, 9), (⟨"LeafMatches$Planner", "faceBegunAt", "(II)I"⟩, 9), (⟨"LeafMatchesModel", "fillRow", "(I)V"⟩, 22)]
theorem lw_r1 : ∀ q ∈ lw_privs_1, lw_okq q := List.forall_mem_cons.mpr ⟨lw_p0, List.forall_mem_cons.mpr ⟨lw_p1, List.forall_mem_cons.mpr ⟨lw_p2, List.forall_mem_cons.mpr ⟨lw_p3, List.forall_mem_cons.mpr ⟨lw_p4, List.forall_mem_cons.mpr ⟨lw_p5, List.forall_mem_cons.mpr ⟨lw_p6, List.forall_mem_cons.mpr ⟨lw_p7, List.forall_mem_cons.mpr ⟨lw_p8, List.forall_mem_cons.mpr ⟨lw_p9, List.forall_mem_cons.mpr ⟨lw_p10, List.forall_mem_cons.mpr ⟨lw_p11, List.forall_mem_cons.mpr ⟨lw_p12, List.forall_mem_cons.mpr ⟨lw_p13, List.forall_mem_cons.mpr ⟨lw_p14, List.forall_mem_cons.mpr ⟨lw_p15, fun _ h => absurd h List.not_mem_nil⟩⟩⟩⟩⟩⟩⟩⟩⟩⟩⟩⟩⟩⟩⟩⟩
theorem lw_p16 : lw_okq (⟨"LeafMatchesModel", "noFace", "(I)Z"⟩, 22) := ⟨⟨by decide +kernel, by decide +kernel⟩, List.mem_of_getElem? (i := 794) (by decide +kernel), List.mem_of_getElem? (i := 899) (by decide +kernel), List.mem_of_getElem? (i := 900) (by decide +kernel)⟩
theorem lw_p17 : lw_okq (⟨"LeafMatchesModel", "noPiece", "(II)Z"⟩, 22) := ⟨⟨by decide +kernel, by decide +kernel⟩, List.mem_of_getElem? (i := 794) (by decide +kernel), List.mem_of_getElem? (i := 907) (by decide +kernel), List.mem_of_getElem? (i := 908) (by decide +kernel)⟩
theorem lw_p18 : lw_okq (⟨"LeafMatchesModel", "isMirrored", "(II)Z"⟩, 22) := ⟨⟨by decide +kernel, by decide +kernel⟩, List.mem_of_getElem? (i := 794) (by decide +kernel), List.mem_of_getElem? (i := 911) (by decide +kernel), List.mem_of_getElem? (i := 912) (by decide +kernel)⟩
theorem lw_p19 : lw_okq (⟨"LeafMatchesModel", "isTurned", "(II)Z"⟩, 22) := ⟨⟨by decide +kernel, by decide +kernel⟩, List.mem_of_getElem? (i := 794) (by decide +kernel), List.mem_of_getElem? (i := 915) (by decide +kernel), List.mem_of_getElem? (i := 916) (by decide +kernel)⟩
theorem lw_p20 : lw_okq (⟨"LeafMatchesModel", "across", "(II)I"⟩, 22) := ⟨⟨by decide +kernel, by decide +kernel⟩, List.mem_of_getElem? (i := 794) (by decide +kernel), List.mem_of_getElem? (i := 919) (by decide +kernel), List.mem_of_getElem? (i := 920) (by decide +kernel)⟩
theorem lw_p21 : lw_okq (⟨"LeafMatchesModel", "wide", "(II)I"⟩, 22) := ⟨⟨by decide +kernel, by decide +kernel⟩, List.mem_of_getElem? (i := 794) (by decide +kernel), List.mem_of_getElem? (i := 923) (by decide +kernel), List.mem_of_getElem? (i := 924) (by decide +kernel)⟩
theorem lw_p22 : lw_okq (⟨"LeafMatchesModel", "topOf", "(II)I"⟩, 22) := ⟨⟨by decide +kernel, by decide +kernel⟩, List.mem_of_getElem? (i := 794) (by decide +kernel), List.mem_of_getElem? (i := 927) (by decide +kernel), List.mem_of_getElem? (i := 928) (by decide +kernel)⟩
theorem lw_p23 : lw_okq (⟨"LeafMatchesModel", "high", "(II)I"⟩, 22) := ⟨⟨by decide +kernel, by decide +kernel⟩, List.mem_of_getElem? (i := 794) (by decide +kernel), List.mem_of_getElem? (i := 931) (by decide +kernel), List.mem_of_getElem? (i := 932) (by decide +kernel)⟩
theorem lw_p24 : lw_okq (⟨"LeafMatchesModel", "shiftOf", "(II)I"⟩, 22) := ⟨⟨by decide +kernel, by decide +kernel⟩, List.mem_of_getElem? (i := 794) (by decide +kernel), List.mem_of_getElem? (i := 935) (by decide +kernel), List.mem_of_getElem? (i := 936) (by decide +kernel)⟩
theorem lw_p25 : lw_okq (⟨"LeafMatchesModel", "sumAt", "(III)I"⟩, 22) := ⟨⟨by decide +kernel, by decide +kernel⟩, List.mem_of_getElem? (i := 794) (by decide +kernel), List.mem_of_getElem? (i := 939) (by decide +kernel), List.mem_of_getElem? (i := 940) (by decide +kernel)⟩
theorem lw_p26 : lw_okq (⟨"LeafMatchesModel", "leftOf", "(II)I"⟩, 22) := ⟨⟨by decide +kernel, by decide +kernel⟩, List.mem_of_getElem? (i := 794) (by decide +kernel), List.mem_of_getElem? (i := 943) (by decide +kernel), List.mem_of_getElem? (i := 944) (by decide +kernel)⟩
theorem lw_p27 : lw_okq (⟨"LeafMatchesModel", "grey", "(IIII)I"⟩, 22) := ⟨⟨by decide +kernel, by decide +kernel⟩, List.mem_of_getElem? (i := 794) (by decide +kernel), List.mem_of_getElem? (i := 947) (by decide +kernel), List.mem_of_getElem? (i := 948) (by decide +kernel)⟩
theorem lw_p28 : lw_okq (⟨"LeafMatchesModel", "leastTop", "(I)I"⟩, 22) := ⟨⟨by decide +kernel, by decide +kernel⟩, List.mem_of_getElem? (i := 794) (by decide +kernel), List.mem_of_getElem? (i := 955) (by decide +kernel), List.mem_of_getElem? (i := 956) (by decide +kernel)⟩
theorem lw_p29 : lw_okq (⟨"LeafMatchesModel", "wideOf", "(I)I"⟩, 22) := ⟨⟨by decide +kernel, by decide +kernel⟩, List.mem_of_getElem? (i := 794) (by decide +kernel), List.mem_of_getElem? (i := 964) (by decide +kernel), List.mem_of_getElem? (i := 965) (by decide +kernel)⟩
theorem lw_p30 : lw_okq (⟨"LeafMatchesModel", "noSeam", "(II)Z"⟩, 22) := ⟨⟨by decide +kernel, by decide +kernel⟩, List.mem_of_getElem? (i := 794) (by decide +kernel), List.mem_of_getElem? (i := 972) (by decide +kernel), List.mem_of_getElem? (i := 973) (by decide +kernel)⟩
theorem lw_p31 : lw_okq (⟨"LeafMatchesModel", "seams", "(I)I"⟩, 22) := ⟨⟨by decide +kernel, by decide +kernel⟩, List.mem_of_getElem? (i := 794) (by decide +kernel), List.mem_of_getElem? (i := 976) (by decide +kernel), List.mem_of_getElem? (i := 977) (by decide +kernel)⟩
def lw_privs_2 : List (MethodName × Nat) := [(⟨"LeafMatchesModel", "noFace", "(I)Z"⟩, 22), (⟨"LeafMatchesModel", "noPiece", "(II)Z"⟩, 22), (⟨"LeafMatchesModel", "isMirrored", "(II)Z"⟩, 22), (⟨"LeafMatchesModel", "isTurned", "(II)Z"⟩, 22), (⟨"LeafMatchesModel", "across", "(II)I"⟩, 22), (⟨"LeafMatchesModel", "wide", "(II)I"⟩, 22), (⟨"LeafMatchesModel", "topOf", "(II)I"⟩, 22), (⟨"LeafMatchesModel", "high", "(II)I"⟩, 22), (⟨"LeafMatchesModel", "shiftOf", "(II)I"⟩, 22), (⟨"LeafMatchesModel", "sumAt", "(III)I"⟩, 22), (⟨"LeafMatchesModel", "leftOf", "(II)I"⟩, 22), (⟨"LeafMatchesModel", "grey", "(IIII)I"⟩, 22), (⟨"LeafMatchesModel", "leastTop", "(I)I"⟩, 22), (⟨"LeafMatchesModel", "wideOf", "(I)I"⟩, 22), (⟨"LeafMatchesModel", "noSeam", "(II)Z"⟩, 22), (⟨"LeafMatchesModel", "seams", "(I)I"⟩, 22)]
theorem lw_r2 : ∀ q ∈ lw_privs_2, lw_okq q := List.forall_mem_cons.mpr ⟨lw_p16, List.forall_mem_cons.mpr ⟨lw_p17, List.forall_mem_cons.mpr ⟨lw_p18, List.forall_mem_cons.mpr ⟨lw_p19, List.forall_mem_cons.mpr ⟨lw_p20, List.forall_mem_cons.mpr ⟨lw_p21, List.forall_mem_cons.mpr ⟨lw_p22, List.forall_mem_cons.mpr ⟨lw_p23, List.forall_mem_cons.mpr ⟨lw_p24, List.forall_mem_cons.mpr ⟨lw_p25, List.forall_mem_cons.mpr ⟨lw_p26, List.forall_mem_cons.mpr ⟨lw_p27, List.forall_mem_cons.mpr ⟨lw_p28, List.forall_mem_cons.mpr ⟨lw_p29, List.forall_mem_cons.mpr ⟨lw_p30, List.forall_mem_cons.mpr ⟨lw_p31, fun _ h => absurd h List.not_mem_nil⟩⟩⟩⟩⟩⟩⟩⟩⟩⟩⟩⟩⟩⟩⟩⟩
theorem lw_p32 : lw_okq (⟨"LeafMatchesModel", "writeNumber", "(II)I"⟩, 22) := ⟨⟨by decide +kernel, by decide +kernel⟩, List.mem_of_getElem? (i := 794) (by decide +kernel), List.mem_of_getElem? (i := 996) (by decide +kernel), List.mem_of_getElem? (i := 997) (by decide +kernel)⟩
theorem lw_p33 : lw_okq (⟨"LeafMatchesModel", "lossWith", "(III)I"⟩, 22) := ⟨⟨by decide +kernel, by decide +kernel⟩, List.mem_of_getElem? (i := 794) (by decide +kernel), List.mem_of_getElem? (i := 1013) (by decide +kernel), List.mem_of_getElem? (i := 1014) (by decide +kernel)⟩
theorem lw_p34 : lw_okq (⟨"LeafMatchesModel", "manyFrom", "(II)I"⟩, 22) := ⟨⟨by decide +kernel, by decide +kernel⟩, List.mem_of_getElem? (i := 794) (by decide +kernel), List.mem_of_getElem? (i := 1017) (by decide +kernel), List.mem_of_getElem? (i := 1018) (by decide +kernel)⟩
theorem lw_p35 : lw_okq (⟨"LeafMatchesModel", "lossFrom", "(III)I"⟩, 22) := ⟨⟨by decide +kernel, by decide +kernel⟩, List.mem_of_getElem? (i := 794) (by decide +kernel), List.mem_of_getElem? (i := 1021) (by decide +kernel), List.mem_of_getElem? (i := 1022) (by decide +kernel)⟩
theorem lw_p36 : lw_okq (⟨"LeafMatchesModel", "walk", "(I)V"⟩, 22) := ⟨⟨by decide +kernel, by decide +kernel⟩, List.mem_of_getElem? (i := 794) (by decide +kernel), List.mem_of_getElem? (i := 1025) (by decide +kernel), List.mem_of_getElem? (i := 1026) (by decide +kernel)⟩
def lw_privs_3 : List (MethodName × Nat) := [(⟨"LeafMatchesModel", "writeNumber", "(II)I"⟩, 22), (⟨"LeafMatchesModel", "lossWith", "(III)I"⟩, 22), (⟨"LeafMatchesModel", "manyFrom", "(II)I"⟩, 22), (⟨"LeafMatchesModel", "lossFrom", "(III)I"⟩, 22), (⟨"LeafMatchesModel", "walk", "(I)V"⟩, 22)]
theorem lw_r3 : ∀ q ∈ lw_privs_3, lw_okq q := List.forall_mem_cons.mpr ⟨lw_p32, List.forall_mem_cons.mpr ⟨lw_p33, List.forall_mem_cons.mpr ⟨lw_p34, List.forall_mem_cons.mpr ⟨lw_p35, List.forall_mem_cons.mpr ⟨lw_p36, fun _ h => absurd h List.not_mem_nil⟩⟩⟩⟩⟩
def lw_privs : List (MethodName × Nat) := lw_privs_1 ++ (lw_privs_2 ++ (lw_privs_3))
def lw_tbl : List Cond := k2_sels lw_privs ++ tables_1
theorem lw_privs_ok : ∀ q ∈ lw_privs, lw_okq q := by
  show ∀ q ∈ lw_privs_1 ++ (lw_privs_2 ++ (lw_privs_3)), lw_okq q
  exact List.forall_mem_append.mpr ⟨lw_r1, List.forall_mem_append.mpr ⟨lw_r2, lw_r3⟩⟩
def wA : List Cond := lw_tbl.filter goodWord
theorem wA_in {w : Cond} (h : w ∈ lw_tbl) (g : goodWord w = true) : w ∈ wA := List.mem_filter.mpr ⟨h, g⟩
theorem ku_0 {w : Cond} (i : Nat) (h : (k2_sels lw_privs)[i]? = some w) (g : goodWord w = true) : w ∈ wA := wA_in (List.mem_append_left _ (List.mem_of_getElem? h)) g
theorem ku_1 {w : Cond} (i : Nat) (h : tables_1_1[i]? = some w) (g : goodWord w = true) : w ∈ wA := wA_in (List.mem_append_right _ (show w ∈ tables_1 from List.mem_append_left _ (List.mem_of_getElem? h))) g
theorem ku_2 {w : Cond} (i : Nat) (h : tables_1_2[i]? = some w) (g : goodWord w = true) : w ∈ wA := wA_in (List.mem_append_right _ (show w ∈ tables_1 from List.mem_append_right _ (List.mem_append_left _ (List.mem_of_getElem? h)))) g
theorem ku_3 {w : Cond} (i : Nat) (h : tables_1_3[i]? = some w) (g : goodWord w = true) : w ∈ wA := wA_in (List.mem_append_right _ (show w ∈ tables_1 from List.mem_append_right _ (List.mem_append_right _ (List.mem_append_left _ (List.mem_of_getElem? h))))) g
theorem ku_4 {w : Cond} (i : Nat) (h : tables_1_4[i]? = some w) (g : goodWord w = true) : w ∈ wA := wA_in (List.mem_append_right _ (show w ∈ tables_1 from List.mem_append_right _ (List.mem_append_right _ (List.mem_append_right _ (List.mem_append_left _ (List.mem_of_getElem? h)))))) g
theorem ku_5 {w : Cond} (i : Nat) (h : tables_1_5[i]? = some w) (g : goodWord w = true) : w ∈ wA := wA_in (List.mem_append_right _ (show w ∈ tables_1 from List.mem_append_right _ (List.mem_append_right _ (List.mem_append_right _ (List.mem_append_right _ (List.mem_of_getElem? h)))))) g
abbrev xws (y : MethodName) (b : ByteArray) (n : Nat) (ret : Option FieldType) : List Cond := Cond.code y b n ret :: wA
def R_LM : String := "LeafMatches"
def R_Leaf : String := "LeafMatches$Leaf"
def R_Piece : String := "LeafMatches$Piece"
def R_Face : String := "LeafMatches$Face"
def R_Plan : String := "LeafMatches$Planner"
def R_Mod : String := "LeafMatchesModel"
def R_Law : String := "LeafMatchesLaw"
def F_LM : u_T := fun k => match k with
  | 0 => ("LeafMatches", "leaves", "[LLeafMatches$Leaf;", true)
  | 1 => ("LeafMatches", "leafCount", "I", false)
  | 2 => ("LeafMatches", "madeFaces", "[LLeafMatches$Face;", true)
  | 3 => ("LeafMatches", "faceCount", "I", false)
  | 4 => ("LeafMatches", "planner", "LLeafMatches$Planner;", true)
  | _ => ("LeafMatches", "free", "[LLeafMatches$Leaf;", true)
def t_LM : Nat → FieldType := fun k => match k with
  | 0 => (.array (.object "LeafMatches$Leaf"))
  | 1 => .int
  | 2 => (.array (.object "LeafMatches$Face"))
  | 3 => .int
  | 4 => (.object "LeafMatches$Planner")
  | _ => (.array (.object "LeafMatches$Leaf"))
theorem n_LM : ∀ a, a < 6 → ∀ b, b < 6 → a ≠ b → (F_LM a).2.1 ≠ (F_LM b).2.1 := by decide +kernel
theorem t_LM_ok : ∀ k, k < 6 → parseFieldDescriptor (F_LM k).2.2.1 = some (t_LM k) := by decide +kernel
set_option maxRecDepth 20000 in
theorem il_LM : ∀ w ∈ u_ws R_LM F_LM 6, w ∈ lw_tbl := by decide +kernel
theorem i_LM : ∀ w ∈ u_ws R_LM F_LM 6, w ∈ wA := fun w hw => wA_in (il_LM w hw) (List.all_eq_true.mp (show (u_ws R_LM F_LM 6).all goodWord = true from rfl) w hw)
def F_Leaf : u_T := fun k => match k with
  | 0 => ("LeafMatches$Leaf", "index", "I", true)
  | 1 => ("LeafMatches$Leaf", "flitch", "I", true)
  | 2 => ("LeafMatches$Leaf", "number", "I", true)
  | 3 => ("LeafMatches$Leaf", "width", "I", true)
  | 4 => ("LeafMatches$Leaf", "height", "I", true)
  | 5 => ("LeafMatches$Leaf", "greys", "[I", true)
  | 6 => ("LeafMatches$Leaf", "order", "I", false)
  | _ => ("LeafMatches$Leaf", "used", "Z", false)
def t_Leaf : Nat → FieldType := fun k => match k with
  | 0 => .int
  | 1 => .int
  | 2 => .int
  | 3 => .int
  | 4 => .int
  | 5 => (.array .int)
  | 6 => .int
  | _ => .boolean
theorem n_Leaf : ∀ a, a < 8 → ∀ b, b < 8 → a ≠ b → (F_Leaf a).2.1 ≠ (F_Leaf b).2.1 := by decide +kernel
theorem t_Leaf_ok : ∀ k, k < 8 → parseFieldDescriptor (F_Leaf k).2.2.1 = some (t_Leaf k) := by decide +kernel
set_option maxRecDepth 20000 in
theorem il_Leaf : ∀ w ∈ u_ws R_Leaf F_Leaf 8, w ∈ lw_tbl := by decide +kernel
theorem i_Leaf : ∀ w ∈ u_ws R_Leaf F_Leaf 8, w ∈ wA := fun w hw => wA_in (il_Leaf w hw) (List.all_eq_true.mp (show (u_ws R_Leaf F_Leaf 8).all goodWord = true from rfl) w hw)
def F_Piece : u_T := fun k => match k with
  | 0 => ("LeafMatches$Piece", "leaf", "LLeafMatches$Leaf;", true)
  | 1 => ("LeafMatches$Piece", "isMirrored", "Z", true)
  | 2 => ("LeafMatches$Piece", "isTurned", "Z", true)
  | 3 => ("LeafMatches$Piece", "begin", "I", false)
  | _ => ("LeafMatches$Piece", "top", "I", false)
def t_Piece : Nat → FieldType := fun k => match k with
  | 0 => (.object "LeafMatches$Leaf")
  | 1 => .boolean
  | 2 => .boolean
  | 3 => .int
  | _ => .int
theorem n_Piece : ∀ a, a < 5 → ∀ b, b < 5 → a ≠ b → (F_Piece a).2.1 ≠ (F_Piece b).2.1 := by decide +kernel
theorem t_Piece_ok : ∀ k, k < 5 → parseFieldDescriptor (F_Piece k).2.2.1 = some (t_Piece k) := by decide +kernel
set_option maxRecDepth 20000 in
theorem il_Piece : ∀ w ∈ u_ws R_Piece F_Piece 5, w ∈ lw_tbl := by decide +kernel
theorem i_Piece : ∀ w ∈ u_ws R_Piece F_Piece 5, w ∈ wA := fun w hw => wA_in (il_Piece w hw) (List.all_eq_true.mp (show (u_ws R_Piece F_Piece 5).all goodWord = true from rfl) w hw)
def F_Face : u_T := fun k => match k with
  | 0 => ("LeafMatches$Face", "kind", "I", true)
  | _ => ("LeafMatches$Face", "pieces", "[LLeafMatches$Piece;", true)
def t_Face : Nat → FieldType := fun k => match k with
  | 0 => .int
  | _ => (.array (.object "LeafMatches$Piece"))
theorem n_Face : ∀ a, a < 2 → ∀ b, b < 2 → a ≠ b → (F_Face a).2.1 ≠ (F_Face b).2.1 := by decide +kernel
theorem t_Face_ok : ∀ k, k < 2 → parseFieldDescriptor (F_Face k).2.2.1 = some (t_Face k) := by decide +kernel
set_option maxRecDepth 20000 in
theorem il_Face : ∀ w ∈ u_ws R_Face F_Face 2, w ∈ lw_tbl := by decide +kernel
theorem i_Face : ∀ w ∈ u_ws R_Face F_Face 2, w ∈ wA := fun w hw => wA_in (il_Face w hw) (List.all_eq_true.mp (show (u_ws R_Face F_Face 2).all goodWord = true from rfl) w hw)
def F_Plan : u_T := fun k => match k with
  | 0 => ("LeafMatches$Planner", "wanted", "[I", true)
  | 1 => ("LeafMatches$Planner", "wantedCount", "I", false)
  | 2 => ("LeafMatches$Planner", "isFound", "Z", false)
  | 3 => ("LeafMatches$Planner", "firstLeaf", "[I", true)
  | 4 => ("LeafMatches$Planner", "rowLength", "[I", true)
  | 5 => ("LeafMatches$Planner", "rowEnd", "[I", false)
  | 6 => ("LeafMatches$Planner", "rowLoss", "[I", false)
  | 7 => ("LeafMatches$Planner", "leastLoss", "[I", false)
  | _ => ("LeafMatches$Planner", "sets", "I", false)
def t_Plan : Nat → FieldType := fun k => match k with
  | 0 => (.array .int)
  | 1 => .int
  | 2 => .boolean
  | 3 => (.array .int)
  | 4 => (.array .int)
  | 5 => (.array .int)
  | 6 => (.array .int)
  | 7 => (.array .int)
  | _ => .int
theorem n_Plan : ∀ a, a < 9 → ∀ b, b < 9 → a ≠ b → (F_Plan a).2.1 ≠ (F_Plan b).2.1 := by decide +kernel
theorem t_Plan_ok : ∀ k, k < 9 → parseFieldDescriptor (F_Plan k).2.2.1 = some (t_Plan k) := by decide +kernel
set_option maxRecDepth 20000 in
theorem il_Plan : ∀ w ∈ u_ws R_Plan F_Plan 9, w ∈ lw_tbl := by decide +kernel
theorem i_Plan : ∀ w ∈ u_ws R_Plan F_Plan 9, w ∈ wA := fun w hw => wA_in (il_Plan w hw) (List.all_eq_true.mp (show (u_ws R_Plan F_Plan 9).all goodWord = true from rfl) w hw)
def F_Mod : u_T := fun k => match k with
  | 0 => ("LeafMatchesModel", "code", "I", false)
  | 1 => ("LeafMatchesModel", "leaves", "I", false)
  | 2 => ("LeafMatchesModel", "flitches", "[I", true)
  | 3 => ("LeafMatchesModel", "numbers", "[I", true)
  | 4 => ("LeafMatchesModel", "wides", "[I", true)
  | 5 => ("LeafMatchesModel", "highs", "[I", true)
  | 6 => ("LeafMatchesModel", "orders", "[I", true)
  | 7 => ("LeafMatchesModel", "used", "[Z", true)
  | 8 => ("LeafMatchesModel", "greys", "[I", true)
  | 9 => ("LeafMatchesModel", "faces", "I", false)
  | 10 => ("LeafMatchesModel", "kinds", "[I", true)
  | 11 => ("LeafMatchesModel", "sizes", "[I", true)
  | 12 => ("LeafMatchesModel", "pieces", "[I", true)
  | 13 => ("LeafMatchesModel", "wants", "I", false)
  | 14 => ("LeafMatchesModel", "wanted", "[I", true)
  | 15 => ("LeafMatchesModel", "planned", "Z", false)
  | 16 => ("LeafMatchesModel", "planFirst", "[I", true)
  | 17 => ("LeafMatchesModel", "planMany", "[I", true)
  | 18 => ("LeafMatchesModel", "rowSize", "I", false)
  | 19 => ("LeafMatchesModel", "row", "[I", true)
  | 20 => ("LeafMatchesModel", "least", "[I", true)
  | _ => ("LeafMatchesModel", "text", "[I", true)
def t_Mod : Nat → FieldType := fun k => match k with
  | 0 => .int
  | 1 => .int
  | 2 => (.array .int)
  | 3 => (.array .int)
  | 4 => (.array .int)
  | 5 => (.array .int)
  | 6 => (.array .int)
  | 7 => (.array .boolean)
  | 8 => (.array .int)
  | 9 => .int
  | 10 => (.array .int)
  | 11 => (.array .int)
  | 12 => (.array .int)
  | 13 => .int
  | 14 => (.array .int)
  | 15 => .boolean
  | 16 => (.array .int)
  | 17 => (.array .int)
  | 18 => .int
  | 19 => (.array .int)
  | 20 => (.array .int)
  | _ => (.array .int)
theorem n_Mod : ∀ a, a < 22 → ∀ b, b < 22 → a ≠ b → (F_Mod a).2.1 ≠ (F_Mod b).2.1 := by decide +kernel
theorem t_Mod_ok : ∀ k, k < 22 → parseFieldDescriptor (F_Mod k).2.2.1 = some (t_Mod k) := by decide +kernel
set_option maxRecDepth 20000 in
theorem il_Mod : ∀ w ∈ u_ws R_Mod F_Mod 22, w ∈ lw_tbl := by decide +kernel
theorem i_Mod : ∀ w ∈ u_ws R_Mod F_Mod 22, w ∈ wA := fun w hw => wA_in (il_Mod w hw) (List.all_eq_true.mp (show (u_ws R_Mod F_Mod 22).all goodWord = true from rfl) w hw)
abbrev vwCl : List vw_C := [(R_LM, F_LM, 6), (R_Leaf, F_Leaf, 8), (R_Piece, F_Piece, 5), (R_Face, F_Face, 2), (R_Plan, F_Plan, 9), (R_Mod, F_Mod, 22)]
abbrev xaty : List FieldType := [.int, .object "LeafMatches$Leaf", .object "LeafMatches$Face", .object "LeafMatches$Piece", .boolean, .long]
def xnw : List Cond := [(Jvm.Cond.castable "java/lang/IllegalStateException" "java/lang/IllegalStateException"), (Jvm.Cond.declares ({ cls := "java/lang/RuntimeException", name := "<init>", desc := "()V" } : Jvm.MethodName)), (Jvm.Cond.declares ({ cls := "java/lang/RuntimeException", name := "<init>", desc := "(Ljava/lang/String;)V" } : Jvm.MethodName)), (Jvm.Cond.declares ({ cls := "java/lang/Exception", name := "<init>", desc := "()V" } : Jvm.MethodName)), (Jvm.Cond.declares ({ cls := "java/lang/Exception", name := "<init>", desc := "(Ljava/lang/String;)V" } : Jvm.MethodName)), (Jvm.Cond.declares ({ cls := "java/lang/Throwable", name := "<init>", desc := "()V" } : Jvm.MethodName)), (Jvm.Cond.declares ({ cls := "java/lang/Throwable", name := "<init>", desc := "(Ljava/lang/String;)V" } : Jvm.MethodName)), (Jvm.Cond.castable "java/lang/IllegalArgumentException" "java/lang/IllegalArgumentException"), (Jvm.Cond.castable "java/lang/IndexOutOfBoundsException" "java/lang/IndexOutOfBoundsException"), (Jvm.Cond.methodLinkNest "LeafMatches$Face" (34 : Nat) ({ cls := "LeafMatches", name := "isWithin", desc := "(III)Z" } : Jvm.MethodName) "LeafMatches"), (Jvm.Cond.fieldLinkNest "LeafMatches$Face" (70 : Nat) "LeafMatches" "SHIFTS" "[I" "LeafMatches"), (Jvm.Cond.castable "[B" "java/lang/Cloneable")]
theorem xnw_warm {s U : State} (hW : s.WarmedH U.vm) : ∀ w ∈ xnw, va_Nw w s → va_Nw w U := List.forall_mem_cons.mpr ⟨fun h => va_Nw.warmC hW h, List.forall_mem_cons.mpr ⟨fun h => va_Nw.warmD hW h, List.forall_mem_cons.mpr ⟨fun h => va_Nw.warmD hW h, List.forall_mem_cons.mpr ⟨fun h => va_Nw.warmD hW h, List.forall_mem_cons.mpr ⟨fun h => va_Nw.warmD hW h, List.forall_mem_cons.mpr ⟨fun h => va_Nw.warmD hW h, List.forall_mem_cons.mpr ⟨fun h => va_Nw.warmD hW h, List.forall_mem_cons.mpr ⟨fun h => va_Nw.warmC hW h, List.forall_mem_cons.mpr ⟨fun h => va_Nw.warmC hW h, List.forall_mem_cons.mpr ⟨fun h => va_Nw.warmM hW h, List.forall_mem_cons.mpr ⟨fun h => va_Nw.warmF hW h, List.forall_mem_cons.mpr ⟨fun h => va_Nw.warmC hW h, fun w h => by cases h⟩⟩⟩⟩⟩⟩⟩⟩⟩⟩⟩⟩
theorem xnw_tab : ∀ w ∈ xnw, w.onTables = true := List.forall_mem_cons.mpr ⟨rfl, List.forall_mem_cons.mpr ⟨rfl, List.forall_mem_cons.mpr ⟨rfl, List.forall_mem_cons.mpr ⟨rfl, List.forall_mem_cons.mpr ⟨rfl, List.forall_mem_cons.mpr ⟨rfl, List.forall_mem_cons.mpr ⟨rfl, List.forall_mem_cons.mpr ⟨rfl, List.forall_mem_cons.mpr ⟨rfl, List.forall_mem_cons.mpr ⟨rfl, List.forall_mem_cons.mpr ⟨rfl, List.forall_mem_cons.mpr ⟨rfl, fun w h => by cases h⟩⟩⟩⟩⟩⟩⟩⟩⟩⟩⟩⟩
theorem xnw_in : ∀ w ∈ xnw, w ∈ lw_tbl := by decide +kernel
def xstr : List (String × Nat × String) := [("LeafMatches", 40, "there are 32 leaves"), ("LeafMatches", 49, "the flitch has a leaf of that number"), ("LeafMatches", 57, "flitch is not 0 .. 3 or number not 0 .. 1000"), ("LeafMatches", 60, "w or h is not 1 .. 12"), ("LeafMatches", 77, "no such leaf, column or row"), ("LeafMatches", 80, "v is not 0 .. 255"), ("LeafMatches", 85, "no such leaf"), ("LeafMatches", 91, "the leaf is used"), ("LeafMatches", 93, "order is not 0 .. 1000"), ("LeafMatches", 98, "there are 8 faces"), ("LeafMatches", 104, "no flitch has so many free leaves"), ("LeafMatches", 106, "there is no such kind"), ("LeafMatches", 108, "n is not 2 .. 8, or not 4 for a diamond"), ("LeafMatches", 128, "no such face"), ("LeafMatches", 133, "no such face or piece"), ("LeafMatches", 163, "what is not 0 .. 4"), ("LeafMatches", 182, "what is not 0 .. 3"), ("LeafMatches", 187, "no such face or seam"), ("LeafMatches", 192, "shift is not -3 .. 3"), ("LeafMatches", 201, "i is below 0"), ("LeafMatches", 276, "BSRD"), ("LeafMatches", 219, "there are 8 faces wanted"), ("LeafMatches", 221, "w is not 1 .. 100"), ("LeafMatches", 230, "flitch is not 0 .. 3"), ("LeafMatches", 239, "no plan was found as things are"), ("LeafMatches", 241, "no such face wanted"), ("LeafMatches", 250, "what is not 0 or 1")]
def xnc : List (String × String) := [("LeafMatches", "java/lang/IllegalStateException"), ("LeafMatches$Planner", "java/lang/IllegalStateException"), ("LeafMatchesModel", "java/lang/IllegalStateException"), ("java/lang/IllegalArgumentException", "java/lang/IllegalStateException"), ("LeafMatches$Leaf", "java/lang/IllegalStateException"), ("java/lang/IndexOutOfBoundsException", "java/lang/IllegalStateException"), ("LeafMatches$Face", "java/lang/IllegalStateException"), ("LeafMatches$Piece", "java/lang/IllegalStateException"), ("java/lang/StringBuilder", "java/lang/IllegalStateException"), ("LeafMatches", "java/lang/IllegalArgumentException"), ("LeafMatches$Planner", "java/lang/IllegalArgumentException"), ("LeafMatchesModel", "java/lang/IllegalArgumentException"), ("java/lang/IllegalStateException", "java/lang/IllegalArgumentException"), ("LeafMatches$Leaf", "java/lang/IllegalArgumentException"), ("java/lang/IndexOutOfBoundsException", "java/lang/IllegalArgumentException"), ("LeafMatches$Face", "java/lang/IllegalArgumentException"), ("LeafMatches$Piece", "java/lang/IllegalArgumentException"), ("java/lang/StringBuilder", "java/lang/IllegalArgumentException"), ("LeafMatches", "java/lang/IndexOutOfBoundsException"), ("LeafMatches$Planner", "java/lang/IndexOutOfBoundsException"), ("LeafMatchesModel", "java/lang/IndexOutOfBoundsException"), ("java/lang/IllegalStateException", "java/lang/IndexOutOfBoundsException"), ("java/lang/IllegalArgumentException", "java/lang/IndexOutOfBoundsException"), ("LeafMatches$Leaf", "java/lang/IndexOutOfBoundsException"), ("LeafMatches$Face", "java/lang/IndexOutOfBoundsException"), ("LeafMatches$Piece", "java/lang/IndexOutOfBoundsException"), ("java/lang/StringBuilder", "java/lang/IndexOutOfBoundsException")]
abbrev b_Face_bestShift : ByteArray := prog_2_method_7_code
def y_Face_bestShift : MethodName := ⟨R_Face, "bestShift", "(I)I"⟩
abbrev b_Face_differenceAt : ByteArray := prog_2_method_6_code
def y_Face_differenceAt : MethodName := ⟨R_Face, "differenceAt", "(II)I"⟩
abbrev b_Face_greatestBottom : ByteArray := prog_2_method_10_code
def y_Face_greatestBottom : MethodName := ⟨R_Face, "greatestBottom", "()I"⟩
abbrev b_Face_greySeen : ByteArray := prog_2_method_11_code
def y_Face_greySeen : MethodName := ⟨R_Face, "greySeen", "(II)I"⟩
abbrev b_Face_hasPiece : ByteArray := prog_2_method_3_code
def y_Face_hasPiece : MethodName := ⟨R_Face, "hasPiece", "(I)Z"⟩
abbrev b_Face_hasSeam : ByteArray := prog_2_method_4_code
def y_Face_hasSeam : MethodName := ⟨R_Face, "hasSeam", "(I)Z"⟩
abbrev b_Face_init : ByteArray := prog_2_method_1_code
def y_Face_init : MethodName := ⟨R_Face, "<init>", "(I[LLeafMatches$Leaf;I)V"⟩
abbrev b_Face_isBalanced : ByteArray := prog_2_method_12_code
def y_Face_isBalanced : MethodName := ⟨R_Face, "isBalanced", "()Z"⟩
abbrev b_Face_layOut : ByteArray := prog_2_method_5_code
def y_Face_layOut : MethodName := ⟨R_Face, "layOut", "()V"⟩
abbrev b_Face_leastTop : ByteArray := prog_2_method_9_code
def y_Face_leastTop : MethodName := ⟨R_Face, "leastTop", "()I"⟩
abbrev b_Face_markUsed : ByteArray := prog_2_method_2_code
def y_Face_markUsed : MethodName := ⟨R_Face, "markUsed", "(Z)V"⟩
abbrev b_Face_sizeAcross : ByteArray := prog_2_method_8_code
def y_Face_sizeAcross : MethodName := ⟨R_Face, "sizeAcross", "()I"⟩
abbrev b_LM_about : ByteArray := prog_1_method_9_code
def y_LM_about : MethodName := ⟨R_LM, "about", "(II)I"⟩
abbrev b_LM_apart : ByteArray := prog_1_method_6_code
def y_LM_apart : MethodName := ⟨R_LM, "apart", "(I)I"⟩
abbrev b_LM_at : ByteArray := prog_1_method_8_code
def y_LM_at : MethodName := ⟨R_LM, "at", "(III)I"⟩
abbrev b_LM_balance : ByteArray := prog_1_method_13_code
def y_LM_balance : MethodName := ⟨R_LM, "balance", "(I)Z"⟩
abbrev b_LM_clear : ByteArray := prog_1_method_16_code
def y_LM_clear : MethodName := ⟨R_LM, "clear", "()I"⟩
abbrev b_LM_countFree : ByteArray := prog_1_method_23_code
def y_LM_countFree : MethodName := ⟨R_LM, "countFree", "(I)I"⟩
abbrev b_LM_faceOrNull : ByteArray := prog_1_method_21_code
def y_LM_faceOrNull : MethodName := ⟨R_LM, "faceOrNull", "(I)LLeafMatches$Face;"⟩
abbrev b_LM_faces : ByteArray := prog_1_method_17_code
def y_LM_faces : MethodName := ⟨R_LM, "faces", "(I)I"⟩
abbrev b_LM_gatherFree : ByteArray := prog_1_method_25_code
def y_LM_gatherFree : MethodName := ⟨R_LM, "gatherFree", "(I)I"⟩
abbrev b_LM_init : ByteArray := prog_1_method_1_code
def y_LM_init : MethodName := ⟨R_LM, "<init>", "()V"⟩
abbrev b_LM_isBroken : ByteArray := prog_1_method_26_code
def y_LM_isBroken : MethodName := ⟨R_LM, "isBroken", "(I)Z"⟩
abbrev b_LM_isNumberTaken : ByteArray := prog_1_method_22_code
def y_LM_isNumberTaken : MethodName := ⟨R_LM, "isNumberTaken", "(II)Z"⟩
abbrev b_LM_isWithin : ByteArray := prog_1_method_19_code
def y_LM_isWithin : MethodName := ⟨R_LM, "isWithin", "(III)Z"⟩
abbrev b_LM_leaf : ByteArray := prog_1_method_2_code
def y_LM_leaf : MethodName := ⟨R_LM, "leaf", "(IIII)I"⟩
abbrev b_LM_leafOrNull : ByteArray := prog_1_method_20_code
def y_LM_leafOrNull : MethodName := ⟨R_LM, "leafOrNull", "(I)LLeafMatches$Leaf;"⟩
abbrev b_LM_leastFlitchWith : ByteArray := prog_1_method_24_code
def y_LM_leastFlitchWith : MethodName := ⟨R_LM, "leastFlitchWith", "(I)I"⟩
abbrev b_LM_match : ByteArray := prog_1_method_5_code
def y_LM_match : MethodName := ⟨R_LM, "match", "(II)I"⟩
abbrev b_LM_mirrored : ByteArray := prog_1_method_12_code
def y_LM_mirrored : MethodName := ⟨R_LM, "mirrored", "(II)Z"⟩
abbrev b_LM_number : ByteArray := prog_1_method_14_code
def y_LM_number : MethodName := ⟨R_LM, "number", "(III)I"⟩
abbrev b_LM_pixel : ByteArray := prog_1_method_3_code
def y_LM_pixel : MethodName := ⟨R_LM, "pixel", "(IIII)Z"⟩
abbrev b_LM_place : ByteArray := prog_1_method_7_code
def y_LM_place : MethodName := ⟨R_LM, "place", "(III)I"⟩
abbrev b_LM_planned : ByteArray := prog_1_method_18_code
def y_LM_planned : MethodName := ⟨R_LM, "planned", "(II)I"⟩
abbrev b_LM_reserve : ByteArray := prog_1_method_4_code
def y_LM_reserve : MethodName := ⟨R_LM, "reserve", "(II)Z"⟩
abbrev b_LM_seam : ByteArray := prog_1_method_10_code
def y_LM_seam : MethodName := ⟨R_LM, "seam", "(II)I"⟩
abbrev b_LM_sum : ByteArray := prog_1_method_11_code
def y_LM_sum : MethodName := ⟨R_LM, "sum", "(III)J"⟩
abbrev b_LM_want : ByteArray := prog_1_method_15_code
def y_LM_want : MethodName := ⟨R_LM, "want", "(I)I"⟩
abbrev b_LM_writtenOn : ByteArray := prog_1_method_27_code
def y_LM_writtenOn : MethodName := ⟨R_LM, "writtenOn", "(IILLeafMatches$Piece;)Ljava/lang/StringBuilder;"⟩
abbrev b_Law_about : ByteArray := method_10_code
def y_Law_about : MethodName := ⟨R_Law, "about", "(LLeafMatches;II[J)I"⟩
abbrev b_Law_apart : ByteArray := method_7_code
def y_Law_apart : MethodName := ⟨R_Law, "apart", "(LLeafMatches;I[J)I"⟩
abbrev b_Law_at : ByteArray := method_9_code
def y_Law_at : MethodName := ⟨R_Law, "at", "(LLeafMatches;III[J)I"⟩
abbrev b_Law_balance : ByteArray := method_14_code
def y_Law_balance : MethodName := ⟨R_Law, "balance", "(LLeafMatches;I[J)I"⟩
abbrev b_Law_faces : ByteArray := method_17_code
def y_Law_faces : MethodName := ⟨R_Law, "faces", "(LLeafMatches;I[J)I"⟩
abbrev b_Law_leaf : ByteArray := method_3_code
def y_Law_leaf : MethodName := ⟨R_Law, "leaf", "(LLeafMatches;IIII[J)I"⟩
abbrev b_Law_match : ByteArray := method_6_code
def y_Law_match : MethodName := ⟨R_Law, "match", "(LLeafMatches;II[J)I"⟩
abbrev b_Law_mirrored : ByteArray := method_13_code
def y_Law_mirrored : MethodName := ⟨R_Law, "mirrored", "(LLeafMatches;II[J)I"⟩
abbrev b_Law_number : ByteArray := method_15_code
def y_Law_number : MethodName := ⟨R_Law, "number", "(LLeafMatches;III[J)I"⟩
abbrev b_Law_pixel : ByteArray := method_4_code
def y_Law_pixel : MethodName := ⟨R_Law, "pixel", "(LLeafMatches;IIII[J)I"⟩
abbrev b_Law_place : ByteArray := method_8_code
def y_Law_place : MethodName := ⟨R_Law, "place", "(LLeafMatches;III[J)I"⟩
abbrev b_Law_planned : ByteArray := method_18_code
def y_Law_planned : MethodName := ⟨R_Law, "planned", "(LLeafMatches;II[J)I"⟩
abbrev b_Law_reserve : ByteArray := method_5_code
def y_Law_reserve : MethodName := ⟨R_Law, "reserve", "(LLeafMatches;II[J)I"⟩
abbrev b_Law_seam : ByteArray := method_11_code
def y_Law_seam : MethodName := ⟨R_Law, "seam", "(LLeafMatches;II[J)I"⟩
abbrev b_Law_sum : ByteArray := method_12_code
def y_Law_sum : MethodName := ⟨R_Law, "sum", "(LLeafMatches;III[J)I"⟩
abbrev b_Law_want : ByteArray := method_16_code
def y_Law_want : MethodName := ⟨R_Law, "want", "(LLeafMatches;I[J)I"⟩
abbrev b_Leaf_follows : ByteArray := prog_3_method_3_code
def y_Leaf_follows : MethodName := ⟨R_Leaf, "follows", "(LLeafMatches$Leaf;)Z"⟩
abbrev b_Leaf_greyOrNone : ByteArray := prog_3_method_5_code
def y_Leaf_greyOrNone : MethodName := ⟨R_Leaf, "greyOrNone", "(II)I"⟩
abbrev b_Leaf_holds : ByteArray := prog_3_method_4_code
def y_Leaf_holds : MethodName := ⟨R_Leaf, "holds", "(II)Z"⟩
abbrev b_Leaf_init : ByteArray := prog_3_method_1_code
def y_Leaf_init : MethodName := ⟨R_Leaf, "<init>", "(IIIII)V"⟩
abbrev b_Leaf_isFree : ByteArray := prog_3_method_2_code
def y_Leaf_isFree : MethodName := ⟨R_Leaf, "isFree", "()Z"⟩
abbrev b_Leaf_paint : ByteArray := prog_3_method_6_code
def y_Leaf_paint : MethodName := ⟨R_Leaf, "paint", "(III)Z"⟩
abbrev b_Mod_about : ByteArray := prog_7_method_27_code
def y_Mod_about : MethodName := ⟨R_Mod, "about", "(II)I"⟩
abbrev b_Mod_across : ByteArray := prog_7_method_20_code
def y_Mod_across : MethodName := ⟨R_Mod, "across", "(II)I"⟩
abbrev b_Mod_apart : ByteArray := prog_7_method_10_code
def y_Mod_apart : MethodName := ⟨R_Mod, "apart", "(I)I"⟩
abbrev b_Mod_at : ByteArray := prog_7_method_25_code
def y_Mod_at : MethodName := ⟨R_Mod, "at", "(III)I"⟩
abbrev b_Mod_balance : ByteArray := prog_7_method_32_code
def y_Mod_balance : MethodName := ⟨R_Mod, "balance", "(I)Z"⟩
abbrev b_Mod_clear : ByteArray := prog_7_method_36_code
def y_Mod_clear : MethodName := ⟨R_Mod, "clear", "()I"⟩
abbrev b_Mod_faces : ByteArray := prog_7_method_40_code
def y_Mod_faces : MethodName := ⟨R_Mod, "faces", "(I)I"⟩
abbrev b_Mod_fillRow : ByteArray := prog_7_method_7_code
def y_Mod_fillRow : MethodName := ⟨R_Mod, "fillRow", "(I)V"⟩
abbrev b_Mod_grey : ByteArray := prog_7_method_13_code
def y_Mod_grey : MethodName := ⟨R_Mod, "grey", "(IIII)I"⟩
abbrev b_Mod_high : ByteArray := prog_7_method_15_code
def y_Mod_high : MethodName := ⟨R_Mod, "high", "(II)I"⟩
abbrev b_Mod_init : ByteArray := prog_7_method_1_code
def y_Mod_init : MethodName := ⟨R_Mod, "<init>", "()V"⟩
abbrev b_Mod_isIn : ByteArray := prog_7_method_3_code
def y_Mod_isIn : MethodName := ⟨R_Mod, "isIn", "(III)Z"⟩
abbrev b_Mod_isMirrored : ByteArray := prog_7_method_11_code
def y_Mod_isMirrored : MethodName := ⟨R_Mod, "isMirrored", "(II)Z"⟩
abbrev b_Mod_isTurned : ByteArray := prog_7_method_12_code
def y_Mod_isTurned : MethodName := ⟨R_Mod, "isTurned", "(II)Z"⟩
abbrev b_Mod_leaf : ByteArray := prog_7_method_4_code
def y_Mod_leaf : MethodName := ⟨R_Mod, "leaf", "(IIII)I"⟩
abbrev b_Mod_leastTop : ByteArray := prog_7_method_22_code
def y_Mod_leastTop : MethodName := ⟨R_Mod, "leastTop", "(I)I"⟩
abbrev b_Mod_leftOf : ByteArray := prog_7_method_17_code
def y_Mod_leftOf : MethodName := ⟨R_Mod, "leftOf", "(II)I"⟩
abbrev b_Mod_lossFrom : ByteArray := prog_7_method_38_code
def y_Mod_lossFrom : MethodName := ⟨R_Mod, "lossFrom", "(III)I"⟩
abbrev b_Mod_lossWith : ByteArray := prog_7_method_39_code
def y_Mod_lossWith : MethodName := ⟨R_Mod, "lossWith", "(III)I"⟩
abbrev b_Mod_manyFrom : ByteArray := prog_7_method_37_code
def y_Mod_manyFrom : MethodName := ⟨R_Mod, "manyFrom", "(II)I"⟩
abbrev b_Mod_match : ByteArray := prog_7_method_8_code
def y_Mod_match : MethodName := ⟨R_Mod, "match", "(II)I"⟩
abbrev b_Mod_mirrored : ByteArray := prog_7_method_31_code
def y_Mod_mirrored : MethodName := ⟨R_Mod, "mirrored", "(II)Z"⟩
abbrev b_Mod_noFace : ByteArray := prog_7_method_9_code
def y_Mod_noFace : MethodName := ⟨R_Mod, "noFace", "(I)Z"⟩
abbrev b_Mod_noPiece : ByteArray := prog_7_method_23_code
def y_Mod_noPiece : MethodName := ⟨R_Mod, "noPiece", "(II)Z"⟩
abbrev b_Mod_noSeam : ByteArray := prog_7_method_28_code
def y_Mod_noSeam : MethodName := ⟨R_Mod, "noSeam", "(II)Z"⟩
abbrev b_Mod_number : ByteArray := prog_7_method_34_code
def y_Mod_number : MethodName := ⟨R_Mod, "number", "(III)I"⟩
abbrev b_Mod_pixel : ByteArray := prog_7_method_5_code
def y_Mod_pixel : MethodName := ⟨R_Mod, "pixel", "(IIII)Z"⟩
abbrev b_Mod_place : ByteArray := prog_7_method_24_code
def y_Mod_place : MethodName := ⟨R_Mod, "place", "(III)I"⟩
abbrev b_Mod_planned : ByteArray := prog_7_method_42_code
def y_Mod_planned : MethodName := ⟨R_Mod, "planned", "(II)I"⟩
abbrev b_Mod_reserve : ByteArray := prog_7_method_6_code
def y_Mod_reserve : MethodName := ⟨R_Mod, "reserve", "(II)Z"⟩
abbrev b_Mod_seam : ByteArray := prog_7_method_29_code
def y_Mod_seam : MethodName := ⟨R_Mod, "seam", "(II)I"⟩
abbrev b_Mod_seams : ByteArray := prog_7_method_16_code
def y_Mod_seams : MethodName := ⟨R_Mod, "seams", "(I)I"⟩
abbrev b_Mod_shiftOf : ByteArray := prog_7_method_19_code
def y_Mod_shiftOf : MethodName := ⟨R_Mod, "shiftOf", "(II)I"⟩
abbrev b_Mod_sum : ByteArray := prog_7_method_30_code
def y_Mod_sum : MethodName := ⟨R_Mod, "sum", "(III)J"⟩
abbrev b_Mod_sumAt : ByteArray := prog_7_method_18_code
def y_Mod_sumAt : MethodName := ⟨R_Mod, "sumAt", "(III)I"⟩
abbrev b_Mod_thrown : ByteArray := prog_7_method_2_code
def y_Mod_thrown : MethodName := ⟨R_Mod, "thrown", "()I"⟩
abbrev b_Mod_topOf : ByteArray := prog_7_method_21_code
def y_Mod_topOf : MethodName := ⟨R_Mod, "topOf", "(II)I"⟩
abbrev b_Mod_walk : ByteArray := prog_7_method_41_code
def y_Mod_walk : MethodName := ⟨R_Mod, "walk", "(I)V"⟩
abbrev b_Mod_want : ByteArray := prog_7_method_35_code
def y_Mod_want : MethodName := ⟨R_Mod, "want", "(I)I"⟩
abbrev b_Mod_wide : ByteArray := prog_7_method_14_code
def y_Mod_wide : MethodName := ⟨R_Mod, "wide", "(II)I"⟩
abbrev b_Mod_wideOf : ByteArray := prog_7_method_26_code
def y_Mod_wideOf : MethodName := ⟨R_Mod, "wideOf", "(I)I"⟩
abbrev b_Mod_writeNumber : ByteArray := prog_7_method_33_code
def y_Mod_writeNumber : MethodName := ⟨R_Mod, "writeNumber", "(II)I"⟩
abbrev b_Piece_bottom : ByteArray := prog_4_method_3_code
def y_Piece_bottom : MethodName := ⟨R_Piece, "bottom", "()I"⟩
abbrev b_Piece_end : ByteArray := prog_4_method_2_code
def y_Piece_end : MethodName := ⟨R_Piece, "end", "()I"⟩
abbrev b_Piece_greyShown : ByteArray := prog_4_method_4_code
def y_Piece_greyShown : MethodName := ⟨R_Piece, "greyShown", "(II)I"⟩
abbrev b_Piece_init : ByteArray := prog_4_method_1_code
def y_Piece_init : MethodName := ⟨R_Piece, "<init>", "(LLeafMatches$Leaf;ZZ)V"⟩
abbrev b_Plan_addWanted : ByteArray := prog_5_method_3_code
def y_Plan_addWanted : MethodName := ⟨R_Plan, "addWanted", "(I)V"⟩
abbrev b_Plan_dropWanted : ByteArray := prog_5_method_4_code
def y_Plan_dropWanted : MethodName := ⟨R_Plan, "dropWanted", "()V"⟩
abbrev b_Plan_faceBegunAt : ByteArray := prog_5_method_13_code
def y_Plan_faceBegunAt : MethodName := ⟨R_Plan, "faceBegunAt", "(II)I"⟩
abbrev b_Plan_findLeastLoss : ByteArray := prog_5_method_10_code
def y_Plan_findLeastLoss : MethodName := ⟨R_Plan, "findLeastLoss", "(I)V"⟩
abbrev b_Plan_findRow : ByteArray := prog_5_method_9_code
def y_Plan_findRow : MethodName := ⟨R_Plan, "findRow", "([LLeafMatches$Leaf;III)V"⟩
abbrev b_Plan_findRows : ByteArray := prog_5_method_8_code
def y_Plan_findRows : MethodName := ⟨R_Plan, "findRows", "([LLeafMatches$Leaf;I)V"⟩
abbrev b_Plan_forgetPlan : ByteArray := prog_5_method_2_code
def y_Plan_forgetPlan : MethodName := ⟨R_Plan, "forgetPlan", "()V"⟩
abbrev b_Plan_grown : ByteArray := prog_5_method_7_code
def y_Plan_grown : MethodName := ⟨R_Plan, "grown", "([II)[I"⟩
abbrev b_Plan_init : ByteArray := prog_5_method_1_code
def y_Plan_init : MethodName := ⟨R_Plan, "<init>", "()V"⟩
abbrev b_Plan_keepPlan : ByteArray := prog_5_method_12_code
def y_Plan_keepPlan : MethodName := ⟨R_Plan, "keepPlan", "([LLeafMatches$Leaf;I)V"⟩
abbrev b_Plan_lowerByFace : ByteArray := prog_5_method_11_code
def y_Plan_lowerByFace : MethodName := ⟨R_Plan, "lowerByFace", "(II)V"⟩
abbrev b_Plan_makeRoom : ByteArray := prog_5_method_6_code
def y_Plan_makeRoom : MethodName := ⟨R_Plan, "makeRoom", "(I)V"⟩
abbrev b_Plan_planFrom : ByteArray := prog_5_method_5_code
def y_Plan_planFrom : MethodName := ⟨R_Plan, "planFrom", "([LLeafMatches$Leaf;I)I"⟩
end
section
/-! THE WORLD AS A FUNCTION: an address gives a cell or nothing. Objects: the class's number and its fields; arrays: the array class's number, length, contents. -/
abbrev Cel : Type := (Nat × List Value) ⊕ (Nat × vp_A)
abbrev Mp : Type := Nat → Option Cel
/-- where the world begins, classes and slots, array classes, addresses of constants -/
abbrev Gx : Type := Nat × va_G × (Nat → ClassId) × (Nat → Nat)
def xce (G : Gx) (e : Cel) : va_E := match e with
  | .inl o => .inr o
  | .inr q => .inl (G.2.2.1 q.1, q.2)
def xhd (G : Gx) (cl : List vw_C) (w : Mp) (H : Heap) : Prop := ∀ (a : Nat) (e : Cel), w a = some e → G.1 ≤ a ∧ va_at G.2.1 cl (a, xce G e) H
abbrev xA (G : Gx) : Nat → Prop := fun q => G.1 ≤ q
abbrev xS (G : Gx) (s : State) (H : Heap) (locs : List Loc) : Prop := va_S (xA G) s.heap H locs
def oI (v : Value) : Option Int32 := match v with
  | .int x => some x
  | _ => none
def oR (v : Value) : Option (Option Nat) := match v with
  | .null => some none
  | .ref a => some (some a)
  | _ => none
def gF (w : Mp) (r : Option Nat) (ci k : Nat) : Option Value := match r with
  | none => none
  | some a => match w a with
    | some (.inl o) => if o.1 = ci then o.2[k]? else none
    | _ => none
def gI (w : Mp) (r : Option Nat) (ci k : Nat) : Option Int32 := (gF w r ci k).bind oI
def gR (w : Mp) (r : Option Nat) (ci k : Nat) : Option (Option Nat) := (gF w r ci k).bind oR
def pF (w : Mp) (r : Option Nat) (ci k : Nat) (v : Value) : Option Mp := match r with
  | none => none
  | some a => match w a with
    | some (.inl o) => if o.1 = ci ∧ k < o.2.length then some (va_up w a (some (.inl (ci, o.2.set k v)))) else none
    | _ => none
def aI (w : Mp) (r : Option Nat) (t : Nat) (i : Int32) : Option Int32 := match r with
  | none => none
  | some a => match w a with
    | some (.inr (t', n, .inl f)) => if t' = t ∧ ¬ (i < 0 ∨ n ≤ i.toNatClampNeg) then some (f i.toNatClampNeg) else none
    | _ => none
def aL (w : Mp) (r : Option Nat) (t : Nat) : Option Int32 := match r with
  | none => none
  | some a => match w a with
    | some (.inr (t', n, _)) => if t' = t then some (Int32.ofNat n) else none
    | _ => none
def sI (w : Mp) (r : Option Nat) (t : Nat) (i x : Int32) : Option Mp := match r with
  | none => none
  | some a => match w a with
    | some (.inr (t', n, .inl f)) => if t' = t ∧ ¬ (i < 0 ∨ n ≤ i.toNatClampNeg) then some (va_up w a (some (.inr (t, n, .inl (upd f i.toNatClampNeg x))))) else none
    | _ => none
def aR (w : Mp) (r : Option Nat) (t : Nat) (i : Int32) : Option (Option Nat) := match r with
  | none => none
  | some a => match w a with
    | some (.inr (t', n, .inr (.inr (.inr (.inr f))))) => if t' = t ∧ ¬ (i < 0 ∨ n ≤ i.toNatClampNeg) then some (f i.toNatClampNeg) else none
    | _ => none
/-- the class of what a reference names, if it names something -/
def xis (w : Mp) (ci : Nat) (v : Option Nat) : Bool := match v with
  | none => true
  | some b => match w b with
    | some (.inl o) => o.1 == ci
    | _ => false
def sR (w : Mp) (r : Option Nat) (t ci : Nat) (i : Int32) (v : Option Nat) : Option Mp := match r with
  | none => none
  | some a => match w a with
    | some (.inr (t', n, .inr (.inr (.inr (.inr f))))) => if (t' = t ∧ ¬ (i < 0 ∨ n ≤ i.toNatClampNeg)) ∧ xis w ci v = true then some (va_up w a (some (.inr (t, n, .inr (.inr (.inr (.inr (va_up f i.toNatClampNeg v)))))))) else none
    | _ => none
theorem gF_inv {w : Mp} {r : Option Nat} {ci k : Nat} {v : Value} (h : gF w r ci k = some v) : ∃ a fs, r = some a ∧ w a = some (.inl (ci, fs)) ∧ fs[k]? = some v := by
  unfold gF at h
  split at h
  · cases h
  · rename_i a
    split at h
    · rename_i o ho
      split at h
      · rename_i hc
        exact ⟨a, o.2, rfl, by rw [ho, ← hc], h⟩
      · cases h
    · cases h
theorem oI_inv {v : Value} {x : Int32} (h : oI v = some x) : v = .int x := by
  unfold oI at h
  split at h
  · cases h; rfl
  · cases h
theorem oR_inv {v : Value} {r : Option Nat} (h : oR v = some r) : v = va_rf r := by
  unfold oR at h
  split at h
  · cases h; rfl
  · cases h; rfl
  · cases h
theorem gI_inv {w : Mp} {r : Option Nat} {ci k : Nat} {x : Int32} (h : gI w r ci k = some x) : ∃ a fs, r = some a ∧ w a = some (.inl (ci, fs)) ∧ fs[k]? = some (.int x) := by
  obtain ⟨v, hv, hx⟩ := Option.bind_eq_some_iff.mp h
  obtain ⟨a, fs, h1, h2, h3⟩ := gF_inv hv
  exact ⟨a, fs, h1, h2, by rw [h3, oI_inv hx]⟩
theorem gR_inv {w : Mp} {r : Option Nat} {ci k : Nat} {x : Option Nat} (h : gR w r ci k = some x) : ∃ a fs, r = some a ∧ w a = some (.inl (ci, fs)) ∧ fs[k]? = some (va_rf x) := by
  obtain ⟨v, hv, hx⟩ := Option.bind_eq_some_iff.mp h
  obtain ⟨a, fs, h1, h2, h3⟩ := gF_inv hv
  exact ⟨a, fs, h1, h2, by rw [h3, oR_inv hx]⟩
theorem pF_inv {w w' : Mp} {r : Option Nat} {ci k : Nat} {v : Value} (h : pF w r ci k v = some w') : ∃ a fs, r = some a ∧ w a = some (.inl (ci, fs)) ∧ k < fs.length ∧ w' = va_up w a (some (.inl (ci, fs.set k v))) := by
  unfold pF at h
  split at h
  · cases h
  · rename_i a
    split at h
    · rename_i o ho
      split at h
      · rename_i hc
        cases h
        exact ⟨a, o.2, rfl, by rw [ho, ← hc.1], hc.2, rfl⟩
      · cases h
    · cases h
theorem aI_inv {w : Mp} {r : Option Nat} {t : Nat} {i x : Int32} (h : aI w r t i = some x) : ∃ a n f, r = some a ∧ w a = some (.inr (t, n, .inl f)) ∧ vp_in i n ∧ x = f i.toNatClampNeg := by
  unfold aI at h
  split at h
  · cases h
  · rename_i a
    split at h
    · rename_i t' n f ho
      split at h
      · rename_i hc
        cases h
        exact ⟨a, n, f, rfl, by rw [ho, hc.1], hc.2, rfl⟩
      · cases h
    · cases h
theorem aL_inv {w : Mp} {r : Option Nat} {t : Nat} {x : Int32} (h : aL w r t = some x) : ∃ a q, r = some a ∧ w a = some (.inr (t, q)) ∧ x = Int32.ofNat q.1 := by
  unfold aL at h
  split at h
  · cases h
  · rename_i a
    split at h
    · rename_i t' n f ho
      split at h
      · rename_i hc
        cases h
        exact ⟨a, (n, f), rfl, by rw [ho, hc], rfl⟩
      · cases h
    · cases h
theorem sI_inv {w w' : Mp} {r : Option Nat} {t : Nat} {i x : Int32} (h : sI w r t i x = some w') : ∃ a n f, r = some a ∧ w a = some (.inr (t, n, .inl f)) ∧ vp_in i n ∧ w' = va_up w a (some (.inr (t, n, .inl (upd f i.toNatClampNeg x)))) := by
  unfold sI at h
  split at h
  · cases h
  · rename_i a
    split at h
    · rename_i t' n f ho
      split at h
      · rename_i hc
        cases h
        exact ⟨a, n, f, rfl, by rw [ho, hc.1], hc.2, rfl⟩
      · cases h
    · cases h
theorem aR_inv {w : Mp} {r : Option Nat} {t : Nat} {i : Int32} {x : Option Nat} (h : aR w r t i = some x) : ∃ a n f, r = some a ∧ w a = some (.inr (t, n, .inr (.inr (.inr (.inr f))))) ∧ vp_in i n ∧ x = f i.toNatClampNeg := by
  unfold aR at h
  split at h
  · cases h
  · rename_i a
    split at h
    · rename_i t' n f ho
      split at h
      · rename_i hc
        cases h
        exact ⟨a, n, f, rfl, by rw [ho, hc.1], hc.2, rfl⟩
      · cases h
    · cases h
theorem sR_inv {w w' : Mp} {r : Option Nat} {t ci : Nat} {i : Int32} {v : Option Nat} (h : sR w r t ci i v = some w') : ∃ a n f, r = some a ∧ w a = some (.inr (t, n, .inr (.inr (.inr (.inr f))))) ∧ vp_in i n ∧ (∀ b, v = some b → ∃ fs, w b = some (.inl (ci, fs))) ∧ w' = va_up w a (some (.inr (t, n, .inr (.inr (.inr (.inr (va_up f i.toNatClampNeg v))))))) := by
  unfold sR at h
  split at h
  · cases h
  · rename_i a
    split at h
    · rename_i t' n f ho
      split at h
      · rename_i hc
        cases h
        refine ⟨a, n, f, rfl, by rw [ho, hc.1.1], hc.1.2, fun b hb => ?_, rfl⟩
        have h2 := hc.2
        subst hb
        unfold xis at h2
        dsimp only at h2
        split at h2
        · rename_i o ho2
          exact ⟨o.2, by rw [ho2, ← eq_of_beq h2]⟩
        · cases h2
      · cases h
    · cases h
theorem xhd_one {G : Gx} {cl : List vw_C} {w : Mp} {H : Heap} (h : xhd G cl w H) {a : Nat} {e : Cel} (he : w a = some e) : va_P G.2.1 cl [(a, xce G e)] H := by
  intro k q hk
  match k, hk with
  | 0, hk => cases hk; exact (h a e he).2
  | k + 1, hk => simp at hk
/-- a cell is written: all others stay -/
theorem xhd_set {G : Gx} {cl : List vw_C} {w : Mp} {H H1 : Heap} (h : xhd G cl w H) {a : Nat} {e0 e : Cel} (h0 : w a = some e0) (he : va_at G.2.1 cl (a, xce G e) H1) (oq : ∀ q : Nat, q ≠ a → H1[q]? = H[q]?) : xhd G cl (va_up w a (some e)) H1 := by
  intro b x hx
  unfold va_up at hx
  split at hx
  · rename_i hb
    cases hx
    rw [hb]
    exact ⟨(h a e0 h0).1, he⟩
  · rename_i hb
    obtain ⟨h1, h2⟩ := h b x hx
    exact ⟨h1, h2.kept (oq b hb)⟩
/-- a cell is made -/
theorem xhd_new {G : Gx} {cl : List vw_C} {w : Mp} {H H1 : Heap} (h : xhd G cl w H) {e : Cel} (hB : G.1 ≤ H.size) (he : va_at G.2.1 cl (H.size, xce G e) H1) (oq : ∀ q : Nat, q < H.size → H1[q]? = H[q]?) : xhd G cl (va_up w H.size (some e)) H1 := by
  intro b x hx
  unfold va_up at hx
  split at hx
  · rename_i hb
    cases hx
    rw [hb]
    exact ⟨hB, he⟩
  · obtain ⟨h1, h2⟩ := h b x hx
    exact ⟨h1, h2.kept (oq b h2.lt)⟩
theorem va_rf_cat (r : Option Nat) : (va_rf r).category = 1 := by cases r <;> rfl
end
section
/-! LOCALS: a list of places and values whose kinds are known -/
abbrev xV : Type := Int32 ⊕ Option Nat ⊕ Int64
def xv (v : xV) : Value := match v with
  | .inl x => .int x
  | .inr (.inl r) => va_rf r
  | .inr (.inr y) => .long y
def xcat (v : xV) : Nat := match v with
  | .inl _ => 1
  | .inr (.inl _) => 1
  | .inr (.inr _) => 2
theorem xv_cat (v : xV) : (xv v).category = xcat v := by
  match v with
  | .inl x => rfl
  | .inr (.inl none) => rfl
  | .inr (.inl (some r)) => rfl
  | .inr (.inr y) => rfl
def xL (ls : Array Slot) (nL : Nat) (lv : List (Nat × xV)) : Prop := lv_has ls nL (lv.map fun q => (q.1, xv q.2))
theorem x_at {ls : Array Slot} {nL : Nat} {lv : List (Nat × xV)} (h : xL ls nL lv) (k : Nat) {i : Nat} {v : xV} (hk : lv[k]? = some (i, v)) : ls[i]? = some (.val (xv v)) :=
  lv_at h k (by rw [List.getElem?_map, hk]; rfl)
theorem x_sub {ls : Array Slot} {nL : Nat} {l l' : List (Nat × xV)} (h : xL ls nL l) (ks : List Nat) (hl : ks.filterMap (fun k => l[k]?) = l') : xL ls nL l' := by
  refine lv_sub h ks ?_
  subst hl
  unfold lv_pick
  rw [List.map_filterMap]
  congr 1
  funext k
  rw [List.getElem?_map]
def xst (lv : List (Nat × xV)) (i : Nat) (v : xV) : List (Nat × xV) := (i, v) :: lv.filter (fun q => !(q.1 == i) && !(q.1 + 1 == i && xcat q.2 == 2))
def xst2 (lv : List (Nat × xV)) (i : Nat) (v : xV) : List (Nat × xV) := (i, v) :: lv.filter (fun q => !(q.1 == i) && (!(q.1 == i + 1) && !(q.1 + 1 == i && xcat q.2 == 2)))
theorem xst_eq (lv : List (Nat × xV)) (i : Nat) (v : xV) : (i, xv v) :: (lv.map fun q => (q.1, xv q.2)).filter (fun q => !(q.1 == i) && !(q.1 + 1 == i && q.2.category == 2)) = (xst lv i v).map fun q => (q.1, xv q.2) := by
  unfold xst
  rw [List.map_cons, List.filter_map]
  congr 2
  refine List.filter_congr fun q _ => ?_
  show (!(q.1 == i) && !(q.1 + 1 == i && (xv q.2).category == 2)) = _
  rw [xv_cat]
theorem xst2_eq (lv : List (Nat × xV)) (i : Nat) (v : xV) : (i, xv v) :: (lv.map fun q => (q.1, xv q.2)).filter (fun q => !(q.1 == i) && (!(q.1 == i + 1) && !(q.1 + 1 == i && q.2.category == 2))) = (xst2 lv i v).map fun q => (q.1, xv q.2) := by
  unfold xst2
  rw [List.map_cons, List.filter_map]
  congr 2
  refine List.filter_congr fun q _ => ?_
  show (!(q.1 == i) && (!(q.1 == i + 1) && !(q.1 + 1 == i && (xv q.2).category == 2))) = _
  rw [xv_cat]
def xargs : Nat → List xV → List (Nat × xV)
  | _, [] => []
  | i, v :: vs => (i, v) :: xargs (i + xcat v) vs
theorem x_len : ∀ vs : List xV, (lg_sl (vs.map xv)).length = (vs.map xcat).sum
  | [] => rfl
  | v :: vs => by
    have ih := x_len vs
    unfold lg_sl at ih ⊢
    rw [List.map_cons, List.flatMap_cons, List.length_append, ih, List.map_cons, List.sum_cons, xv_cat]
    match v with
    | .inl x => rfl
    | .inr (.inl r) => rfl
    | .inr (.inr y) => rfl
theorem x_args : ∀ (vs : List xV) (i : Nat), lv_args i (vs.map xv) = (xargs i vs).map fun q => (q.1, xv q.2)
  | [], _ => rfl
  | v :: vs, i => by
    have e : (if xcat v = 2 then i + 2 else i + 1) = i + xcat v := by
      match v with
      | .inl x => rfl
      | .inr (.inl r) => rfl
      | .inr (.inr y) => rfl
    rw [List.map_cons, lv_args, xv_cat, e, x_args vs (i + xcat v)]
    rfl
theorem x_entry (m : MethodId) (vs : List xV) (n : Nat) (h : (vs.map xcat).sum ≤ n) : ∃ ls, entryFrame m (vs.map xv).toArray n = F0 m 0 ls [] ∧ xL ls n (xargs 0 vs) := by
  refine ⟨_, lg_entry_eq m (vs.map xv) n, ?_⟩
  have hl := lv_entry (vs.map xv) (n := n) (by rw [x_len]; exact h)
  rw [x_args] at hl
  exact hl
section XR
variable {p : Program} {l : Launch} {e : Env} {R : Room} {s : State} {m : MethodId} {args : Array Value} {below : List Frame} {meth : Method} {c : Code} {H : Heap} {locs : List Loc} {cells slots : Nat} {Q : State → Prop}
variable {cc : ByteArray} {pc nL : Nat} {ls : Array Slot} {rest : List Value} {Ts : List Cond} {own : String} {lv lv' : List (Nat × xV)}
theorem x_iload_n (C0 : CallFix p m c cc nL s args Ts own) (hl : xL ls nL lv) (k : Nat) {kn : Fin 4} {i : Nat} {x : Int32} (hdg : decode cc pc = .ok (.iload_n kn, 1)) (hi : (kn : Nat) = i) (hk : lv[k]? = some (i, .inl x))
    (kk : W p l e R s m args below meth c H locs cells slots Q (F0 m (pc + 1) ls (.int x :: rest))) : W p l e R s m args below meth c H locs cells slots Q (F0 m pc ls rest) :=
  lv_iload_n C0.1 C0.2.1 hdg hi (x_at hl k hk) kk
theorem x_iload (C0 : CallFix p m c cc nL s args Ts own) (hl : xL ls nL lv) (k : Nat) {i : Nat} {x : Int32} (hdg : decode cc pc = .ok (.iload i, 2)) (hk : lv[k]? = some (i, .inl x))
    (kk : W p l e R s m args below meth c H locs cells slots Q (F0 m (pc + 2) ls (.int x :: rest))) : W p l e R s m args below meth c H locs cells slots Q (F0 m pc ls rest) :=
  lv_iload C0.1 C0.2.1 hdg (x_at hl k hk) kk
theorem x_lload_n (C0 : CallFix p m c cc nL s args Ts own) (hl : xL ls nL lv) (k : Nat) {kn : Fin 4} {i : Nat} {x : Int64} (hdg : decode cc pc = .ok (.lload_n kn, 1)) (hi : (kn : Nat) = i) (hk : lv[k]? = some (i, .inr (.inr x)))
    (kk : W p l e R s m args below meth c H locs cells slots Q (F0 m (pc + 1) ls (.long x :: rest))) : W p l e R s m args below meth c H locs cells slots Q (F0 m pc ls rest) :=
  lv_lload_n C0.1 C0.2.1 hdg hi (x_at hl k hk) kk
theorem x_lload (C0 : CallFix p m c cc nL s args Ts own) (hl : xL ls nL lv) (k : Nat) {i : Nat} {x : Int64} (hdg : decode cc pc = .ok (.lload i, 2)) (hk : lv[k]? = some (i, .inr (.inr x)))
    (kk : W p l e R s m args below meth c H locs cells slots Q (F0 m (pc + 2) ls (.long x :: rest))) : W p l e R s m args below meth c H locs cells slots Q (F0 m pc ls rest) :=
  lv_lload C0.1 C0.2.1 hdg (x_at hl k hk) kk
theorem x_aload_n (C0 : CallFix p m c cc nL s args Ts own) (hl : xL ls nL lv) (k : Nat) {kn : Fin 4} {i : Nat} {r : Option Nat} (hdg : decode cc pc = .ok (.aload_n kn, 1)) (hi : (kn : Nat) = i) (hk : lv[k]? = some (i, .inr (.inl r)))
    (kk : W p l e R s m args below meth c H locs cells slots Q (F0 m (pc + 1) ls (va_rf r :: rest))) : W p l e R s m args below meth c H locs cells slots Q (F0 m pc ls rest) := by
  cases r with
  | none => exact lv_aload_nN C0.1 C0.2.1 hdg hi (x_at hl k hk) kk
  | some a => exact lv_aload_n C0.1 C0.2.1 hdg hi (x_at hl k hk) kk
theorem x_aload (C0 : CallFix p m c cc nL s args Ts own) (hl : xL ls nL lv) (k : Nat) {i : Nat} {r : Option Nat} (hdg : decode cc pc = .ok (.aload i, 2)) (hk : lv[k]? = some (i, .inr (.inl r)))
    (kk : W p l e R s m args below meth c H locs cells slots Q (F0 m (pc + 2) ls (va_rf r :: rest))) : W p l e R s m args below meth c H locs cells slots Q (F0 m pc ls rest) := by
  cases r with
  | none => exact lv_aloadN C0.1 C0.2.1 hdg (x_at hl k hk) kk
  | some a => exact lv_aload C0.1 C0.2.1 hdg (x_at hl k hk) kk
theorem x_istore_n (C0 : CallFix p m c cc nL s args Ts own) (hl : xL ls nL lv) {kn : Fin 4} {i : Nat} {x : Int32} (hdg : decode cc pc = .ok (.istore_n kn, 1)) (hi : (kn : Nat) = i) (hn : i < nL) (he : xst lv i (.inl x) = lv')
    (kk : ∀ ls, xL ls nL lv' → W p l e R s m args below meth c H locs cells slots Q (F0 m (pc + 1) ls rest)) : W p l e R s m args below meth c H locs cells slots Q (F0 m pc ls (.int x :: rest)) :=
  lv_istore_n C0.1 C0.2.1 hdg hi hl hn ((xst_eq lv i (.inl x)).trans (by rw [he])) kk
theorem x_istore (C0 : CallFix p m c cc nL s args Ts own) (hl : xL ls nL lv) {i : Nat} {x : Int32} (hdg : decode cc pc = .ok (.istore i, 2)) (hn : i < nL) (he : xst lv i (.inl x) = lv')
    (kk : ∀ ls, xL ls nL lv' → W p l e R s m args below meth c H locs cells slots Q (F0 m (pc + 2) ls rest)) : W p l e R s m args below meth c H locs cells slots Q (F0 m pc ls (.int x :: rest)) :=
  lv_istore C0.1 C0.2.1 hdg hl hn ((xst_eq lv i (.inl x)).trans (by rw [he])) kk
theorem x_lstore_n (C0 : CallFix p m c cc nL s args Ts own) (hl : xL ls nL lv) {kn : Fin 4} {i : Nat} {x : Int64} (hdg : decode cc pc = .ok (.lstore_n kn, 1)) (hi : (kn : Nat) = i) (hn : i + 1 < nL) (he : xst2 lv i (.inr (.inr x)) = lv')
    (kk : ∀ ls, xL ls nL lv' → W p l e R s m args below meth c H locs cells slots Q (F0 m (pc + 1) ls rest)) : W p l e R s m args below meth c H locs cells slots Q (F0 m pc ls (.long x :: rest)) :=
  lv_lstore_n C0.1 C0.2.1 hdg hi hl hn ((xst2_eq lv i (.inr (.inr x))).trans (by rw [he])) kk
theorem x_lstore (C0 : CallFix p m c cc nL s args Ts own) (hl : xL ls nL lv) {i : Nat} {x : Int64} (hdg : decode cc pc = .ok (.lstore i, 2)) (hn : i + 1 < nL) (he : xst2 lv i (.inr (.inr x)) = lv')
    (kk : ∀ ls, xL ls nL lv' → W p l e R s m args below meth c H locs cells slots Q (F0 m (pc + 2) ls rest)) : W p l e R s m args below meth c H locs cells slots Q (F0 m pc ls (.long x :: rest)) :=
  lv_lstore C0.1 C0.2.1 hdg hl hn ((xst2_eq lv i (.inr (.inr x))).trans (by rw [he])) kk
theorem x_astore_n (C0 : CallFix p m c cc nL s args Ts own) (hl : xL ls nL lv) {kn : Fin 4} {i : Nat} {r : Option Nat} (hdg : decode cc pc = .ok (.astore_n kn, 1)) (hi : (kn : Nat) = i) (hn : i < nL) (he : xst lv i (.inr (.inl r)) = lv')
    (kk : ∀ ls, xL ls nL lv' → W p l e R s m args below meth c H locs cells slots Q (F0 m (pc + 1) ls rest)) : W p l e R s m args below meth c H locs cells slots Q (F0 m pc ls (va_rf r :: rest)) := by
  cases r with
  | none => exact lv_astore_nN C0.1 C0.2.1 hdg hi hl hn ((xst_eq lv i (.inr (.inl none))).trans (by rw [he])) kk
  | some a => exact lv_astore_n C0.1 C0.2.1 hdg hi hl hn ((xst_eq lv i (.inr (.inl (some a)))).trans (by rw [he])) kk
theorem x_astore (C0 : CallFix p m c cc nL s args Ts own) (hl : xL ls nL lv) {i : Nat} {r : Option Nat} (hdg : decode cc pc = .ok (.astore i, 2)) (hn : i < nL) (he : xst lv i (.inr (.inl r)) = lv')
    (kk : ∀ ls, xL ls nL lv' → W p l e R s m args below meth c H locs cells slots Q (F0 m (pc + 2) ls rest)) : W p l e R s m args below meth c H locs cells slots Q (F0 m pc ls (va_rf r :: rest)) := by
  cases r with
  | none => exact lv_astoreN C0.1 C0.2.1 hdg hl hn ((xst_eq lv i (.inr (.inl none))).trans (by rw [he])) kk
  | some a => exact lv_astore C0.1 C0.2.1 hdg hl hn ((xst_eq lv i (.inr (.inl (some a)))).trans (by rw [he])) kk
theorem x_iinc (C0 : CallFix p m c cc nL s args Ts own) (hl : xL ls nL lv) (k : Nat) {i : Nat} {n : Int} {x v : Int32} (hdg : decode cc pc = .ok (.iinc i n, 3)) (hk : lv[k]? = some (i, .inl x)) (hv : Int32.ofInt n = v) (hn : i < nL) (he : xst lv i (.inl (x + v)) = lv')
    (kk : ∀ ls, xL ls nL lv' → W p l e R s m args below meth c H locs cells slots Q (F0 m (pc + 3) ls rest)) : W p l e R s m args below meth c H locs cells slots Q (F0 m pc ls rest) :=
  lv_iinc (v := x + v) (k := k) C0.1 C0.2.1 hdg hl (by rw [List.getElem?_map, hk]; rfl) (by rw [hv]) hn ((xst_eq lv i (.inl (x + v))).trans (by rw [he])) kk
theorem x_iincW (C0 : CallFix p m c cc nL s args Ts own) (hl : xL ls nL lv) (k : Nat) {i : Nat} {n : Int} {x v : Int32} (hdg : decode cc pc = .ok (.iinc i n, 6)) (hk : lv[k]? = some (i, .inl x)) (hv : Int32.ofInt n = v) (hn : i < nL) (he : xst lv i (.inl (x + v)) = lv')
    (kk : ∀ ls, xL ls nL lv' → W p l e R s m args below meth c H locs cells slots Q (F0 m (pc + 6) ls rest)) : W p l e R s m args below meth c H locs cells slots Q (F0 m pc ls rest) :=
  lv_iincW (v := x + v) (k := k) C0.1 C0.2.1 hdg hl (by rw [List.getElem?_map, hk]; rfl) (by rw [hv]) hn ((xst_eq lv i (.inl (x + v))).trans (by rw [he])) kk
/-! branches over an equation -/
variable {α : Type} {A B : Option α} {o : Option α}
theorem x_goto (C0 : CallFix p m c cc nL s args Ts own) {off : Int} (tgt : Nat) (hdg : decode cc pc = .ok (.goto off, 3)) (ht : (pc : Int) + off = (tgt : Int)) (k : W p l e R s m args below meth c H locs cells slots Q (F0 m tgt ls rest)) : W p l e R s m args below meth c H locs cells slots Q (F0 m pc ls rest) := lv_goto C0.1 C0.2.1 hdg ht k
theorem x_if_eq (C0 : CallFix p m c cc nL s args Ts own) {x : Int32} {off : Int} (tgt : Nat) (hdg : decode cc pc = .ok (.ifCond .eq off, 3)) (ht : (pc : Int) + off = (tgt : Int)) (h : (if x = 0 then A else B) = o)
    (kt : A = o → W p l e R s m args below meth c H locs cells slots Q (F0 m tgt ls rest)) (kf : B = o → W p l e R s m args below meth c H locs cells slots Q (F0 m (pc + 3) ls rest)) : W p l e R s m args below meth c H locs cells slots Q (F0 m pc ls (.int x :: rest)) :=
  lv_if_eq C0.1 C0.2.1 hdg ht (fun z => kt (by rw [if_pos z] at h; exact h)) (fun z => kf (by rw [if_neg z] at h; exact h))
theorem x_icmp_eq (C0 : CallFix p m c cc nL s args Ts own) {x y : Int32} {off : Int} (tgt : Nat) (hdg : decode cc pc = .ok (.if_icmp .eq off, 3)) (ht : (pc : Int) + off = (tgt : Int)) (h : (if x = y then A else B) = o)
    (kt : A = o → W p l e R s m args below meth c H locs cells slots Q (F0 m tgt ls rest)) (kf : B = o → W p l e R s m args below meth c H locs cells slots Q (F0 m (pc + 3) ls rest)) : W p l e R s m args below meth c H locs cells slots Q (F0 m pc ls (.int y :: .int x :: rest)) :=
  lv_icmp_eq C0.1 C0.2.1 hdg ht (fun z => kt (by rw [if_pos z] at h; exact h)) (fun z => kf (by rw [if_neg z] at h; exact h))
theorem x_if_ne (C0 : CallFix p m c cc nL s args Ts own) {x : Int32} {off : Int} (tgt : Nat) (hdg : decode cc pc = .ok (.ifCond .ne off, 3)) (ht : (pc : Int) + off = (tgt : Int)) (h : (if x = 0 then B else A) = o)
    (kt : A = o → W p l e R s m args below meth c H locs cells slots Q (F0 m tgt ls rest)) (kf : B = o → W p l e R s m args below meth c H locs cells slots Q (F0 m (pc + 3) ls rest)) : W p l e R s m args below meth c H locs cells slots Q (F0 m pc ls (.int x :: rest)) :=
  lv_if_ne C0.1 C0.2.1 hdg ht (fun z => kt (by rw [if_neg z] at h; exact h)) (fun z => kf (by rw [if_pos z] at h; exact h))
theorem x_icmp_ne (C0 : CallFix p m c cc nL s args Ts own) {x y : Int32} {off : Int} (tgt : Nat) (hdg : decode cc pc = .ok (.if_icmp .ne off, 3)) (ht : (pc : Int) + off = (tgt : Int)) (h : (if x = y then B else A) = o)
    (kt : A = o → W p l e R s m args below meth c H locs cells slots Q (F0 m tgt ls rest)) (kf : B = o → W p l e R s m args below meth c H locs cells slots Q (F0 m (pc + 3) ls rest)) : W p l e R s m args below meth c H locs cells slots Q (F0 m pc ls (.int y :: .int x :: rest)) :=
  lv_icmp_ne C0.1 C0.2.1 hdg ht (fun z => kt (by rw [if_neg z] at h; exact h)) (fun z => kf (by rw [if_pos z] at h; exact h))
theorem x_if_lt (C0 : CallFix p m c cc nL s args Ts own) {x : Int32} {off : Int} (tgt : Nat) (hdg : decode cc pc = .ok (.ifCond .lt off, 3)) (ht : (pc : Int) + off = (tgt : Int)) (h : (if x < 0 then A else B) = o)
    (kt : A = o → W p l e R s m args below meth c H locs cells slots Q (F0 m tgt ls rest)) (kf : B = o → W p l e R s m args below meth c H locs cells slots Q (F0 m (pc + 3) ls rest)) : W p l e R s m args below meth c H locs cells slots Q (F0 m pc ls (.int x :: rest)) :=
  lv_if_lt C0.1 C0.2.1 hdg ht (fun z => kt (by rw [if_pos z] at h; exact h)) (fun z => kf (by rw [if_neg z] at h; exact h))
theorem x_icmp_lt (C0 : CallFix p m c cc nL s args Ts own) {x y : Int32} {off : Int} (tgt : Nat) (hdg : decode cc pc = .ok (.if_icmp .lt off, 3)) (ht : (pc : Int) + off = (tgt : Int)) (h : (if x < y then A else B) = o)
    (kt : A = o → W p l e R s m args below meth c H locs cells slots Q (F0 m tgt ls rest)) (kf : B = o → W p l e R s m args below meth c H locs cells slots Q (F0 m (pc + 3) ls rest)) : W p l e R s m args below meth c H locs cells slots Q (F0 m pc ls (.int y :: .int x :: rest)) :=
  lv_icmp_lt C0.1 C0.2.1 hdg ht (fun z => kt (by rw [if_pos z] at h; exact h)) (fun z => kf (by rw [if_neg z] at h; exact h))
theorem x_if_ge (C0 : CallFix p m c cc nL s args Ts own) {x : Int32} {off : Int} (tgt : Nat) (hdg : decode cc pc = .ok (.ifCond .ge off, 3)) (ht : (pc : Int) + off = (tgt : Int)) (h : (if 0 ≤ x then A else B) = o)
    (kt : A = o → W p l e R s m args below meth c H locs cells slots Q (F0 m tgt ls rest)) (kf : B = o → W p l e R s m args below meth c H locs cells slots Q (F0 m (pc + 3) ls rest)) : W p l e R s m args below meth c H locs cells slots Q (F0 m pc ls (.int x :: rest)) :=
  lv_if_ge C0.1 C0.2.1 hdg ht (fun z => kt (by rw [if_pos z] at h; exact h)) (fun z => kf (by rw [if_neg z] at h; exact h))
theorem x_icmp_ge (C0 : CallFix p m c cc nL s args Ts own) {x y : Int32} {off : Int} (tgt : Nat) (hdg : decode cc pc = .ok (.if_icmp .ge off, 3)) (ht : (pc : Int) + off = (tgt : Int)) (h : (if y ≤ x then A else B) = o)
    (kt : A = o → W p l e R s m args below meth c H locs cells slots Q (F0 m tgt ls rest)) (kf : B = o → W p l e R s m args below meth c H locs cells slots Q (F0 m (pc + 3) ls rest)) : W p l e R s m args below meth c H locs cells slots Q (F0 m pc ls (.int y :: .int x :: rest)) :=
  lv_icmp_ge C0.1 C0.2.1 hdg ht (fun z => kt (by rw [if_pos z] at h; exact h)) (fun z => kf (by rw [if_neg z] at h; exact h))
theorem x_if_gt (C0 : CallFix p m c cc nL s args Ts own) {x : Int32} {off : Int} (tgt : Nat) (hdg : decode cc pc = .ok (.ifCond .gt off, 3)) (ht : (pc : Int) + off = (tgt : Int)) (h : (if 0 < x then A else B) = o)
    (kt : A = o → W p l e R s m args below meth c H locs cells slots Q (F0 m tgt ls rest)) (kf : B = o → W p l e R s m args below meth c H locs cells slots Q (F0 m (pc + 3) ls rest)) : W p l e R s m args below meth c H locs cells slots Q (F0 m pc ls (.int x :: rest)) :=
  lv_if_gt C0.1 C0.2.1 hdg ht (fun z => kt (by rw [if_pos z] at h; exact h)) (fun z => kf (by rw [if_neg z] at h; exact h))
theorem x_icmp_gt (C0 : CallFix p m c cc nL s args Ts own) {x y : Int32} {off : Int} (tgt : Nat) (hdg : decode cc pc = .ok (.if_icmp .gt off, 3)) (ht : (pc : Int) + off = (tgt : Int)) (h : (if y < x then A else B) = o)
    (kt : A = o → W p l e R s m args below meth c H locs cells slots Q (F0 m tgt ls rest)) (kf : B = o → W p l e R s m args below meth c H locs cells slots Q (F0 m (pc + 3) ls rest)) : W p l e R s m args below meth c H locs cells slots Q (F0 m pc ls (.int y :: .int x :: rest)) :=
  lv_icmp_gt C0.1 C0.2.1 hdg ht (fun z => kt (by rw [if_pos z] at h; exact h)) (fun z => kf (by rw [if_neg z] at h; exact h))
theorem x_if_le (C0 : CallFix p m c cc nL s args Ts own) {x : Int32} {off : Int} (tgt : Nat) (hdg : decode cc pc = .ok (.ifCond .le off, 3)) (ht : (pc : Int) + off = (tgt : Int)) (h : (if x ≤ 0 then A else B) = o)
    (kt : A = o → W p l e R s m args below meth c H locs cells slots Q (F0 m tgt ls rest)) (kf : B = o → W p l e R s m args below meth c H locs cells slots Q (F0 m (pc + 3) ls rest)) : W p l e R s m args below meth c H locs cells slots Q (F0 m pc ls (.int x :: rest)) :=
  lv_if_le C0.1 C0.2.1 hdg ht (fun z => kt (by rw [if_pos z] at h; exact h)) (fun z => kf (by rw [if_neg z] at h; exact h))
theorem x_icmp_le (C0 : CallFix p m c cc nL s args Ts own) {x y : Int32} {off : Int} (tgt : Nat) (hdg : decode cc pc = .ok (.if_icmp .le off, 3)) (ht : (pc : Int) + off = (tgt : Int)) (h : (if x ≤ y then A else B) = o)
    (kt : A = o → W p l e R s m args below meth c H locs cells slots Q (F0 m tgt ls rest)) (kf : B = o → W p l e R s m args below meth c H locs cells slots Q (F0 m (pc + 3) ls rest)) : W p l e R s m args below meth c H locs cells slots Q (F0 m pc ls (.int y :: .int x :: rest)) :=
  lv_icmp_le C0.1 C0.2.1 hdg ht (fun z => kt (by rw [if_pos z] at h; exact h)) (fun z => kf (by rw [if_neg z] at h; exact h))
theorem x_ifnull (C0 : CallFix p m c cc nL s args Ts own) {r : Option Nat} {off : Int} (tgt : Nat) (hdg : decode cc pc = .ok (.ifnull off, 3)) (ht : (pc : Int) + off = (tgt : Int)) (h : (if r = none then A else B) = o)
    (kt : r = none → A = o → W p l e R s m args below meth c H locs cells slots Q (F0 m tgt ls rest)) (kf : ∀ a, r = some a → B = o → W p l e R s m args below meth c H locs cells slots Q (F0 m (pc + 3) ls rest)) : W p l e R s m args below meth c H locs cells slots Q (F0 m pc ls (va_rf r :: rest)) := by
  cases r with
  | none => exact lv_ifnullN C0.1 C0.2.1 hdg ht (kt rfl (by rw [if_pos rfl] at h; exact h))
  | some a => exact lv_ifnull C0.1 C0.2.1 hdg (kf a rfl (by rw [if_neg (by simp)] at h; exact h))
theorem x_ifnonnull (C0 : CallFix p m c cc nL s args Ts own) {r : Option Nat} {off : Int} (tgt : Nat) (hdg : decode cc pc = .ok (.ifnonnull off, 3)) (ht : (pc : Int) + off = (tgt : Int)) (h : (if r = none then B else A) = o)
    (kt : ∀ a, r = some a → A = o → W p l e R s m args below meth c H locs cells slots Q (F0 m tgt ls rest)) (kf : r = none → B = o → W p l e R s m args below meth c H locs cells slots Q (F0 m (pc + 3) ls rest)) : W p l e R s m args below meth c H locs cells slots Q (F0 m pc ls (va_rf r :: rest)) := by
  cases r with
  | none => exact lv_ifnonnullN C0.1 C0.2.1 hdg (kf rfl (by rw [if_pos rfl] at h; exact h))
  | some a => exact lv_ifnonnull C0.1 C0.2.1 hdg ht (kt a rfl (by rw [if_neg (by simp)] at h; exact h))
theorem x_idiv (C0 : CallFix p m c cc nL s args Ts own) {x y : Int32} (hdg : decode cc pc = .ok (.idiv, 1)) (h : (if y = 0 then none else A) = o) (ho : o.isSome)
    (k : A = o → W p l e R s m args below meth c H locs cells slots Q (F0 m (pc + 1) ls (.int (x / y) :: rest))) : W p l e R s m args below meth c H locs cells slots Q (F0 m pc ls (.int y :: .int x :: rest)) := by
  by_cases hy : y = 0
  · rw [if_pos hy] at h; subst h; cases ho
  · rw [if_neg hy] at h; exact lv_idiv C0.1 C0.2.1 hdg hy (k h)
theorem x_irem (C0 : CallFix p m c cc nL s args Ts own) {x y : Int32} (hdg : decode cc pc = .ok (.irem, 1)) (h : (if y = 0 then none else A) = o) (ho : o.isSome)
    (k : A = o → W p l e R s m args below meth c H locs cells slots Q (F0 m (pc + 1) ls (.int (x - x / y * y) :: rest))) : W p l e R s m args below meth c H locs cells slots Q (F0 m pc ls (.int y :: .int x :: rest)) := by
  by_cases hy : y = 0
  · rw [if_pos hy] at h; subst h; cases ho
  · rw [if_neg hy] at h; exact lv_irem C0.1 C0.2.1 hdg hy (k h)
end XR
end
section
/-! HEAP: rows over the world as a function -/
def xT (G : Gx) (aty : List FieldType) : List (ClassId × FieldType) := (List.range aty.length).map fun t => (G.2.2.1 t, aty.getD t .int)
theorem xT_at {G : Gx} {aty : List FieldType} {t : Nat} {ty : FieldType} (h : aty[t]? = some ty) : (xT G aty)[t]? = some (G.2.2.1 t, ty) := by
  have hl : t < aty.length := (List.getElem?_eq_some_iff.mp h).1
  unfold xT
  rw [List.getElem?_map, List.getElem?_range hl]
  simp [List.getD, h]
def xsh (j : Nat) : Int32 := [0, -1, 1, -2, 2, -3, 3].getD j 0
/-- what a method may lean on at its start: the tables, constants, and that the world lies above G.1 -/
def xE (G : Gx) (cl : List vw_C) (aty : List FieldType) (s : State) : Prop := va_K G.2.1 cl (xT G aty) s ∧ G.1 ≤ s.heap.size ∧ (∀ w ∈ xnw, va_Nw w s) ∧ (va_Z "LeafMatches" "SHIFTS" "[I" (.ref (G.2.2.2 0)) (xA G) s s.heap ∧ va_T .int (G.2.2.2 0) 7 (fun j => .int (xsh j)) (xA G) s s.heap) ∧
  (vx_Zq Bundle.tN "UNASSIGNED_STACK" Bundle.steD (xA G) s s.heap ∧ vx_Zq Bundle.tN "SUPPRESSED_SENTINEL" Bundle.listD (xA G) s s.heap) ∧ (∀ q ∈ xstr, ∃ a, vk_R q.1 q.2.1 q.2.2 a s) ∧ (∀ q ∈ xnc, va_Nc q.1 q.2 s)
theorem xE.moved {G : Gx} {cl : List vw_C} {aty : List FieldType} {s U : State} {H : Heap} {locs : List Loc} (h : xE G cl aty s) (hS : xS G s H locs) (hU : U.heap = H) (hW : s.WarmedH U.vm) : xE G cl aty U := by
  obtain ⟨h1, h2, h3, ⟨h4, h5⟩, ⟨h6, h7⟩, h8, h9⟩ := h
  subst hU
  exact ⟨va_K.moved hW.alike h1, Nat.le_trans h2 hS.1, fun w hw => xnw_warm hW w hw (h3 w hw), ⟨va_Z.moved hW.alike (h4.kept hS.2.1), va_T.moved hW.alike (h5.kept hS.2.1)⟩,
    ⟨vx_Zq.moved hW.alike (h6.kept hS.2.1), vx_Zq.moved hW.alike (h7.kept hS.2.1)⟩, fun q hq => by
      obtain ⟨a, ha⟩ := h8 q hq
      exact ⟨a, vk_R.warm hW ha⟩, fun q hq => (h9 q hq).moved hW.alike⟩
theorem xE.calling {G : Gx} {cl : List vw_C} {aty : List FieldType} {U : State} (g : JFrame) (mk : MethodId) (a : Array Value) (h : xE G cl aty U) : xE G cl aty (U.calling g mk a) := by
  obtain ⟨h1, h2, h3, ⟨h4, h5⟩, ⟨h6, h7⟩, h8, h9⟩ := h
  have hal : U.vm.Alike (U.calling g mk a).vm := Vm.Alike.refl U.vm
  exact ⟨va_K.moved hal h1, h2, fun w hw => va_Nw.same (xnw_tab w hw) (rfl : U.vm = (U.calling g mk a).vm) (h3 w hw), ⟨va_Z.moved hal h4, va_T.moved hal h5⟩,
    ⟨vx_Zq.moved hal h6, vx_Zq.moved hal h7⟩, fun q hq => by
      obtain ⟨b, hb⟩ := h8 q hq
      exact ⟨b, vk_R.same (rfl : (U.calling g mk a).vm = U.vm) hb⟩, fun q hq => (h9 q hq).moved hal⟩
def xPc (G : Gx) (cl : List vw_C) (aty : List FieldType) (w : Mp) (sz : Nat) (av : List Value) : Array Value → State → Prop := va_Pc av (fun U => xE G cl aty U ∧ xhd G cl w U.heap ∧ U.heap.size = sz)
theorem xPc_blind {G : Gx} {cl : List vw_C} {aty : List FieldType} {w : Mp} {sz : Nat} {av : List Value} : FrameBlind (xPc G cl aty w sz av) := fun a U g mk q => by
  obtain ⟨q0, q1, q2, q3⟩ := q
  exact ⟨q0, q1.calling g mk a, q2, q3⟩
/-- a method's end: its answer, the world behind it, the heap's size, all below as it was -/
def xQ (G : Gx) (cl : List vw_C) (v : Option Value) (w' : Mp) (sz' : Nat) : Array Value → State → Outcome → State → Prop := fun _ st oc t => oc = .returned v ∧ xhd G cl w' t.heap ∧ t.heap.size = sz' ∧ va_F (xA G) st t
section XH
variable {p : Program} {l : Launch} {e : Env} {R : Room} {s : State} {m : MethodId} {args : Array Value} {below : List Frame} {meth : Method} {c : Code} {H : Heap} {locs : List Loc} {cells slots : Nat} {Q : State → Prop}
variable {cc : ByteArray} {pc nL : Nat} {ls : Array Slot} {rest : List Value} {Ts : List Cond} {own : String}
variable {G : Gx} {cl : List vw_C} {aty : List FieldType} {w : Mp} {α : Type} {res : α}
theorem x_getI (C0 : CallFix p m c cc nL s args Ts own) (hE : xE G cl aty s) (hH : xhd G cl w H) {C : String} {T : u_T} {N ci index : Nat} (hc : cl[ci]? = some (C, T, N)) (hin : ∀ w ∈ u_ws C T N, w ∈ Ts) (k : Nat) (hk : k < N) (hlink : Cond.fieldLink own index (T k).1 (T k).2.1 (T k).2.2.1 ∈ Ts) (hdg : decode cc pc = .ok (.getfield index, 3))
    {r : Option Nat} {F : Int32 → Option α} (h : (gI w r ci k).bind F = some res) (kk : ∀ v, F v = some res → W p l e R s m args below meth c H locs cells slots Q (F0 m (pc + 3) ls (.int v :: rest))) : W p l e R s m args below meth c H locs cells slots Q (F0 m pc ls (va_rf r :: rest)) := by
  obtain ⟨v, hv, hF⟩ := Option.bind_eq_some_iff.mp h
  obtain ⟨a, fs, rfl, h2, h3⟩ := gI_inv hv
  exact va_get (D := G.2.1) (ws := [(a, .inr (ci, fs))]) C0.1 C0.2.1 C0.2.2.2.2 hin C0.2.2.2.1 hE.1 (xhd_one hH h2) 0 rfl hc k hk (C0.2.2.2.2 _ hlink) (fun _ h9 => h9) h3 hdg (kk v hF)
theorem x_getR (C0 : CallFix p m c cc nL s args Ts own) (hE : xE G cl aty s) (hH : xhd G cl w H) {C : String} {T : u_T} {N ci index : Nat} (hc : cl[ci]? = some (C, T, N)) (hin : ∀ w ∈ u_ws C T N, w ∈ Ts) (k : Nat) (hk : k < N) (hlink : Cond.fieldLink own index (T k).1 (T k).2.1 (T k).2.2.1 ∈ Ts) (hdg : decode cc pc = .ok (.getfield index, 3))
    {r : Option Nat} {F : Option Nat → Option α} (h : (gR w r ci k).bind F = some res) (kk : ∀ v, F v = some res → W p l e R s m args below meth c H locs cells slots Q (F0 m (pc + 3) ls (va_rf v :: rest))) : W p l e R s m args below meth c H locs cells slots Q (F0 m pc ls (va_rf r :: rest)) := by
  obtain ⟨v, hv, hF⟩ := Option.bind_eq_some_iff.mp h
  obtain ⟨a, fs, rfl, h2, h3⟩ := gR_inv hv
  exact va_get (D := G.2.1) (ws := [(a, .inr (ci, fs))]) C0.1 C0.2.1 C0.2.2.2.2 hin C0.2.2.2.1 hE.1 (xhd_one hH h2) 0 rfl hc k hk (C0.2.2.2.2 _ hlink) (fun _ h9 => h9) h3 hdg (kk v hF)
theorem x_iald (C0 : CallFix p m c cc nL s args Ts own) (hE : xE G cl aty s) (hH : xhd G cl w H) {t : Nat} (ht : aty[t]? = some .int) (hdg : decode cc pc = .ok (.iaload, 1))
    {r : Option Nat} {i : Int32} {F : Int32 → Option α} (h : (aI w r t i).bind F = some res) (kk : ∀ v, F v = some res → W p l e R s m args below meth c H locs cells slots Q (F0 m (pc + 1) ls (.int v :: rest))) : W p l e R s m args below meth c H locs cells slots Q (F0 m pc ls (.int i :: va_rf r :: rest)) := by
  obtain ⟨v, hv, hF⟩ := Option.bind_eq_some_iff.mp h
  obtain ⟨a, n, f, rfl, h2, h3, rfl⟩ := aI_inv hv
  exact va_iald (D := G.2.1) (ws := [(a, .inl (G.2.2.1 t, n, .inl f))]) C0.1 C0.2.1 hE.1 (xhd_one hH h2) 0 t rfl (xT_at ht) h3 hdg (kk _ hF)
theorem x_aald (C0 : CallFix p m c cc nL s args Ts own) (hE : xE G cl aty s) (hH : xhd G cl w H) {t : Nat} {C : String} (ht : aty[t]? = some (.object C)) (hdg : decode cc pc = .ok (.aaload, 1))
    {r : Option Nat} {i : Int32} {F : Option Nat → Option α} (h : (aR w r t i).bind F = some res) (kk : ∀ v, F v = some res → W p l e R s m args below meth c H locs cells slots Q (F0 m (pc + 1) ls (va_rf v :: rest))) : W p l e R s m args below meth c H locs cells slots Q (F0 m pc ls (.int i :: va_rf r :: rest)) := by
  obtain ⟨v, hv, hF⟩ := Option.bind_eq_some_iff.mp h
  obtain ⟨a, n, f, rfl, h2, h3, rfl⟩ := aR_inv hv
  exact va_aldq (D := G.2.1) (ws := [(a, .inl (G.2.2.1 t, n, .inr (.inr (.inr (.inr f)))))]) C0.1 C0.2.1 hE.1 (xhd_one hH h2) 0 t rfl (xT_at ht) h3 hdg (kk _ hF)
theorem x_alen (C0 : CallFix p m c cc nL s args Ts own) (hE : xE G cl aty s) (hH : xhd G cl w H) {t : Nat} {ty : FieldType} (ht : aty[t]? = some ty) (hdg : decode cc pc = .ok (.arraylength, 1))
    {r : Option Nat} {F : Int32 → Option α} (h : (aL w r t).bind F = some res) (kk : ∀ v, F v = some res → W p l e R s m args below meth c H locs cells slots Q (F0 m (pc + 1) ls (.int v :: rest))) : W p l e R s m args below meth c H locs cells slots Q (F0 m pc ls (va_rf r :: rest)) := by
  obtain ⟨v, hv, hF⟩ := Option.bind_eq_some_iff.mp h
  obtain ⟨a, q, rfl, h2, rfl⟩ := aL_inv hv
  exact va_alen (D := G.2.1) (ws := [(a, .inl (G.2.2.1 t, q))]) C0.1 C0.2.1 hE.1 (xhd_one hH h2) 0 t rfl (xT_at ht) rfl hdg (kk _ hF)
theorem x_put (C0 : CallFix p m c cc nL s args Ts own) (hE : xE G cl aty s) (hH : xhd G cl w H) (hS : xS G s H locs) {C : String} {T : u_T} {N ci index : Nat} (hc : cl[ci]? = some (C, T, N)) (hin : ∀ w ∈ u_ws C T N, w ∈ Ts) (ty0 : Nat → FieldType) (hty : ∀ k, k < N → parseFieldDescriptor (T k).2.2.1 = some (ty0 k)) (hnm : ∀ a, a < N → ∀ b, b < N → a ≠ b → (T a).2.1 ≠ (T b).2.1) (k : Nat) (hk : k < N) (hlink : Cond.fieldLink own index (T k).1 (T k).2.1 (T k).2.2.1 ∈ Ts) (hfin : (T k).2.2.2 = false) {v : Value} (hn : narrow (ty0 k) v = v) (hfit : fits (ty0 k) v = true) (hdg : decode cc pc = .ok (.putfield index, 3))
    {r : Option Nat} {F : Mp → Option α} (h : (pF w r ci k v).bind F = some res) (kk : ∀ w' H' locs', xhd G cl w' H' → xS G s H' locs' → H'.size = H.size → F w' = some res → W p l e R s m args below meth c H' locs' cells slots Q (F0 m (pc + 3) ls rest)) : W p l e R s m args below meth c H locs cells slots Q (F0 m pc ls (v :: va_rf r :: rest)) := by
  obtain ⟨w', hv, hF⟩ := Option.bind_eq_some_iff.mp h
  obtain ⟨a, fs, rfl, h2, hl, rfl⟩ := pF_inv hv
  have hap := va_apart (own := own) C0.2.2.2.2 hin ty0 hty hnm hE.1 hc
  obtain ⟨hA, r0, h1, cell, q1, q2, q3, q4⟩ := hH a _ h2
  have hr : r0 = (C, T, N) := Option.some.inj (h1.symm.trans hc)
  subst hr
  obtain ⟨hSl, hfc, kC, hkC, hkind⟩ := hE.1.1 ci _ hc
  obtain ⟨cf, kf, fi, f, hi, hsl⟩ := hSl k hk
  have hlay := C0.2.2.2.2 _ (hin _ (u_in_lay hk))
  unfold u_lay at hlay
  rw [if_neg (by rw [hfin]; decide)] at hlay
  have hst := (u_facts hfc hkC (u_lays C0.2.2.2.2 hin hk) hi).1
  have h6 := u_store hfc hkC hkind hlay hi (hty k hk) hn hfit
  refine W.putK C0.1 C0.2.1 (f := f) ⟨C0.2.2.2.1, C0.2.2.2.2 _ hlink, ⟨_, _, _, hi⟩, hst⟩ (by rw [q2]; exact h6) q1 q3 (by rw [hsl]; exact k2_hasslot (q4 k hk)) rfl rfl hdg fun H' e1 e2 e3 => ?_
  rw [hsl] at e1 ⊢
  exact kk _ H' _ (xhd_set (e := .inl (ci, fs.set k v)) hH h2 ⟨_, hc, t_OB.to (V := updV (vp_V fs) k v) ⟨_, e1, q2, q3, t_set q4 hap hk v⟩ (fun j _ => vp_updV_set hl v j)⟩ e3) (hS.put e2 e3 hA) e2 hF
theorem x_iast (C0 : CallFix p m c cc nL s args Ts own) (hE : xE G cl aty s) (hH : xhd G cl w H) (hS : xS G s H locs) {t : Nat} (ht : aty[t]? = some .int) (hdg : decode cc pc = .ok (.iastore, 1))
    {r : Option Nat} {i x : Int32} {F : Mp → Option α} (h : (sI w r t i x).bind F = some res) (kk : ∀ w' H' locs', xhd G cl w' H' → xS G s H' locs' → H'.size = H.size → F w' = some res → W p l e R s m args below meth c H' locs' cells slots Q (F0 m (pc + 1) ls rest)) : W p l e R s m args below meth c H locs cells slots Q (F0 m pc ls (.int x :: .int i :: va_rf r :: rest)) := by
  obtain ⟨w', hv, hF⟩ := Option.bind_eq_some_iff.mp h
  obtain ⟨a, n, f, rfl, h2, h3, rfl⟩ := sI_inv hv
  obtain ⟨hA, h1⟩ := hH a _ h2
  refine W.iast C0.1 C0.2.1 h1 ((hE.1.2 t _ (xT_at ht)).1 n (fun j => .int (f j))) (fun q => by cases q) (by show ¬ (i < 0 ∨ (arrV _ _ _).slots.size ≤ _); rw [arrV_size]; exact h3) rfl rfl hdg fun H1 e z oq => ?_
  refine kk _ H1 _ (xhd_set hH h2 ?_ oq) (hS.put z oq hA) z hF
  show H1[a]? = some (vp_cell _ _)
  rw [e]
  show some ((vp_cell _ (n, .inl f)).setSlot _ _) = some (vp_cell _ (n, .inl _))
  rw [vp_cell_i, vp_cell_i, arrV_store]
  congr 2
  funext q
  by_cases hq : q = i.toNatClampNeg
  · subst hq
    simp [updV, upd]
  · simp [updV, upd, hq]
theorem x_aast (C0 : CallFix p m c cc nL s args Ts own) (hE : xE G cl aty s) (hH : xhd G cl w H) (hS : xS G s H locs) {t ci : Nat} {C : String} {T : u_T} {N : Nat} (ht : aty[t]? = some (.object C)) (hc : cl[ci]? = some (C, T, N)) (hdg : decode cc pc = .ok (.aastore, 1))
    {r v : Option Nat} {i : Int32} {F : Mp → Option α} (h : (sR w r t ci i v).bind F = some res) (kk : ∀ w' H' locs', xhd G cl w' H' → xS G s H' locs' → H'.size = H.size → F w' = some res → W p l e R s m args below meth c H' locs' cells slots Q (F0 m (pc + 1) ls rest)) : W p l e R s m args below meth c H locs cells slots Q (F0 m pc ls (va_rf v :: .int i :: va_rf r :: rest)) := by
  obtain ⟨w', hv, hF⟩ := Option.bind_eq_some_iff.mp h
  obtain ⟨a, n, f, rfl, h2, hin, h4, rfl⟩ := sR_inv hv
  obtain ⟨hA, h1⟩ := hH a _ h2
  have hlt : i.toNatClampNeg < n := Nat.not_le.mp fun q => hin (Or.inr q)
  have h0 : ¬ i < 0 := fun q => hin (Or.inl q)
  have fin : ∀ (x : Option Nat) (H1 : Heap), H1[a]? = some ((vp_cell (G.2.2.1 t) (n, .inr (.inr (.inr (.inr f))))).setSlot i.toNatClampNeg (va_rf x)) → H1[a]? = some (vp_cell (G.2.2.1 t) (n, .inr (.inr (.inr (.inr (va_up f i.toNatClampNeg x)))))) := by
    intro x H1 e
    rw [e, vp_cell_q, vp_cell_q, arrV_store]
    congr 2
    funext q
    by_cases hq : q = i.toNatClampNeg
    · subst hq
      simp [updV, va_up]
    · simp [updV, va_up, hq]
  cases v with
  | none =>
    refine va_WaastN (C := C) C0.1 C0.2.1 h1 ((hE.1.2 t _ (xT_at ht)).1 n (fun j => va_rf (f j))) (fun h => by cases h) (by show ¬ (i < 0 ∨ (arrV _ _ _).slots.size ≤ _); rw [arrV_size]; exact hin) rfl rfl hdg fun H1 e z oq => ?_
    exact kk _ H1 _ (xhd_set (e := .inr (t, n, .inr (.inr (.inr (.inr (va_up f i.toNatClampNeg none)))))) hH h2 (fin none H1 e) oq) (hS.put z oq hA) z hF
  | some b =>
    obtain ⟨fs, hb⟩ := h4 b rfl
    obtain ⟨-, r', hr', cellV, g1, g2, g3, -⟩ := hH b _ hb
    have hcls := (hE.1.1 ci _ hc).2
    obtain ⟨kA, comp, k1, k2, k3, -⟩ := (hE.1.2 t _ (xT_at ht)).2
    have hcomp : comp = G.2.1.1 ci := Option.some.inj (k3.symm.trans hcls.1)
    subst hcomp
    obtain ⟨kC, hkC, -⟩ := hcls.2
    refine W.aast C0.1 C0.2.1 h1 (fun q h => by cases h) (fun h => by cases h) k1 k2 rfl hkC ⟨h0, by show _ < (arrV _ _ _).slots.size; rw [arrV_size]; exact hlt⟩ g1 (fun q h => by rw [g3] at h; cases h) (by rw [g2]; exact hkC) (by rw [g2]; exact va_assign hcls) rfl rfl hdg fun H1 e z oq => ?_
    exact kk _ H1 _ (xhd_set (e := .inr (t, n, .inr (.inr (.inr (.inr (va_up f i.toNatClampNeg (some b))))))) hH h2 (fin (some b) H1 e) oq) (hS.put z oq hA) z hF
/-! ends -/
theorem x_iret (C0 : CallFix p m c cc nL s args Ts own) (hr : meth.sig.returnType = some .int) (hlocks : meth.locks = false) (hH : xhd G cl w H) (hS : xS G s H locs) {sz : Nat} (hz : H.size = sz) {v : Int32} (hdg : decode cc pc = .ok (.ireturn, 1)) : W p l e R s m args below meth c H locs cells slots (MQ below (xQ G cl (some (.int v)) w sz) args s cells slots (xA G)) (F0 m pc ls [.int v]) :=
  W.iret C0.1 C0.2.1 hr (fun t ht _ => ⟨rfl, by rw [ht]; exact hH, by rw [ht]; exact hz, hS.F ht⟩) hS.2.2 hdg hlocks
theorem x_zret (C0 : CallFix p m c cc nL s args Ts own) {ty : FieldType} (hr : meth.sig.returnType = some ty) (hlocks : meth.locks = false) (hH : xhd G cl w H) (hS : xS G s H locs) {sz : Nat} (hz : H.size = sz) {v : Int32} (hn : narrow ty (.int v) = .int v) (hdg : decode cc pc = .ok (.ireturn, 1)) : W p l e R s m args below meth c H locs cells slots (MQ below (xQ G cl (some (.int v)) w sz) args s cells slots (xA G)) (F0 m pc ls [.int v]) :=
  W.zret C0.1 C0.2.1 hr hn (fun t ht _ => ⟨rfl, by rw [ht]; exact hH, by rw [ht]; exact hz, hS.F ht⟩) hS.2.2 hdg hlocks
theorem x_lret (C0 : CallFix p m c cc nL s args Ts own) (hr : meth.sig.returnType = some .long) (hlocks : meth.locks = false) (hH : xhd G cl w H) (hS : xS G s H locs) {sz : Nat} (hz : H.size = sz) {v : Int64} (hdg : decode cc pc = .ok (.lreturn, 1)) : W p l e R s m args below meth c H locs cells slots (MQ below (xQ G cl (some (.long v)) w sz) args s cells slots (xA G)) (F0 m pc ls [.long v]) :=
  W.lret C0.1 C0.2.1 hr (fun t ht _ => ⟨rfl, by rw [ht]; exact hH, by rw [ht]; exact hz, hS.F ht⟩) hS.2.2 hdg hlocks
theorem x_aret (C0 : CallFix p m c cc nL s args Ts own) {rt : FieldType} (hr : meth.sig.returnType = some rt) (hrt : (∃ n, rt = .object n) ∨ ∃ t, rt = .array t) (hlocks : meth.locks = false) (hH : xhd G cl w H) (hS : xS G s H locs) {sz : Nat} (hz : H.size = sz) {v : Option Nat} (hdg : decode cc pc = .ok (.areturn, 1)) : W p l e R s m args below meth c H locs cells slots (MQ below (xQ G cl (some (va_rf v)) w sz) args s cells slots (xA G)) (F0 m pc ls [va_rf v]) :=
  W.aret C0.1 C0.2.1 hr hrt (by cases v with | none => exact Or.inl rfl | some a => exact Or.inr ⟨a, rfl⟩) (fun t ht _ => ⟨rfl, by rw [ht]; exact hH, by rw [ht]; exact hz, hS.F ht⟩) hS.2.2 hdg hlocks
theorem x_vret (C0 : CallFix p m c cc nL s args Ts own) (hr : meth.sig.returnType = none) (hlocks : meth.locks = false) (hH : xhd G cl w H) (hS : xS G s H locs) {sz : Nat} (hz : H.size = sz) (hdg : decode cc pc = .ok (.return_, 1)) : W p l e R s m args below meth c H locs cells slots (MQ below (xQ G cl none w sz) args s cells slots (xA G)) (F0 m pc ls []) :=
  W.vret C0.1 C0.2.1 hr (fun t ht _ => ⟨rfl, by rw [ht]; exact hH, by rw [ht]; exact hz, hS.F ht⟩) hS.2.2 hdg hlocks
/-! calls -/
theorem x_call {v : Option Value} {a : Array Value} {st0 : List Value} {w' : Mp} {sz' mc ms : Nat} (hS : xS G s H locs) (hr : va_Run p l e R s m args below meth c H locs cells slots mc ms (F0 m pc ls st0) rest (xQ G cl v w' sz' a) (xA G))
    (kk : ∀ H' locs', xhd G cl w' H' → xS G s H' locs' → H'.size = sz' → W p l e R s m args below meth c H' locs' (cells + mc) (slots + ms) Q (F0 m (pc + 3) ls (v.toList ++ rest))) : W p l e R s m args below meth c H locs cells slots Q (F0 m pc ls st0) := by
  intro T hT X
  obtain ⟨v', st₀, t, T', L, h0, X', hL, e1, e2, ⟨hv, hw, hz, hf⟩, st⟩ := hr T hT X
  cases hv
  obtain ⟨hf1, hf2⟩ := hf
  rw [h0] at hf1 hf2
  obtain ⟨t2, a1, b1⟩ := kk T'.heap (locs ++ L) (by rw [e1]; exact hw) ⟨Nat.le_trans hS.1 (by rw [e1]; exact hf1), fun q h1 h2 => by rw [e1, hf2 q (Nat.lt_of_lt_of_le h1 hS.1) h2]; exact hS.2.1 q h1 h2, fun q hq => by
      rcases List.mem_append.mp hq with h | h
      · exact hS.2.2 q h
      · exact hL q h⟩ (by rw [e1]; exact hz) T' rfl X'
  exact ⟨t2, st t2 a1, b1⟩
theorem x_pre (hE : xE G cl aty s) (hH : xhd G cl w H) (hS : xS G s H locs) {av : List Value} (U : State) (hU : U.heap = H) (hW : s.WarmedH U.vm) : xPc G cl aty w H.size av av.toArray U :=
  ⟨rfl, hE.moved hS hU hW, by rw [hU]; exact hH, by rw [hU]⟩
theorem x_preS (hE : xE G cl aty s) (hH : xhd G cl w H) (hS : xS G s H locs) {av : List Value} : PreS s H (xPc G cl aty w H.size av) av := ⟨xPc_blind, fun U hU hW => x_pre hE hH hS U hU hW⟩
theorem x_preV (hE : xE G cl aty s) (hH : xhd G cl w H) (hS : xS G s H locs) {b ci : Nat} {C : String} {T : u_T} {N : Nat} {fs : List Value} (hc : cl[ci]? = some (C, T, N)) (hb : w b = some (.inl (ci, fs))) {As : List Value} : PreV s H C b (xPc G cl aty w H.size (.ref b :: As)) As :=
  ⟨xPc_blind, va_recv hE.1 (xhd_one hH hb) hc (q0 := 0) rfl, fun U hU hW => x_pre hE hH hS U hU hW⟩
end XH
/-- the receiver of a call: it is there and of the class -/
def xo (w : Mp) (r : Option Nat) (ci : Nat) : Option Nat := match r with
  | none => none
  | some a => match w a with
    | some (.inl o) => if o.1 = ci then some a else none
    | _ => none
theorem xo_inv {w : Mp} {r : Option Nat} {ci b : Nat} (h : xo w r ci = some b) : r = some b ∧ ∃ fs, w b = some (.inl (ci, fs)) := by
  unfold xo at h
  split at h
  · cases h
  · rename_i a
    split at h
    · rename_i o ho
      split at h
      · rename_i hc
        cases h
        exact ⟨rfl, o.2, by rw [ho, ← hc]⟩
      · cases h
    · cases h
/-! methods that only read: the heap is as it was -/
def qP (v : Option Value) : Array Value → State → Outcome → State → Prop := fun _ st oc t => oc = .returned v ∧ t.heap = st.heap
theorem x_le0 {cells slots a b : Nat} (h1 : cells ≤ a) (h2 : slots ≤ b) : cells + 0 ≤ a ∧ slots + 0 ≤ b := ⟨h1, h2⟩
theorem x_narR (ty : FieldType) (r : Option Nat) : narrow ty (va_rf r) = va_rf r := by cases r <;> cases ty <;> rfl
theorem x_fitR {ty : FieldType} (h : (∃ n, ty = .object n) ∨ ∃ t, ty = .array t) (r : Option Nat) : fits ty (va_rf r) = true := by
  rcases h with ⟨n, rfl⟩ | ⟨t, rfl⟩ <;> cases r <;> rfl
theorem x_nar {ty : FieldType} {v : Int32} (ht : ∀ x, ∃ y, narrow ty (.int x) = .int y) (h : vp_nar ty v = v) : narrow ty (.int v) = .int v := by
  obtain ⟨y, hy⟩ := ht v
  unfold vp_nar at h
  rw [hy] at h
  have h9 : y = v := h
  rw [hy, h9]
theorem x_ifs {α : Type} {c : Prop} [Decidable c] {A : Option α} {res : α} (h : (if c then A else none) = some res) : c ∧ A = some res := by
  by_cases hc : c
  · rw [if_pos hc] at h; exact ⟨hc, h⟩
  · rw [if_neg hc] at h; cases h
def xJ1 {a b : Type} (f : a → b) (F : (a → b) → b) : b := F f
def xJ2 {a1 a2 b : Type} (f : a1 → a2 → b) (F : (a1 → a2 → b) → b) : b := F f
def xJ3 {a1 a2 a3 b : Type} (f : a1 → a2 → a3 → b) (F : (a1 → a2 → a3 → b) → b) : b := F f
def xJ4 {a1 a2 a3 a4 b : Type} (f : a1 → a2 → a3 → a4 → b) (F : (a1 → a2 → a3 → a4 → b) → b) : b := F f
theorem xj1 {a b : Type} {f : a → Option b} {F : (a → Option b) → Option b} {res : b} {P : Prop} (h : xJ1 f F = some res) (k : ∀ J : a → Option b, (∀ x, J x = f x) → F J = some res → P) : P := k f (fun _ => rfl) h
theorem xj2 {a1 a2 b : Type} {f : a1 → a2 → Option b} {F : (a1 → a2 → Option b) → Option b} {res : b} {P : Prop} (h : xJ2 f F = some res) (k : ∀ J : a1 → a2 → Option b, (∀ x y, J x y = f x y) → F J = some res → P) : P := k f (fun _ _ => rfl) h
theorem xj3 {a1 a2 a3 b : Type} {f : a1 → a2 → a3 → Option b} {F : (a1 → a2 → a3 → Option b) → Option b} {res : b} {P : Prop} (h : xJ3 f F = some res) (k : ∀ J : a1 → a2 → a3 → Option b, (∀ x y z, J x y z = f x y z) → F J = some res → P) : P := k f (fun _ _ _ => rfl) h
theorem xj4 {a1 a2 a3 a4 b : Type} {f : a1 → a2 → a3 → a4 → Option b} {F : (a1 → a2 → a3 → a4 → Option b) → Option b} {res : b} {P : Prop} (h : xJ4 f F = some res) (k : ∀ J : a1 → a2 → a3 → a4 → Option b, (∀ x y z u, J x y z u = f x y z u) → F J = some res → P) : P := k f (fun _ _ _ _ => rfl) h
section XP
variable {p : Program} {l : Launch} {e : Env} {R : Room} {s : State} {m : MethodId} {args : Array Value} {below : List Frame} {meth : Method} {c : Code} {H : Heap} {locs : List Loc} {cells slots : Nat} {Q : State → Prop}
variable {cc : ByteArray} {pc nL : Nat} {ls : Array Slot} {rest : List Value} {Ts : List Cond} {own : String}
variable {G : Gx} {cl : List vw_C} {aty : List FieldType} {w : Mp} {α : Type} {res : α}
theorem x_null (C0 : CallFix p m c cc nL s args Ts own) (hdg : decode cc pc = .ok (.aconst_null, 1)) (k : W p l e R s m args below meth c H locs cells slots Q (F0 m (pc + 1) ls (va_rf none :: rest))) : W p l e R s m args below meth c H locs cells slots Q (F0 m pc ls rest) := lv_null C0.1 C0.2.1 hdg k
theorem x_iretP (C0 : CallFix p m c cc nL s args Ts own) (hr : meth.sig.returnType = some .int) (hlocks : meth.locks = false) (hP : H = s.heap ∧ locs = []) {v : Int32} (hdg : decode cc pc = .ok (.ireturn, 1)) : W p l e R s m args below meth c H locs cells slots (MQ below (qP (some (.int v))) args s cells slots (fun _ => False)) (F0 m pc ls [.int v]) := by
  obtain ⟨rfl, rfl⟩ := hP
  exact W.iret C0.1 C0.2.1 hr (fun t ht _ => ⟨rfl, ht⟩) (fun q h => by cases h) hdg hlocks
theorem x_zretP (C0 : CallFix p m c cc nL s args Ts own) {ty : FieldType} (hr : meth.sig.returnType = some ty) (hlocks : meth.locks = false) (hP : H = s.heap ∧ locs = []) {v : Int32} (hn : narrow ty (.int v) = .int v) (hdg : decode cc pc = .ok (.ireturn, 1)) : W p l e R s m args below meth c H locs cells slots (MQ below (qP (some (.int v))) args s cells slots (fun _ => False)) (F0 m pc ls [.int v]) := by
  obtain ⟨rfl, rfl⟩ := hP
  exact W.zret C0.1 C0.2.1 hr hn (fun t ht _ => ⟨rfl, ht⟩) (fun q h => by cases h) hdg hlocks
theorem x_lretP (C0 : CallFix p m c cc nL s args Ts own) (hr : meth.sig.returnType = some .long) (hlocks : meth.locks = false) (hP : H = s.heap ∧ locs = []) {v : Int64} (hdg : decode cc pc = .ok (.lreturn, 1)) : W p l e R s m args below meth c H locs cells slots (MQ below (qP (some (.long v))) args s cells slots (fun _ => False)) (F0 m pc ls [.long v]) := by
  obtain ⟨rfl, rfl⟩ := hP
  exact W.lret C0.1 C0.2.1 hr (fun t ht _ => ⟨rfl, ht⟩) (fun q h => by cases h) hdg hlocks
theorem x_aretP (C0 : CallFix p m c cc nL s args Ts own) {rt : FieldType} (hr : meth.sig.returnType = some rt) (hrt : (∃ n, rt = .object n) ∨ ∃ t, rt = .array t) (hlocks : meth.locks = false) (hP : H = s.heap ∧ locs = []) {v : Option Nat} (hdg : decode cc pc = .ok (.areturn, 1)) : W p l e R s m args below meth c H locs cells slots (MQ below (qP (some (va_rf v))) args s cells slots (fun _ => False)) (F0 m pc ls [va_rf v]) := by
  obtain ⟨rfl, rfl⟩ := hP
  exact W.aret C0.1 C0.2.1 hr hrt (by cases v with | none => exact Or.inl rfl | some a => exact Or.inr ⟨a, rfl⟩) (fun t ht _ => ⟨rfl, ht⟩) (fun q h => by cases h) hdg hlocks
theorem x_vretP (C0 : CallFix p m c cc nL s args Ts own) (hr : meth.sig.returnType = none) (hlocks : meth.locks = false) (hP : H = s.heap ∧ locs = []) (hdg : decode cc pc = .ok (.return_, 1)) : W p l e R s m args below meth c H locs cells slots (MQ below (qP none) args s cells slots (fun _ => False)) (F0 m pc ls []) := by
  obtain ⟨rfl, rfl⟩ := hP
  exact W.vret C0.1 C0.2.1 hr (fun t ht _ => ⟨rfl, ht⟩) (fun q h => by cases h) hdg hlocks
theorem x_callP {v : Option Value} {a : Array Value} {st0 : List Value} (hr : va_Run p l e R s m args below meth c H locs cells slots 0 0 (F0 m pc ls st0) rest (qP v a) (fun _ => False))
    (kk : W p l e R s m args below meth c H locs cells slots Q (F0 m (pc + 3) ls (v.toList ++ rest))) : W p l e R s m args below meth c H locs cells slots Q (F0 m pc ls st0) := by
  intro T hT X
  obtain ⟨v', st₀, t, T', L, h0, X', hL, e1, e2, ⟨hv, hh⟩, st⟩ := hr T hT X
  cases hv
  obtain ⟨t2, a1, b1⟩ := kk T' (by rw [e1, hh, h0]) (Stand.forget X' (fun q h => (hL q h).elim))
  exact ⟨t2, st t2 a1, b1⟩
theorem x_call0 {v : Option Value} {a : Array Value} {st0 : List Value} {w' : Mp} {sz' : Nat} (hS : xS G s H locs) (hr : va_Run p l e R s m args below meth c H locs cells slots 0 0 (F0 m pc ls st0) rest (xQ G cl v w' sz' a) (xA G))
    (kk : ∀ H' locs', xhd G cl w' H' → xS G s H' locs' → H'.size = sz' → W p l e R s m args below meth c H' locs' cells slots Q (F0 m (pc + 3) ls (v.toList ++ rest))) : W p l e R s m args below meth c H locs cells slots Q (F0 m pc ls st0) :=
  x_call hS hr kk
end XP
/-! what a call asks of the words, out of wA -/
theorem x_rm {R : Room} {a b c d : Nat} (h1 : a ≤ R.frames) (h2 : b ≤ R.locals) (h3 : c ≤ a) (h4 : d ≤ b) : c ≤ R.frames ∧ d ≤ R.locals := ⟨Nat.le_trans h3 h1, Nat.le_trans h4 h2⟩
theorem x_good {y : MethodName} {bytes : ByteArray} {maxL : Nat} {ret : Option FieldType} (hc : Cond.code y bytes maxL ret ∈ wA) : GoodIn wA (xws y bytes maxL ret) := by
  intro w hw
  have h : w ∈ wA := by
    rcases List.mem_cons.mp hw with h | h
    · rw [h]; exact hc
    · exact h
  exact ⟨h, good_of_word (List.mem_filter.mp h).2⟩
section XW
variable {p : Program} {R : Room} {s : State} {m : MethodId} {args : Array Value} {c : Code} {cc : ByteArray} {nL : Nat} {own : String}
theorem x_cwV {index maxL mc ms : Nat} {y : MethodName} {C : String} {bytes : ByteArray} {ret : Option FieldType} {rm : Room} (n : Nat) (C0 : CallFix p m c cc nL s args wA own) (hl : Cond.methodLink own index y ∈ wA) (hc : Cond.code y bytes maxL ret ∈ wA) (hi : Cond.initialized y.cls ∈ wA) (hin : Cond.instanceMethod y ∈ wA) (hse : Cond.selects C y y ∈ wA)
    (hd : y.cls ≠ "java/lang/invoke/MethodHandle" ∧ y.cls ≠ "java/lang/invoke/VarHandle" ∧ (parseMethodDescriptor y.desc).map (fun d => d.parameters.length) = some n) (hR : rm.frames + 1 ≤ R.frames ∧ 8 + (maxL + 11) + rm.locals ≤ R.locals) (hrc : rm.cells = mc := by rfl) (hrs : rm.slots = ms := by rfl) :
    CallW R s args own C index y bytes maxL ret (xws y bytes maxL ret) rm mc ms n :=
  ⟨callB_of n C0.2.2.2.2 (x_good hc) rfl hrc hrs (C0.2.2.2.2 _ hi) (C0.2.2.2.2 _ hl) hd hR, C0.2.2.2.2 _ hin, C0.2.2.2.2 _ hse⟩
theorem x_cwS {index maxL mc ms : Nat} {y : MethodName} {bytes : ByteArray} {ret : Option FieldType} {rm : Room} (n : Nat) (C0 : CallFix p m c cc nL s args wA own) (hl : Cond.methodLink own index y ∈ wA) (hc : Cond.code y bytes maxL ret ∈ wA) (hi : Cond.initialized y.cls ∈ wA) (hst : Cond.static y ∈ wA)
    (hd : y.cls ≠ "java/lang/invoke/MethodHandle" ∧ y.cls ≠ "java/lang/invoke/VarHandle" ∧ (parseMethodDescriptor y.desc).map (fun d => d.parameters.length) = some n) (hR : rm.frames + 1 ≤ R.frames ∧ 8 + (maxL + 11) + rm.locals ≤ R.locals) (hrc : rm.cells = mc := by rfl) (hrs : rm.slots = ms := by rfl) :
    CallB R s args own index y bytes maxL ret (xws y bytes maxL ret) rm mc ms n ∧ (Cond.static y).before args s = true :=
  ⟨callB_of n C0.2.2.2.2 (x_good hc) rfl hrc hrs (C0.2.2.2.2 _ hi) (C0.2.2.2.2 _ hl) hd hR, C0.2.2.2.2 _ hst⟩
theorem x_cwI {index maxL mc ms : Nat} {y : MethodName} {bytes : ByteArray} {rm : Room} (n : Nat) (C0 : CallFix p m c cc nL s args wA own) (hl : Cond.methodLink own index y ∈ wA) (hc : Cond.code y bytes maxL none ∈ wA) (hi : Cond.initialized y.cls ∈ wA) (hin : Cond.instanceMethod y ∈ wA) (hy1 : y.name = "<init>")
    (hd : y.cls ≠ "java/lang/invoke/MethodHandle" ∧ y.cls ≠ "java/lang/invoke/VarHandle" ∧ (parseMethodDescriptor y.desc).map (fun d => d.parameters.length) = some n) (hR : rm.frames + 1 ≤ R.frames ∧ 8 + (maxL + 11) + rm.locals ≤ R.locals) (hrc : rm.cells = mc := by rfl) (hrs : rm.slots = ms := by rfl) :
    CallB R s args own index y bytes maxL none (xws y bytes maxL none) rm mc ms n ∧ y.name = "<init>" ∧ (Cond.instanceMethod y).before args s = true :=
  ⟨callB_of n C0.2.2.2.2 (x_good hc) rfl hrc hrs (C0.2.2.2.2 _ hi) (C0.2.2.2.2 _ hl) hd hR, hy1, C0.2.2.2.2 _ hin⟩
theorem x_cnS {index maxL mc ms : Nat} {y : MethodName} {host : String} {bytes : ByteArray} {ret : Option FieldType} {rm : Room} (n : Nat) (C0 : CallFix p m c cc nL s args wA own) (hl : va_Nw (.methodLinkNest own index y host) s) (hc : Cond.code y bytes maxL ret ∈ wA) (hi : Cond.initialized y.cls ∈ wA) (hst : Cond.static y ∈ wA)
    (hd : y.cls ≠ "java/lang/invoke/MethodHandle" ∧ y.cls ≠ "java/lang/invoke/VarHandle" ∧ (parseMethodDescriptor y.desc).map (fun d => d.parameters.length) = some n) (hR : rm.frames + 1 ≤ R.frames ∧ 8 + (maxL + 11) + rm.locals ≤ R.locals) (hrc : rm.cells = mc := by rfl) (hrs : rm.slots = ms := by rfl) :
    va_CN R s args own index y host bytes maxL ret (xws y bytes maxL ret) rm mc ms n ∧ (Cond.static y).before args s = true ∧ True :=
  ⟨va_cnB n C0.2.2.2.2 (x_good hc) rfl hrc hrs hl (C0.2.2.2.2 _ hi) hd hR, C0.2.2.2.2 _ hst, trivial⟩
end XW
def xtab (i : Int32) : Option Int32 := if i < 0 ∨ 7 ≤ i.toNatClampNeg then none else some (xsh i.toNatClampNeg)
section XT
variable {p : Program} {l : Launch} {e : Env} {R : Room} {s : State} {m : MethodId} {args : Array Value} {below : List Frame} {meth : Method} {c : Code} {H : Heap} {locs : List Loc} {cells slots : Nat} {Q : State → Prop}
variable {cc : ByteArray} {pc nL : Nat} {ls : Array Slot} {rest : List Value} {Ts : List Cond} {own : String}
variable {G : Gx} {cl : List vw_C} {aty : List FieldType} {w : Mp} {α : Type} {res : α}
theorem x_shifts (C0 : CallFix p m c cc nL s args Ts own) (hE : xE G cl aty s) (hS : xS G s H locs) {index : Nat} (hl : Cond.fieldLinkNest own index "LeafMatches" "SHIFTS" "[I" "LeafMatches" ∈ xnw) (hdg : decode cc pc = .ok (.getstatic index, 3))
    (kk : W p l e R s m args below meth c H locs cells slots Q (F0 m (pc + 3) ls (.ref (G.2.2.2 0) :: rest))) : W p l e R s m args below meth c H locs cells slots Q (F0 m pc ls rest) :=
  va_getsN C0.1 C0.2.1 hE.2.2.2.1.1 hS C0.2.2.2.1 (va_Nw.use rfl (hE.2.2.1 _ hl)) (fun _ h9 => h9) hdg kk
theorem x_tald (C0 : CallFix p m c cc nL s args Ts own) (hE : xE G cl aty s) (hS : xS G s H locs) (hdg : decode cc pc = .ok (.iaload, 1)) {i : Int32} {F : Int32 → Option α} (h : (xtab i).bind F = some res)
    (kk : ∀ v, F v = some res → W p l e R s m args below meth c H locs cells slots Q (F0 m (pc + 1) ls (.int v :: rest))) : W p l e R s m args below meth c H locs cells slots Q (F0 m pc ls (.int i :: .ref (G.2.2.2 0) :: rest)) := by
  obtain ⟨v, hv, hF⟩ := Option.bind_eq_some_iff.mp h
  unfold xtab at hv
  split at hv
  · cases hv
  · rename_i hin
    cases hv
    exact va_ti C0.1 C0.2.1 hE.2.2.2.1.2 hS hin rfl hdg (kk _ hF)
theorem x_tlen (C0 : CallFix p m c cc nL s args Ts own) (hE : xE G cl aty s) (hS : xS G s H locs) (hdg : decode cc pc = .ok (.arraylength, 1))
    (kk : W p l e R s m args below meth c H locs cells slots Q (F0 m (pc + 1) ls (.int 7 :: rest))) : W p l e R s m args below meth c H locs cells slots Q (F0 m pc ls (.ref (G.2.2.2 0) :: rest)) :=
  va_tlen C0.1 C0.2.1 hE.2.2.2.1.2 hS (by decide) hdg kk
end XT
theorem x_catI (x : Int32) : (Value.int x).category = 1 := rfl
theorem x_catL (x : Int64) : (Value.long x).category = 2 := rfl
theorem x_catA (x : Nat) : (Value.ref x).category = 1 := rfl
end
section
theorem kw_1_9 : (Jvm.Cond.initialized "LeafMatches$Leaf") ∈ wA := ku_1 9 rfl rfl
theorem kw_1_214 : (Jvm.Cond.fieldLink "LeafMatches$Leaf" (25 : Nat) "LeafMatches$Leaf" "number" "I") ∈ wA := ku_1 214 rfl rfl
theorem kw_1_216 : (Jvm.Cond.fieldLink "LeafMatches$Leaf" (28 : Nat) "LeafMatches$Leaf" "width" "I") ∈ wA := ku_1 216 rfl rfl
theorem kw_1_220 : (Jvm.Cond.fieldLink "LeafMatches$Leaf" (31 : Nat) "LeafMatches$Leaf" "height" "I") ∈ wA := ku_1 220 rfl rfl
theorem kw_1_223 : (Jvm.Cond.fieldLink "LeafMatches$Leaf" (34 : Nat) "LeafMatches$Leaf" "greys" "[I") ∈ wA := ku_1 223 rfl rfl
theorem kw_1_224 : (Jvm.Cond.fieldLink "LeafMatches$Leaf" (9 : Nat) "LeafMatches$Leaf" "order" "I") ∈ wA := ku_1 224 rfl rfl
theorem kw_1_226 : (Jvm.Cond.fieldLink "LeafMatches$Leaf" (15 : Nat) "LeafMatches$Leaf" "used" "Z") ∈ wA := ku_1 226 rfl rfl
theorem kw_2_23 : (Jvm.Cond.instanceMethod ({ cls := "LeafMatches$Leaf", name := "holds", desc := "(II)Z" } : Jvm.MethodName)) ∈ wA := ku_2 23 rfl rfl
theorem kw_2_24 : (Jvm.Cond.selects "LeafMatches$Leaf" ({ cls := "LeafMatches$Leaf", name := "holds", desc := "(II)Z" } : Jvm.MethodName) ({ cls := "LeafMatches$Leaf", name := "holds", desc := "(II)Z" } : Jvm.MethodName)) ∈ wA := ku_2 24 rfl rfl
theorem kw_2_25 : (Jvm.Cond.code ({ cls := "LeafMatches$Leaf", name := "holds", desc := "(II)Z" } : Jvm.MethodName) prog_3_method_4_code (3 : Nat) (Option.some Jvm.ClassFile.FieldType.boolean)) ∈ wA := ku_2 25 rfl rfl
theorem kw_2_196 : (Jvm.Cond.methodLink "LeafMatches$Leaf" (38 : Nat) ({ cls := "LeafMatches$Leaf", name := "holds", desc := "(II)Z" } : Jvm.MethodName)) ∈ wA := ku_2 196 rfl rfl
theorem d_Leaf_isFree_0 : decode b_Leaf_isFree 0 = .ok (.aload_n 0, 1) := by decide +kernel
theorem d_Leaf_isFree_1 : decode b_Leaf_isFree 1 = .ok (.getfield 15, 3) := by decide +kernel
theorem d_Leaf_isFree_4 : decode b_Leaf_isFree 4 = .ok (.ifCond .ne 14, 3) := by decide +kernel
theorem d_Leaf_isFree_7 : decode b_Leaf_isFree 7 = .ok (.aload_n 0, 1) := by decide +kernel
theorem d_Leaf_isFree_8 : decode b_Leaf_isFree 8 = .ok (.getfield 9, 3) := by decide +kernel
theorem d_Leaf_isFree_11 : decode b_Leaf_isFree 11 = .ok (.ifCond .ne 7, 3) := by decide +kernel
theorem d_Leaf_isFree_14 : decode b_Leaf_isFree 14 = .ok (.iconst 1, 1) := by decide +kernel
theorem d_Leaf_isFree_15 : decode b_Leaf_isFree 15 = .ok (.goto 4, 3) := by decide +kernel
theorem d_Leaf_isFree_18 : decode b_Leaf_isFree 18 = .ok (.iconst 0, 1) := by decide +kernel
theorem d_Leaf_isFree_19 : decode b_Leaf_isFree 19 = .ok (.ireturn, 1) := by decide +kernel
def f_Leaf_isFree (w : Mp) (h0 : Nat) : Option (Int32) := (gI w (some h0) 1 7).bind fun v_1 => if v_1 = 0 then ((gI w (some h0) 1 6).bind fun v_2 => if v_2 = 0 then (some (1 : Int32)) else (some (0 : Int32))) else (some (0 : Int32))
set_option maxHeartbeats 4000000 in
set_option maxRecDepth 100000 in
theorem c_Leaf_isFree (l : Launch) (G : Gx) (w : Mp) (sz : Nat) (h0 : Nat) (res : Int32) (hf : f_Leaf_isFree w h0 = some res) : Met l y_Leaf_isFree (xws y_Leaf_isFree b_Leaf_isFree 1 (some .boolean)) { frames := 0, cells := 0, slots := 0, locals := 0 } (xPc G vwCl xaty w sz [va_rf (some h0)]) (qP (some (.int res))) 0 0 (fun _ => False) := by
  refine Met.ofW (cc := b_Leaf_isFree) (maxL := 1) (ret := (some .boolean)) (by decide) rfl ?_
  intro p e s m args below meth c s₁ B hml hv
  obtain ⟨ha, hE, hH, hz⟩ := hv
  have C0 : CallFix p m c b_Leaf_isFree 1 s args wA R_Leaf := ⟨B.exec, B.bytes, hml, findClass_of_methodNamed B.named, fun w hw => atoms_spec (ws := xws y_Leaf_isFree b_Leaf_isFree 1 (some .boolean)) B.pre w (List.mem_cons_of_mem _ hw)⟩
  have hr := B.returns
  have hlocks := B.notSynchronized
  obtain ⟨R, hR⟩ : ∃ R, R = (headSpec (xws y_Leaf_isFree b_Leaf_isFree 1 (some .boolean)) { frames := 0, cells := 0, slots := 0, locals := 0 }).room := ⟨_, rfl⟩
  have hR1 : 0 ≤ R.frames := by rw [hR]; exact Nat.le_of_ble_eq_true rfl
  have hR2 : 0 ≤ R.locals := by rw [hR]; exact Nat.le_of_ble_eq_true rfl
  have hR3 : 0 ≤ R.cells := Nat.zero_le _
  have hR4 : 0 ≤ R.slots := Nat.zero_le _
  rw [← hR]
  obtain ⟨Q, hQ⟩ : ∃ Q, Q = MQ below (qP (some (.int res))) args s 0 0 (fun _ => False) := ⟨_, rfl⟩
  rw [← hQ]
  have hS : xS G s s.heap [] := va_S.rf
  obtain ⟨ls, he, hl⟩ := x_entry m [.inr (.inl (some h0))] 1 (Nat.le_of_ble_eq_true rfl)
  rw [show entryFrame m args 1 = F0 m 0 ls [] by rw [ha]; exact he]
  have hl : xL ls 1 [(0, .inr (.inl (some h0)))] := hl
  have h := hf
  unfold f_Leaf_isFree at h
  suffices hmain : ∀ (H : Heap) (locs : List Loc), xhd G vwCl w H → xS G s H locs → H.size = sz → (H = s.heap ∧ locs = []) → W p l e R s m args below meth c H locs 0 0 Q (F0 m 0 ls []) from hmain _ _ hH hS hz ⟨rfl, rfl⟩
  clear hH hS hz
  intro H locs hH hS hz hP0
  refine x_aload_n C0 hl 0 d_Leaf_isFree_0 rfl rfl ?_
  refine x_getI C0 hE hH (ci := 1) rfl i_Leaf 7 (by decide) kw_1_226 d_Leaf_isFree_1 h (fun v_1 h => ?_)
  refine x_if_ne C0 18 d_Leaf_isFree_4 (by decide) h (fun h => ?_) (fun h => ?_)
  · refine lv_iconst (v := 0) C0.1 C0.2.1 d_Leaf_isFree_18 (by decide) ?_
    cases h
    rw [hQ]
    exact x_zretP C0 hr hlocks hP0 rfl d_Leaf_isFree_19
  · refine x_aload_n C0 hl 0 d_Leaf_isFree_7 rfl rfl ?_
    refine x_getI C0 hE hH (ci := 1) rfl i_Leaf 6 (by decide) kw_1_224 d_Leaf_isFree_8 h (fun v_2 h => ?_)
    refine x_if_ne C0 18 d_Leaf_isFree_11 (by decide) h (fun h => ?_) (fun h => ?_)
    · refine lv_iconst (v := 0) C0.1 C0.2.1 d_Leaf_isFree_18 (by decide) ?_
      cases h
      rw [hQ]
      exact x_zretP C0 hr hlocks hP0 rfl d_Leaf_isFree_19
    · refine lv_iconst (v := 1) C0.1 C0.2.1 d_Leaf_isFree_14 (by decide) ?_
      refine x_goto C0 19 d_Leaf_isFree_15 (by decide) ?_
      cases h
      rw [hQ]
      exact x_zretP C0 hr hlocks hP0 rfl d_Leaf_isFree_19
theorem d_Leaf_follows_0 : decode b_Leaf_follows 0 = .ok (.aload_n 0, 1) := by decide +kernel
theorem d_Leaf_follows_1 : decode b_Leaf_follows 1 = .ok (.getfield 25, 3) := by decide +kernel
theorem d_Leaf_follows_4 : decode b_Leaf_follows 4 = .ok (.aload_n 1, 1) := by decide +kernel
theorem d_Leaf_follows_5 : decode b_Leaf_follows 5 = .ok (.getfield 25, 3) := by decide +kernel
theorem d_Leaf_follows_8 : decode b_Leaf_follows 8 = .ok (.iconst 1, 1) := by decide +kernel
theorem d_Leaf_follows_9 : decode b_Leaf_follows 9 = .ok (.iadd, 1) := by decide +kernel
theorem d_Leaf_follows_10 : decode b_Leaf_follows 10 = .ok (.if_icmp .ne 7, 3) := by decide +kernel
theorem d_Leaf_follows_13 : decode b_Leaf_follows 13 = .ok (.iconst 1, 1) := by decide +kernel
theorem d_Leaf_follows_14 : decode b_Leaf_follows 14 = .ok (.goto 4, 3) := by decide +kernel
theorem d_Leaf_follows_17 : decode b_Leaf_follows 17 = .ok (.iconst 0, 1) := by decide +kernel
theorem d_Leaf_follows_18 : decode b_Leaf_follows 18 = .ok (.ireturn, 1) := by decide +kernel
def f_Leaf_follows (w : Mp) (h0 : Nat) (r1 : Option Nat) : Option (Int32) := (gI w (some h0) 1 2).bind fun v_1 => (gI w r1 1 2).bind fun v_2 => if v_1 = (v_2 + (1 : Int32)) then (some (1 : Int32)) else (some (0 : Int32))
set_option maxHeartbeats 4000000 in
set_option maxRecDepth 100000 in
theorem c_Leaf_follows (l : Launch) (G : Gx) (w : Mp) (sz : Nat) (h0 : Nat) (r1 : Option Nat) (res : Int32) (hf : f_Leaf_follows w h0 r1 = some res) : Met l y_Leaf_follows (xws y_Leaf_follows b_Leaf_follows 2 (some .boolean)) { frames := 0, cells := 0, slots := 0, locals := 0 } (xPc G vwCl xaty w sz [va_rf (some h0), va_rf r1]) (qP (some (.int res))) 0 0 (fun _ => False) := by
  refine Met.ofW (cc := b_Leaf_follows) (maxL := 2) (ret := (some .boolean)) (by decide) rfl ?_
  intro p e s m args below meth c s₁ B hml hv
  obtain ⟨ha, hE, hH, hz⟩ := hv
  have C0 : CallFix p m c b_Leaf_follows 2 s args wA R_Leaf := ⟨B.exec, B.bytes, hml, findClass_of_methodNamed B.named, fun w hw => atoms_spec (ws := xws y_Leaf_follows b_Leaf_follows 2 (some .boolean)) B.pre w (List.mem_cons_of_mem _ hw)⟩
  have hr := B.returns
  have hlocks := B.notSynchronized
  obtain ⟨R, hR⟩ : ∃ R, R = (headSpec (xws y_Leaf_follows b_Leaf_follows 2 (some .boolean)) { frames := 0, cells := 0, slots := 0, locals := 0 }).room := ⟨_, rfl⟩
  have hR1 : 0 ≤ R.frames := by rw [hR]; exact Nat.le_of_ble_eq_true rfl
  have hR2 : 0 ≤ R.locals := by rw [hR]; exact Nat.le_of_ble_eq_true rfl
  have hR3 : 0 ≤ R.cells := Nat.zero_le _
  have hR4 : 0 ≤ R.slots := Nat.zero_le _
  rw [← hR]
  obtain ⟨Q, hQ⟩ : ∃ Q, Q = MQ below (qP (some (.int res))) args s 0 0 (fun _ => False) := ⟨_, rfl⟩
  rw [← hQ]
  have hS : xS G s s.heap [] := va_S.rf
  obtain ⟨ls, he, hl⟩ := x_entry m [.inr (.inl (some h0)), .inr (.inl r1)] 2 (Nat.le_of_ble_eq_true rfl)
  rw [show entryFrame m args 2 = F0 m 0 ls [] by rw [ha]; exact he]
  have hl : xL ls 2 [(0, .inr (.inl (some h0))), (1, .inr (.inl r1))] := hl
  have h := hf
  unfold f_Leaf_follows at h
  suffices hmain : ∀ (H : Heap) (locs : List Loc), xhd G vwCl w H → xS G s H locs → H.size = sz → (H = s.heap ∧ locs = []) → W p l e R s m args below meth c H locs 0 0 Q (F0 m 0 ls []) from hmain _ _ hH hS hz ⟨rfl, rfl⟩
  clear hH hS hz
  intro H locs hH hS hz hP0
  refine x_aload_n C0 hl 0 d_Leaf_follows_0 rfl rfl ?_
  refine x_getI C0 hE hH (ci := 1) rfl i_Leaf 2 (by decide) kw_1_214 d_Leaf_follows_1 h (fun v_1 h => ?_)
  refine x_aload_n C0 hl 1 d_Leaf_follows_4 rfl rfl ?_
  refine x_getI C0 hE hH (ci := 1) rfl i_Leaf 2 (by decide) kw_1_214 d_Leaf_follows_5 h (fun v_2 h => ?_)
  refine lv_iconst (v := 1) C0.1 C0.2.1 d_Leaf_follows_8 (by decide) ?_
  refine lv_iadd C0.1 C0.2.1 d_Leaf_follows_9 ?_
  refine x_icmp_ne C0 17 d_Leaf_follows_10 (by decide) h (fun h => ?_) (fun h => ?_)
  · refine lv_iconst (v := 0) C0.1 C0.2.1 d_Leaf_follows_17 (by decide) ?_
    cases h
    rw [hQ]
    exact x_zretP C0 hr hlocks hP0 rfl d_Leaf_follows_18
  · refine lv_iconst (v := 1) C0.1 C0.2.1 d_Leaf_follows_13 (by decide) ?_
    refine x_goto C0 18 d_Leaf_follows_14 (by decide) ?_
    cases h
    rw [hQ]
    exact x_zretP C0 hr hlocks hP0 rfl d_Leaf_follows_18
theorem d_Leaf_holds_0 : decode b_Leaf_holds 0 = .ok (.iload_n 1, 1) := by decide +kernel
theorem d_Leaf_holds_1 : decode b_Leaf_holds 1 = .ok (.ifCond .lt 27, 3) := by decide +kernel
theorem d_Leaf_holds_4 : decode b_Leaf_holds 4 = .ok (.iload_n 1, 1) := by decide +kernel
theorem d_Leaf_holds_5 : decode b_Leaf_holds 5 = .ok (.aload_n 0, 1) := by decide +kernel
theorem d_Leaf_holds_6 : decode b_Leaf_holds 6 = .ok (.getfield 28, 3) := by decide +kernel
theorem d_Leaf_holds_9 : decode b_Leaf_holds 9 = .ok (.if_icmp .ge 19, 3) := by decide +kernel
theorem d_Leaf_holds_12 : decode b_Leaf_holds 12 = .ok (.iload_n 2, 1) := by decide +kernel
theorem d_Leaf_holds_13 : decode b_Leaf_holds 13 = .ok (.ifCond .lt 15, 3) := by decide +kernel
theorem d_Leaf_holds_16 : decode b_Leaf_holds 16 = .ok (.iload_n 2, 1) := by decide +kernel
theorem d_Leaf_holds_17 : decode b_Leaf_holds 17 = .ok (.aload_n 0, 1) := by decide +kernel
theorem d_Leaf_holds_18 : decode b_Leaf_holds 18 = .ok (.getfield 31, 3) := by decide +kernel
theorem d_Leaf_holds_21 : decode b_Leaf_holds 21 = .ok (.if_icmp .ge 7, 3) := by decide +kernel
theorem d_Leaf_holds_24 : decode b_Leaf_holds 24 = .ok (.iconst 1, 1) := by decide +kernel
theorem d_Leaf_holds_25 : decode b_Leaf_holds 25 = .ok (.goto 4, 3) := by decide +kernel
theorem d_Leaf_holds_28 : decode b_Leaf_holds 28 = .ok (.iconst 0, 1) := by decide +kernel
theorem d_Leaf_holds_29 : decode b_Leaf_holds 29 = .ok (.ireturn, 1) := by decide +kernel
def f_Leaf_holds (w : Mp) (h0 : Nat) (x1 : Int32) (x2 : Int32) : Option (Int32) := if x1 < 0 then (some (0 : Int32)) else ((gI w (some h0) 1 3).bind fun v_1 => if v_1 ≤ x1 then (some (0 : Int32)) else (if x2 < 0 then (some (0 : Int32)) else ((gI w (some h0) 1 4).bind fun v_2 => if v_2 ≤ x2 then (some (0 : Int32)) else (some (1 : Int32)))))
set_option maxHeartbeats 4000000 in
set_option maxRecDepth 100000 in
theorem c_Leaf_holds (l : Launch) (G : Gx) (w : Mp) (sz : Nat) (h0 : Nat) (x1 : Int32) (x2 : Int32) (res : Int32) (hf : f_Leaf_holds w h0 x1 x2 = some res) : Met l y_Leaf_holds (xws y_Leaf_holds b_Leaf_holds 3 (some .boolean)) { frames := 0, cells := 0, slots := 0, locals := 0 } (xPc G vwCl xaty w sz [va_rf (some h0), .int x1, .int x2]) (qP (some (.int res))) 0 0 (fun _ => False) := by
  refine Met.ofW (cc := b_Leaf_holds) (maxL := 3) (ret := (some .boolean)) (by decide) rfl ?_
  intro p e s m args below meth c s₁ B hml hv
  obtain ⟨ha, hE, hH, hz⟩ := hv
  have C0 : CallFix p m c b_Leaf_holds 3 s args wA R_Leaf := ⟨B.exec, B.bytes, hml, findClass_of_methodNamed B.named, fun w hw => atoms_spec (ws := xws y_Leaf_holds b_Leaf_holds 3 (some .boolean)) B.pre w (List.mem_cons_of_mem _ hw)⟩
  have hr := B.returns
  have hlocks := B.notSynchronized
  obtain ⟨R, hR⟩ : ∃ R, R = (headSpec (xws y_Leaf_holds b_Leaf_holds 3 (some .boolean)) { frames := 0, cells := 0, slots := 0, locals := 0 }).room := ⟨_, rfl⟩
  have hR1 : 0 ≤ R.frames := by rw [hR]; exact Nat.le_of_ble_eq_true rfl
  have hR2 : 0 ≤ R.locals := by rw [hR]; exact Nat.le_of_ble_eq_true rfl
  have hR3 : 0 ≤ R.cells := Nat.zero_le _
  have hR4 : 0 ≤ R.slots := Nat.zero_le _
  rw [← hR]
  obtain ⟨Q, hQ⟩ : ∃ Q, Q = MQ below (qP (some (.int res))) args s 0 0 (fun _ => False) := ⟨_, rfl⟩
  rw [← hQ]
  have hS : xS G s s.heap [] := va_S.rf
  obtain ⟨ls, he, hl⟩ := x_entry m [.inr (.inl (some h0)), .inl x1, .inl x2] 3 (Nat.le_of_ble_eq_true rfl)
  rw [show entryFrame m args 3 = F0 m 0 ls [] by rw [ha]; exact he]
  have hl : xL ls 3 [(0, .inr (.inl (some h0))), (1, .inl x1), (2, .inl x2)] := hl
  have h := hf
  unfold f_Leaf_holds at h
  suffices hmain : ∀ (H : Heap) (locs : List Loc), xhd G vwCl w H → xS G s H locs → H.size = sz → (H = s.heap ∧ locs = []) → W p l e R s m args below meth c H locs 0 0 Q (F0 m 0 ls []) from hmain _ _ hH hS hz ⟨rfl, rfl⟩
  clear hH hS hz
  intro H locs hH hS hz hP0
  refine x_iload_n C0 hl 1 d_Leaf_holds_0 rfl rfl ?_
  refine x_if_lt C0 28 d_Leaf_holds_1 (by decide) h (fun h => ?_) (fun h => ?_)
  · refine lv_iconst (v := 0) C0.1 C0.2.1 d_Leaf_holds_28 (by decide) ?_
    cases h
    rw [hQ]
    exact x_zretP C0 hr hlocks hP0 rfl d_Leaf_holds_29
  · refine x_iload_n C0 hl 1 d_Leaf_holds_4 rfl rfl ?_
    refine x_aload_n C0 hl 0 d_Leaf_holds_5 rfl rfl ?_
    refine x_getI C0 hE hH (ci := 1) rfl i_Leaf 3 (by decide) kw_1_216 d_Leaf_holds_6 h (fun v_1 h => ?_)
    refine x_icmp_ge C0 28 d_Leaf_holds_9 (by decide) h (fun h => ?_) (fun h => ?_)
    · refine lv_iconst (v := 0) C0.1 C0.2.1 d_Leaf_holds_28 (by decide) ?_
      cases h
      rw [hQ]
      exact x_zretP C0 hr hlocks hP0 rfl d_Leaf_holds_29
    · refine x_iload_n C0 hl 2 d_Leaf_holds_12 rfl rfl ?_
      refine x_if_lt C0 28 d_Leaf_holds_13 (by decide) h (fun h => ?_) (fun h => ?_)
      · refine lv_iconst (v := 0) C0.1 C0.2.1 d_Leaf_holds_28 (by decide) ?_
        cases h
        rw [hQ]
        exact x_zretP C0 hr hlocks hP0 rfl d_Leaf_holds_29
      · refine x_iload_n C0 hl 2 d_Leaf_holds_16 rfl rfl ?_
        refine x_aload_n C0 hl 0 d_Leaf_holds_17 rfl rfl ?_
        refine x_getI C0 hE hH (ci := 1) rfl i_Leaf 4 (by decide) kw_1_220 d_Leaf_holds_18 h (fun v_2 h => ?_)
        refine x_icmp_ge C0 28 d_Leaf_holds_21 (by decide) h (fun h => ?_) (fun h => ?_)
        · refine lv_iconst (v := 0) C0.1 C0.2.1 d_Leaf_holds_28 (by decide) ?_
          cases h
          rw [hQ]
          exact x_zretP C0 hr hlocks hP0 rfl d_Leaf_holds_29
        · refine lv_iconst (v := 1) C0.1 C0.2.1 d_Leaf_holds_24 (by decide) ?_
          refine x_goto C0 29 d_Leaf_holds_25 (by decide) ?_
          cases h
          rw [hQ]
          exact x_zretP C0 hr hlocks hP0 rfl d_Leaf_holds_29
theorem d_Leaf_greyOrNone_0 : decode b_Leaf_greyOrNone 0 = .ok (.aload_n 0, 1) := by decide +kernel
theorem d_Leaf_greyOrNone_1 : decode b_Leaf_greyOrNone 1 = .ok (.iload_n 1, 1) := by decide +kernel
theorem d_Leaf_greyOrNone_2 : decode b_Leaf_greyOrNone 2 = .ok (.iload_n 2, 1) := by decide +kernel
theorem d_Leaf_greyOrNone_3 : decode b_Leaf_greyOrNone 3 = .ok (.invokevirtual 38, 3) := by decide +kernel
theorem d_Leaf_greyOrNone_6 : decode b_Leaf_greyOrNone 6 = .ok (.ifCond .eq 19, 3) := by decide +kernel
theorem d_Leaf_greyOrNone_9 : decode b_Leaf_greyOrNone 9 = .ok (.aload_n 0, 1) := by decide +kernel
theorem d_Leaf_greyOrNone_10 : decode b_Leaf_greyOrNone 10 = .ok (.getfield 34, 3) := by decide +kernel
theorem d_Leaf_greyOrNone_13 : decode b_Leaf_greyOrNone 13 = .ok (.iload_n 2, 1) := by decide +kernel
theorem d_Leaf_greyOrNone_14 : decode b_Leaf_greyOrNone 14 = .ok (.aload_n 0, 1) := by decide +kernel
theorem d_Leaf_greyOrNone_15 : decode b_Leaf_greyOrNone 15 = .ok (.getfield 28, 3) := by decide +kernel
theorem d_Leaf_greyOrNone_18 : decode b_Leaf_greyOrNone 18 = .ok (.imul, 1) := by decide +kernel
theorem d_Leaf_greyOrNone_19 : decode b_Leaf_greyOrNone 19 = .ok (.iload_n 1, 1) := by decide +kernel
theorem d_Leaf_greyOrNone_20 : decode b_Leaf_greyOrNone 20 = .ok (.iadd, 1) := by decide +kernel
theorem d_Leaf_greyOrNone_21 : decode b_Leaf_greyOrNone 21 = .ok (.iaload, 1) := by decide +kernel
theorem d_Leaf_greyOrNone_22 : decode b_Leaf_greyOrNone 22 = .ok (.goto 4, 3) := by decide +kernel
theorem d_Leaf_greyOrNone_25 : decode b_Leaf_greyOrNone 25 = .ok (.iconst (-1), 1) := by decide +kernel
theorem d_Leaf_greyOrNone_26 : decode b_Leaf_greyOrNone 26 = .ok (.ireturn, 1) := by decide +kernel
def f_Leaf_greyOrNone (w : Mp) (h0 : Nat) (x1 : Int32) (x2 : Int32) : Option (Int32) := (xo w (some h0) 1).bind fun b_2 => (f_Leaf_holds w b_2 x1 x2).bind fun q_1 => if q_1 = 0 then (some (-1 : Int32)) else ((gR w (some h0) 1 5).bind fun v_3 => (gI w (some h0) 1 3).bind fun v_4 => (aI w v_3 0 ((x2 * v_4) + x1)).bind fun v_5 => some v_5)
set_option maxHeartbeats 4000000 in
set_option maxRecDepth 100000 in
theorem c_Leaf_greyOrNone (l : Launch) (G : Gx) (w : Mp) (sz : Nat) (h0 : Nat) (x1 : Int32) (x2 : Int32) (res : Int32) (hf : f_Leaf_greyOrNone w h0 x1 x2 = some res) : Met l y_Leaf_greyOrNone (xws y_Leaf_greyOrNone b_Leaf_greyOrNone 3 (some .int)) { frames := 1, cells := 0, slots := 0, locals := 22 } (xPc G vwCl xaty w sz [va_rf (some h0), .int x1, .int x2]) (qP (some (.int res))) 0 0 (fun _ => False) := by
  refine Met.ofW (cc := b_Leaf_greyOrNone) (maxL := 3) (ret := (some .int)) (by decide) rfl ?_
  intro p e s m args below meth c s₁ B hml hv
  obtain ⟨ha, hE, hH, hz⟩ := hv
  have C0 : CallFix p m c b_Leaf_greyOrNone 3 s args wA R_Leaf := ⟨B.exec, B.bytes, hml, findClass_of_methodNamed B.named, fun w hw => atoms_spec (ws := xws y_Leaf_greyOrNone b_Leaf_greyOrNone 3 (some .int)) B.pre w (List.mem_cons_of_mem _ hw)⟩
  have hr := B.returns
  have hlocks := B.notSynchronized
  obtain ⟨R, hR⟩ : ∃ R, R = (headSpec (xws y_Leaf_greyOrNone b_Leaf_greyOrNone 3 (some .int)) { frames := 1, cells := 0, slots := 0, locals := 22 }).room := ⟨_, rfl⟩
  have hR1 : 1 ≤ R.frames := by rw [hR]; exact Nat.le_of_ble_eq_true rfl
  have hR2 : 22 ≤ R.locals := by rw [hR]; exact Nat.le_of_ble_eq_true rfl
  have hR3 : 0 ≤ R.cells := Nat.zero_le _
  have hR4 : 0 ≤ R.slots := Nat.zero_le _
  rw [← hR]
  obtain ⟨Q, hQ⟩ : ∃ Q, Q = MQ below (qP (some (.int res))) args s 0 0 (fun _ => False) := ⟨_, rfl⟩
  rw [← hQ]
  have hS : xS G s s.heap [] := va_S.rf
  obtain ⟨ls, he, hl⟩ := x_entry m [.inr (.inl (some h0)), .inl x1, .inl x2] 3 (Nat.le_of_ble_eq_true rfl)
  rw [show entryFrame m args 3 = F0 m 0 ls [] by rw [ha]; exact he]
  have hl : xL ls 3 [(0, .inr (.inl (some h0))), (1, .inl x1), (2, .inl x2)] := hl
  have h := hf
  unfold f_Leaf_greyOrNone at h
  suffices hmain : ∀ (H : Heap) (locs : List Loc), xhd G vwCl w H → xS G s H locs → H.size = sz → (H = s.heap ∧ locs = []) → W p l e R s m args below meth c H locs 0 0 Q (F0 m 0 ls []) from hmain _ _ hH hS hz ⟨rfl, rfl⟩
  clear hH hS hz
  intro H locs hH hS hz hP0
  refine x_aload_n C0 hl 0 d_Leaf_greyOrNone_0 rfl rfl ?_
  refine x_iload_n C0 hl 1 d_Leaf_greyOrNone_1 rfl rfl ?_
  refine x_iload_n C0 hl 2 d_Leaf_greyOrNone_2 rfl rfl ?_
  obtain ⟨b_2, e9, h⟩ := Option.bind_eq_some_iff.mp h
  obtain ⟨e8, fs9, hb9⟩ := xo_inv e9
  obtain ⟨q_1, e9, h⟩ := Option.bind_eq_some_iff.mp h
  refine x_callP (va_runV (As := [.int x1, .int x2]) (rest := []) C0 (c_Leaf_holds l G w _ b_2 x1 x2 q_1 e9) (x_cwV 2 C0 kw_2_196 kw_2_25 kw_1_9 kw_2_23 kw_2_24 (by decide +kernel) (x_rm hR1 hR2 (by decide) (by decide))) (x_preV hE hH hS (ci := 1) rfl hb9) rfl rfl hl.1 (by rw [e8]; rfl) (lv_room (by simp only [List.map_cons, List.map_nil, List.sum_cons, List.sum_nil, va_rf_cat, x_catI, x_catL, x_catA] <;> decide)) d_Leaf_greyOrNone_3 (x_le0 hR3 hR4)) ?_
  refine x_if_eq C0 25 d_Leaf_greyOrNone_6 (by decide) h (fun h => ?_) (fun h => ?_)
  · refine lv_iconst (v := -1) C0.1 C0.2.1 d_Leaf_greyOrNone_25 (by decide) ?_
    cases h
    rw [hQ]
    exact x_iretP C0 hr hlocks hP0 d_Leaf_greyOrNone_26
  · refine x_aload_n C0 hl 0 d_Leaf_greyOrNone_9 rfl rfl ?_
    refine x_getR C0 hE hH (ci := 1) rfl i_Leaf 5 (by decide) kw_1_223 d_Leaf_greyOrNone_10 h (fun v_3 h => ?_)
    refine x_iload_n C0 hl 2 d_Leaf_greyOrNone_13 rfl rfl ?_
    refine x_aload_n C0 hl 0 d_Leaf_greyOrNone_14 rfl rfl ?_
    refine x_getI C0 hE hH (ci := 1) rfl i_Leaf 3 (by decide) kw_1_216 d_Leaf_greyOrNone_15 h (fun v_4 h => ?_)
    refine lv_imul C0.1 C0.2.1 d_Leaf_greyOrNone_18 ?_
    refine x_iload_n C0 hl 1 d_Leaf_greyOrNone_19 rfl rfl ?_
    refine lv_iadd C0.1 C0.2.1 d_Leaf_greyOrNone_20 ?_
    refine x_iald C0 hE hH (t := 0) rfl d_Leaf_greyOrNone_21 h (fun v_5 h => ?_)
    refine x_goto C0 26 d_Leaf_greyOrNone_22 (by decide) ?_
    cases h
    rw [hQ]
    exact x_iretP C0 hr hlocks hP0 d_Leaf_greyOrNone_26
end
section
theorem kw_1_217 : (Jvm.Cond.fieldLink "LeafMatches$Piece" (27 : Nat) "LeafMatches$Leaf" "width" "I") ∈ wA := ku_1 217 rfl rfl
theorem kw_1_221 : (Jvm.Cond.fieldLink "LeafMatches$Piece" (32 : Nat) "LeafMatches$Leaf" "height" "I") ∈ wA := ku_1 221 rfl rfl
theorem kw_2_104 : (Jvm.Cond.fieldLink "LeafMatches$Piece" (16 : Nat) "LeafMatches$Piece" "leaf" "LLeafMatches$Leaf;") ∈ wA := ku_2 104 rfl rfl
theorem kw_2_107 : (Jvm.Cond.fieldLink "LeafMatches$Piece" (20 : Nat) "LeafMatches$Piece" "isMirrored" "Z") ∈ wA := ku_2 107 rfl rfl
theorem kw_2_109 : (Jvm.Cond.fieldLink "LeafMatches$Piece" (24 : Nat) "LeafMatches$Piece" "isTurned" "Z") ∈ wA := ku_2 109 rfl rfl
theorem kw_2_111 : (Jvm.Cond.fieldLink "LeafMatches$Piece" (7 : Nat) "LeafMatches$Piece" "begin" "I") ∈ wA := ku_2 111 rfl rfl
theorem kw_2_114 : (Jvm.Cond.fieldLink "LeafMatches$Piece" (13 : Nat) "LeafMatches$Piece" "top" "I") ∈ wA := ku_2 114 rfl rfl
theorem kw_2_192 : (Jvm.Cond.methodLink "LeafMatches$Piece" (35 : Nat) ({ cls := "LeafMatches$Leaf", name := "greyOrNone", desc := "(II)I" } : Jvm.MethodName)) ∈ wA := ku_2 192 rfl rfl
theorem kw_2_193 : (Jvm.Cond.instanceMethod ({ cls := "LeafMatches$Leaf", name := "greyOrNone", desc := "(II)I" } : Jvm.MethodName)) ∈ wA := ku_2 193 rfl rfl
theorem kw_2_194 : (Jvm.Cond.selects "LeafMatches$Leaf" ({ cls := "LeafMatches$Leaf", name := "greyOrNone", desc := "(II)I" } : Jvm.MethodName) ({ cls := "LeafMatches$Leaf", name := "greyOrNone", desc := "(II)I" } : Jvm.MethodName)) ∈ wA := ku_2 194 rfl rfl
theorem kw_2_195 : (Jvm.Cond.code ({ cls := "LeafMatches$Leaf", name := "greyOrNone", desc := "(II)I" } : Jvm.MethodName) prog_3_method_5_code (3 : Nat) (Option.some Jvm.ClassFile.FieldType.int)) ∈ wA := ku_2 195 rfl rfl
theorem d_Piece_end_0 : decode b_Piece_end 0 = .ok (.aload_n 0, 1) := by decide +kernel
theorem d_Piece_end_1 : decode b_Piece_end 1 = .ok (.getfield 7, 3) := by decide +kernel
theorem d_Piece_end_4 : decode b_Piece_end 4 = .ok (.aload_n 0, 1) := by decide +kernel
theorem d_Piece_end_5 : decode b_Piece_end 5 = .ok (.getfield 16, 3) := by decide +kernel
theorem d_Piece_end_8 : decode b_Piece_end 8 = .ok (.getfield 27, 3) := by decide +kernel
theorem d_Piece_end_11 : decode b_Piece_end 11 = .ok (.iadd, 1) := by decide +kernel
theorem d_Piece_end_12 : decode b_Piece_end 12 = .ok (.ireturn, 1) := by decide +kernel
def f_Piece_end (w : Mp) (h0 : Nat) : Option (Int32) := (gI w (some h0) 2 3).bind fun v_1 => (gR w (some h0) 2 0).bind fun v_2 => (gI w v_2 1 3).bind fun v_3 => some (v_1 + v_3)
set_option maxHeartbeats 4000000 in
set_option maxRecDepth 100000 in
theorem c_Piece_end (l : Launch) (G : Gx) (w : Mp) (sz : Nat) (h0 : Nat) (res : Int32) (hf : f_Piece_end w h0 = some res) : Met l y_Piece_end (xws y_Piece_end b_Piece_end 1 (some .int)) { frames := 0, cells := 0, slots := 0, locals := 0 } (xPc G vwCl xaty w sz [va_rf (some h0)]) (qP (some (.int res))) 0 0 (fun _ => False) := by
  refine Met.ofW (cc := b_Piece_end) (maxL := 1) (ret := (some .int)) (by decide) rfl ?_
  intro p e s m args below meth c s₁ B hml hv
  obtain ⟨ha, hE, hH, hz⟩ := hv
  have C0 : CallFix p m c b_Piece_end 1 s args wA R_Piece := ⟨B.exec, B.bytes, hml, findClass_of_methodNamed B.named, fun w hw => atoms_spec (ws := xws y_Piece_end b_Piece_end 1 (some .int)) B.pre w (List.mem_cons_of_mem _ hw)⟩
  have hr := B.returns
  have hlocks := B.notSynchronized
  obtain ⟨R, hR⟩ : ∃ R, R = (headSpec (xws y_Piece_end b_Piece_end 1 (some .int)) { frames := 0, cells := 0, slots := 0, locals := 0 }).room := ⟨_, rfl⟩
  have hR1 : 0 ≤ R.frames := by rw [hR]; exact Nat.le_of_ble_eq_true rfl
  have hR2 : 0 ≤ R.locals := by rw [hR]; exact Nat.le_of_ble_eq_true rfl
  have hR3 : 0 ≤ R.cells := Nat.zero_le _
  have hR4 : 0 ≤ R.slots := Nat.zero_le _
  rw [← hR]
  obtain ⟨Q, hQ⟩ : ∃ Q, Q = MQ below (qP (some (.int res))) args s 0 0 (fun _ => False) := ⟨_, rfl⟩
  rw [← hQ]
  have hS : xS G s s.heap [] := va_S.rf
  obtain ⟨ls, he, hl⟩ := x_entry m [.inr (.inl (some h0))] 1 (Nat.le_of_ble_eq_true rfl)
  rw [show entryFrame m args 1 = F0 m 0 ls [] by rw [ha]; exact he]
  have hl : xL ls 1 [(0, .inr (.inl (some h0)))] := hl
  have h := hf
  unfold f_Piece_end at h
  suffices hmain : ∀ (H : Heap) (locs : List Loc), xhd G vwCl w H → xS G s H locs → H.size = sz → (H = s.heap ∧ locs = []) → W p l e R s m args below meth c H locs 0 0 Q (F0 m 0 ls []) from hmain _ _ hH hS hz ⟨rfl, rfl⟩
  clear hH hS hz
  intro H locs hH hS hz hP0
  refine x_aload_n C0 hl 0 d_Piece_end_0 rfl rfl ?_
  refine x_getI C0 hE hH (ci := 2) rfl i_Piece 3 (by decide) kw_2_111 d_Piece_end_1 h (fun v_1 h => ?_)
  refine x_aload_n C0 hl 0 d_Piece_end_4 rfl rfl ?_
  refine x_getR C0 hE hH (ci := 2) rfl i_Piece 0 (by decide) kw_2_104 d_Piece_end_5 h (fun v_2 h => ?_)
  refine x_getI C0 hE hH (ci := 1) rfl i_Leaf 3 (by decide) kw_1_217 d_Piece_end_8 h (fun v_3 h => ?_)
  refine lv_iadd C0.1 C0.2.1 d_Piece_end_11 ?_
  cases h
  rw [hQ]
  exact x_iretP C0 hr hlocks hP0 d_Piece_end_12
theorem d_Piece_bottom_0 : decode b_Piece_bottom 0 = .ok (.aload_n 0, 1) := by decide +kernel
theorem d_Piece_bottom_1 : decode b_Piece_bottom 1 = .ok (.getfield 13, 3) := by decide +kernel
theorem d_Piece_bottom_4 : decode b_Piece_bottom 4 = .ok (.aload_n 0, 1) := by decide +kernel
theorem d_Piece_bottom_5 : decode b_Piece_bottom 5 = .ok (.getfield 16, 3) := by decide +kernel
theorem d_Piece_bottom_8 : decode b_Piece_bottom 8 = .ok (.getfield 32, 3) := by decide +kernel
theorem d_Piece_bottom_11 : decode b_Piece_bottom 11 = .ok (.iadd, 1) := by decide +kernel
theorem d_Piece_bottom_12 : decode b_Piece_bottom 12 = .ok (.ireturn, 1) := by decide +kernel
def f_Piece_bottom (w : Mp) (h0 : Nat) : Option (Int32) := (gI w (some h0) 2 4).bind fun v_1 => (gR w (some h0) 2 0).bind fun v_2 => (gI w v_2 1 4).bind fun v_3 => some (v_1 + v_3)
set_option maxHeartbeats 4000000 in
set_option maxRecDepth 100000 in
theorem c_Piece_bottom (l : Launch) (G : Gx) (w : Mp) (sz : Nat) (h0 : Nat) (res : Int32) (hf : f_Piece_bottom w h0 = some res) : Met l y_Piece_bottom (xws y_Piece_bottom b_Piece_bottom 1 (some .int)) { frames := 0, cells := 0, slots := 0, locals := 0 } (xPc G vwCl xaty w sz [va_rf (some h0)]) (qP (some (.int res))) 0 0 (fun _ => False) := by
  refine Met.ofW (cc := b_Piece_bottom) (maxL := 1) (ret := (some .int)) (by decide) rfl ?_
  intro p e s m args below meth c s₁ B hml hv
  obtain ⟨ha, hE, hH, hz⟩ := hv
  have C0 : CallFix p m c b_Piece_bottom 1 s args wA R_Piece := ⟨B.exec, B.bytes, hml, findClass_of_methodNamed B.named, fun w hw => atoms_spec (ws := xws y_Piece_bottom b_Piece_bottom 1 (some .int)) B.pre w (List.mem_cons_of_mem _ hw)⟩
  have hr := B.returns
  have hlocks := B.notSynchronized
  obtain ⟨R, hR⟩ : ∃ R, R = (headSpec (xws y_Piece_bottom b_Piece_bottom 1 (some .int)) { frames := 0, cells := 0, slots := 0, locals := 0 }).room := ⟨_, rfl⟩
  have hR1 : 0 ≤ R.frames := by rw [hR]; exact Nat.le_of_ble_eq_true rfl
  have hR2 : 0 ≤ R.locals := by rw [hR]; exact Nat.le_of_ble_eq_true rfl
  have hR3 : 0 ≤ R.cells := Nat.zero_le _
  have hR4 : 0 ≤ R.slots := Nat.zero_le _
  rw [← hR]
  obtain ⟨Q, hQ⟩ : ∃ Q, Q = MQ below (qP (some (.int res))) args s 0 0 (fun _ => False) := ⟨_, rfl⟩
  rw [← hQ]
  have hS : xS G s s.heap [] := va_S.rf
  obtain ⟨ls, he, hl⟩ := x_entry m [.inr (.inl (some h0))] 1 (Nat.le_of_ble_eq_true rfl)
  rw [show entryFrame m args 1 = F0 m 0 ls [] by rw [ha]; exact he]
  have hl : xL ls 1 [(0, .inr (.inl (some h0)))] := hl
  have h := hf
  unfold f_Piece_bottom at h
  suffices hmain : ∀ (H : Heap) (locs : List Loc), xhd G vwCl w H → xS G s H locs → H.size = sz → (H = s.heap ∧ locs = []) → W p l e R s m args below meth c H locs 0 0 Q (F0 m 0 ls []) from hmain _ _ hH hS hz ⟨rfl, rfl⟩
  clear hH hS hz
  intro H locs hH hS hz hP0
  refine x_aload_n C0 hl 0 d_Piece_bottom_0 rfl rfl ?_
  refine x_getI C0 hE hH (ci := 2) rfl i_Piece 4 (by decide) kw_2_114 d_Piece_bottom_1 h (fun v_1 h => ?_)
  refine x_aload_n C0 hl 0 d_Piece_bottom_4 rfl rfl ?_
  refine x_getR C0 hE hH (ci := 2) rfl i_Piece 0 (by decide) kw_2_104 d_Piece_bottom_5 h (fun v_2 h => ?_)
  refine x_getI C0 hE hH (ci := 1) rfl i_Leaf 4 (by decide) kw_1_221 d_Piece_bottom_8 h (fun v_3 h => ?_)
  refine lv_iadd C0.1 C0.2.1 d_Piece_bottom_11 ?_
  cases h
  rw [hQ]
  exact x_iretP C0 hr hlocks hP0 d_Piece_bottom_12
theorem d_Piece_greyShown_0 : decode b_Piece_greyShown 0 = .ok (.aload_n 0, 1) := by decide +kernel
theorem d_Piece_greyShown_1 : decode b_Piece_greyShown 1 = .ok (.getfield 20, 3) := by decide +kernel
theorem d_Piece_greyShown_4 : decode b_Piece_greyShown 4 = .ok (.ifCond .eq 17, 3) := by decide +kernel
theorem d_Piece_greyShown_7 : decode b_Piece_greyShown 7 = .ok (.aload_n 0, 1) := by decide +kernel
theorem d_Piece_greyShown_8 : decode b_Piece_greyShown 8 = .ok (.getfield 16, 3) := by decide +kernel
theorem d_Piece_greyShown_11 : decode b_Piece_greyShown 11 = .ok (.getfield 27, 3) := by decide +kernel
theorem d_Piece_greyShown_14 : decode b_Piece_greyShown 14 = .ok (.iconst 1, 1) := by decide +kernel
theorem d_Piece_greyShown_15 : decode b_Piece_greyShown 15 = .ok (.isub, 1) := by decide +kernel
theorem d_Piece_greyShown_16 : decode b_Piece_greyShown 16 = .ok (.iload_n 1, 1) := by decide +kernel
theorem d_Piece_greyShown_17 : decode b_Piece_greyShown 17 = .ok (.isub, 1) := by decide +kernel
theorem d_Piece_greyShown_18 : decode b_Piece_greyShown 18 = .ok (.goto 4, 3) := by decide +kernel
theorem d_Piece_greyShown_21 : decode b_Piece_greyShown 21 = .ok (.iload_n 1, 1) := by decide +kernel
theorem d_Piece_greyShown_22 : decode b_Piece_greyShown 22 = .ok (.istore_n 3, 1) := by decide +kernel
theorem d_Piece_greyShown_23 : decode b_Piece_greyShown 23 = .ok (.aload_n 0, 1) := by decide +kernel
theorem d_Piece_greyShown_24 : decode b_Piece_greyShown 24 = .ok (.getfield 24, 3) := by decide +kernel
theorem d_Piece_greyShown_27 : decode b_Piece_greyShown 27 = .ok (.ifCond .eq 17, 3) := by decide +kernel
theorem d_Piece_greyShown_30 : decode b_Piece_greyShown 30 = .ok (.aload_n 0, 1) := by decide +kernel
theorem d_Piece_greyShown_31 : decode b_Piece_greyShown 31 = .ok (.getfield 16, 3) := by decide +kernel
theorem d_Piece_greyShown_34 : decode b_Piece_greyShown 34 = .ok (.getfield 32, 3) := by decide +kernel
theorem d_Piece_greyShown_37 : decode b_Piece_greyShown 37 = .ok (.iconst 1, 1) := by decide +kernel
theorem d_Piece_greyShown_38 : decode b_Piece_greyShown 38 = .ok (.isub, 1) := by decide +kernel
theorem d_Piece_greyShown_39 : decode b_Piece_greyShown 39 = .ok (.iload_n 2, 1) := by decide +kernel
theorem d_Piece_greyShown_40 : decode b_Piece_greyShown 40 = .ok (.isub, 1) := by decide +kernel
theorem d_Piece_greyShown_41 : decode b_Piece_greyShown 41 = .ok (.goto 4, 3) := by decide +kernel
theorem d_Piece_greyShown_44 : decode b_Piece_greyShown 44 = .ok (.iload_n 2, 1) := by decide +kernel
theorem d_Piece_greyShown_45 : decode b_Piece_greyShown 45 = .ok (.istore 4, 2) := by decide +kernel
theorem d_Piece_greyShown_47 : decode b_Piece_greyShown 47 = .ok (.aload_n 0, 1) := by decide +kernel
theorem d_Piece_greyShown_48 : decode b_Piece_greyShown 48 = .ok (.getfield 16, 3) := by decide +kernel
theorem d_Piece_greyShown_51 : decode b_Piece_greyShown 51 = .ok (.iload_n 3, 1) := by decide +kernel
theorem d_Piece_greyShown_52 : decode b_Piece_greyShown 52 = .ok (.iload 4, 2) := by decide +kernel
theorem d_Piece_greyShown_54 : decode b_Piece_greyShown 54 = .ok (.invokevirtual 35, 3) := by decide +kernel
theorem d_Piece_greyShown_57 : decode b_Piece_greyShown 57 = .ok (.ireturn, 1) := by decide +kernel
def f_Piece_greyShown (w : Mp) (h0 : Nat) (x1 : Int32) (x2 : Int32) : Option (Int32) := (gI w (some h0) 2 1).bind fun v_1 => xJ1 (fun (x_2 : Int32) => (gI w (some h0) 2 2).bind fun v_4 => xJ1 (fun (x_5 : Int32) => (gR w (some h0) 2 0).bind fun v_7 => (xo w v_7 1).bind fun b_9 => (f_Leaf_greyOrNone w b_9 x_2 x_5).bind fun q_8 => some q_8) fun J_6 => if v_4 = 0 then (J_6 x2) else ((gR w (some h0) 2 0).bind fun v_10 => (gI w v_10 1 4).bind fun v_11 => J_6 ((v_11 - (1 : Int32)) - x2))) fun J_3 => if v_1 = 0 then (J_3 x1) else ((gR w (some h0) 2 0).bind fun v_12 => (gI w v_12 1 3).bind fun v_13 => J_3 ((v_13 - (1 : Int32)) - x1))
set_option maxHeartbeats 4000000 in
set_option maxRecDepth 100000 in
theorem c_Piece_greyShown (l : Launch) (G : Gx) (w : Mp) (sz : Nat) (h0 : Nat) (x1 : Int32) (x2 : Int32) (res : Int32) (hf : f_Piece_greyShown w h0 x1 x2 = some res) : Met l y_Piece_greyShown (xws y_Piece_greyShown b_Piece_greyShown 5 (some .int)) { frames := 2, cells := 0, slots := 0, locals := 44 } (xPc G vwCl xaty w sz [va_rf (some h0), .int x1, .int x2]) (qP (some (.int res))) 0 0 (fun _ => False) := by
  refine Met.ofW (cc := b_Piece_greyShown) (maxL := 5) (ret := (some .int)) (by decide) rfl ?_
  intro p e s m args below meth c s₁ B hml hv
  obtain ⟨ha, hE, hH, hz⟩ := hv
  have C0 : CallFix p m c b_Piece_greyShown 5 s args wA R_Piece := ⟨B.exec, B.bytes, hml, findClass_of_methodNamed B.named, fun w hw => atoms_spec (ws := xws y_Piece_greyShown b_Piece_greyShown 5 (some .int)) B.pre w (List.mem_cons_of_mem _ hw)⟩
  have hr := B.returns
  have hlocks := B.notSynchronized
  obtain ⟨R, hR⟩ : ∃ R, R = (headSpec (xws y_Piece_greyShown b_Piece_greyShown 5 (some .int)) { frames := 2, cells := 0, slots := 0, locals := 44 }).room := ⟨_, rfl⟩
  have hR1 : 2 ≤ R.frames := by rw [hR]; exact Nat.le_of_ble_eq_true rfl
  have hR2 : 44 ≤ R.locals := by rw [hR]; exact Nat.le_of_ble_eq_true rfl
  have hR3 : 0 ≤ R.cells := Nat.zero_le _
  have hR4 : 0 ≤ R.slots := Nat.zero_le _
  rw [← hR]
  obtain ⟨Q, hQ⟩ : ∃ Q, Q = MQ below (qP (some (.int res))) args s 0 0 (fun _ => False) := ⟨_, rfl⟩
  rw [← hQ]
  have hS : xS G s s.heap [] := va_S.rf
  obtain ⟨ls, he, hl⟩ := x_entry m [.inr (.inl (some h0)), .inl x1, .inl x2] 5 (Nat.le_of_ble_eq_true rfl)
  rw [show entryFrame m args 5 = F0 m 0 ls [] by rw [ha]; exact he]
  have hl : xL ls 5 [(0, .inr (.inl (some h0))), (1, .inl x1), (2, .inl x2)] := hl
  have h := hf
  unfold f_Piece_greyShown at h
  suffices hmain : ∀ (H : Heap) (locs : List Loc), xhd G vwCl w H → xS G s H locs → H.size = sz → (H = s.heap ∧ locs = []) → W p l e R s m args below meth c H locs 0 0 Q (F0 m 0 ls []) from hmain _ _ hH hS hz ⟨rfl, rfl⟩
  clear hH hS hz
  intro H locs hH hS hz hP0
  refine x_aload_n C0 hl 0 d_Piece_greyShown_0 rfl rfl ?_
  refine x_getI C0 hE hH (ci := 2) rfl i_Piece 1 (by decide) kw_2_107 d_Piece_greyShown_1 h (fun v_1 h => ?_)
  refine xj1 h (fun J_3 eJ_3 h => ?_)
  have kJ_3 : ∀ (x_2 : Int32) (ls : Array Slot), xL ls 5 [(0, .inr (.inl (some h0))), (2, .inl x2)] → J_3 x_2 = some res → W p l e R s m args below meth c H locs 0 0 Q (F0 m 22 ls [.int x_2]) := by
    intro x_2 ls hl h
    rw [eJ_3] at h
    refine x_istore_n (lv' := [(3, .inl x_2), (0, .inr (.inl (some h0))), (2, .inl x2)]) C0 hl d_Piece_greyShown_22 rfl (by decide) rfl (fun ls hl => ?_)
    refine x_aload_n C0 hl 1 d_Piece_greyShown_23 rfl rfl ?_
    refine x_getI C0 hE hH (ci := 2) rfl i_Piece 2 (by decide) kw_2_109 d_Piece_greyShown_24 h (fun v_4 h => ?_)
    refine xj1 h (fun J_6 eJ_6 h => ?_)
    have kJ_6 : ∀ (x_5 : Int32) (ls : Array Slot), xL ls 5 [(0, .inr (.inl (some h0))), (3, .inl x_2)] → J_6 x_5 = some res → W p l e R s m args below meth c H locs 0 0 Q (F0 m 45 ls [.int x_5]) := by
      intro x_5 ls hl h
      rw [eJ_6] at h
      refine x_istore (lv' := [(4, .inl x_5), (0, .inr (.inl (some h0))), (3, .inl x_2)]) C0 hl d_Piece_greyShown_45 (by decide) rfl (fun ls hl => ?_)
      refine x_aload_n C0 hl 1 d_Piece_greyShown_47 rfl rfl ?_
      refine x_getR C0 hE hH (ci := 2) rfl i_Piece 0 (by decide) kw_2_104 d_Piece_greyShown_48 h (fun v_7 h => ?_)
      refine x_iload_n C0 hl 2 d_Piece_greyShown_51 rfl rfl ?_
      refine x_iload C0 hl 0 d_Piece_greyShown_52 rfl ?_
      obtain ⟨b_9, e9, h⟩ := Option.bind_eq_some_iff.mp h
      obtain ⟨e8, fs9, hb9⟩ := xo_inv e9
      obtain ⟨q_8, e9, h⟩ := Option.bind_eq_some_iff.mp h
      refine x_callP (va_runV (As := [.int x_2, .int x_5]) (rest := []) C0 (c_Leaf_greyOrNone l G w _ b_9 x_2 x_5 q_8 e9) (x_cwV 2 C0 kw_2_192 kw_2_195 kw_1_9 kw_2_193 kw_2_194 (by decide +kernel) (x_rm hR1 hR2 (by decide) (by decide))) (x_preV hE hH hS (ci := 1) rfl hb9) rfl rfl hl.1 (by rw [e8]; rfl) (lv_room (by simp only [List.map_cons, List.map_nil, List.sum_cons, List.sum_nil, va_rf_cat, x_catI, x_catL, x_catA] <;> decide)) d_Piece_greyShown_54 (x_le0 hR3 hR4)) ?_
      cases h
      rw [hQ]
      exact x_iretP C0 hr hlocks hP0 d_Piece_greyShown_57
    refine x_if_eq C0 44 d_Piece_greyShown_27 (by decide) h (fun h => ?_) (fun h => ?_)
    · refine x_iload_n C0 hl 2 d_Piece_greyShown_44 rfl rfl ?_
      exact kJ_6 _ ls (x_sub hl [1, 0] rfl) h
    · refine x_aload_n C0 hl 1 d_Piece_greyShown_30 rfl rfl ?_
      refine x_getR C0 hE hH (ci := 2) rfl i_Piece 0 (by decide) kw_2_104 d_Piece_greyShown_31 h (fun v_10 h => ?_)
      refine x_getI C0 hE hH (ci := 1) rfl i_Leaf 4 (by decide) kw_1_221 d_Piece_greyShown_34 h (fun v_11 h => ?_)
      refine lv_iconst (v := 1) C0.1 C0.2.1 d_Piece_greyShown_37 (by decide) ?_
      refine lv_isub C0.1 C0.2.1 d_Piece_greyShown_38 ?_
      refine x_iload_n C0 hl 2 d_Piece_greyShown_39 rfl rfl ?_
      refine lv_isub C0.1 C0.2.1 d_Piece_greyShown_40 ?_
      refine x_goto C0 45 d_Piece_greyShown_41 (by decide) ?_
      exact kJ_6 _ ls (x_sub hl [1, 0] rfl) h
  refine x_if_eq C0 21 d_Piece_greyShown_4 (by decide) h (fun h => ?_) (fun h => ?_)
  · refine x_iload_n C0 hl 1 d_Piece_greyShown_21 rfl rfl ?_
    exact kJ_3 _ ls (x_sub hl [0, 2] rfl) h
  · refine x_aload_n C0 hl 0 d_Piece_greyShown_7 rfl rfl ?_
    refine x_getR C0 hE hH (ci := 2) rfl i_Piece 0 (by decide) kw_2_104 d_Piece_greyShown_8 h (fun v_12 h => ?_)
    refine x_getI C0 hE hH (ci := 1) rfl i_Leaf 3 (by decide) kw_1_217 d_Piece_greyShown_11 h (fun v_13 h => ?_)
    refine lv_iconst (v := 1) C0.1 C0.2.1 d_Piece_greyShown_14 (by decide) ?_
    refine lv_isub C0.1 C0.2.1 d_Piece_greyShown_15 ?_
    refine x_iload_n C0 hl 1 d_Piece_greyShown_16 rfl rfl ?_
    refine lv_isub C0.1 C0.2.1 d_Piece_greyShown_17 ?_
    refine x_goto C0 22 d_Piece_greyShown_18 (by decide) ?_
    exact kJ_3 _ ls (x_sub hl [0, 2] rfl) h
end
section
theorem kw_0_4 : (Jvm.Cond.selects "LeafMatches" ({ cls := "LeafMatches", name := "countFree", desc := "(I)I" } : Jvm.MethodName) ({ cls := "LeafMatches", name := "countFree", desc := "(I)I" } : Jvm.MethodName)) ∈ wA := ku_0 4 rfl rfl
theorem kw_1_1 : (Jvm.Cond.initialized "LeafMatches") ∈ wA := ku_1 1 rfl rfl
theorem kw_1_75 : (Jvm.Cond.fieldLink "LeafMatches" (11 : Nat) "LeafMatches" "leaves" "[LLeafMatches$Leaf;") ∈ wA := ku_1 75 rfl rfl
theorem kw_1_76 : (Jvm.Cond.fieldLink "LeafMatches" (15 : Nat) "LeafMatches" "leafCount" "I") ∈ wA := ku_1 76 rfl rfl
theorem kw_1_77 : (Jvm.Cond.fieldLink "LeafMatches" (21 : Nat) "LeafMatches" "madeFaces" "[LLeafMatches$Face;") ∈ wA := ku_1 77 rfl rfl
theorem kw_1_78 : (Jvm.Cond.fieldLink "LeafMatches" (25 : Nat) "LeafMatches" "faceCount" "I") ∈ wA := ku_1 78 rfl rfl
theorem kw_1_80 : (Jvm.Cond.fieldLink "LeafMatches" (35 : Nat) "LeafMatches" "free" "[LLeafMatches$Leaf;") ∈ wA := ku_1 80 rfl rfl
theorem kw_1_184 : (Jvm.Cond.methodLink "LeafMatches" (51 : Nat) ({ cls := "LeafMatches", name := "isWithin", desc := "(III)Z" } : Jvm.MethodName)) ∈ wA := ku_1 184 rfl rfl
theorem kw_1_185 : (Jvm.Cond.static ({ cls := "LeafMatches", name := "isWithin", desc := "(III)Z" } : Jvm.MethodName)) ∈ wA := ku_1 185 rfl rfl
theorem kw_1_186 : (Jvm.Cond.code ({ cls := "LeafMatches", name := "isWithin", desc := "(III)Z" } : Jvm.MethodName) prog_1_method_19_code (3 : Nat) (Option.some Jvm.ClassFile.FieldType.boolean)) ∈ wA := ku_1 186 rfl rfl
theorem kw_1_213 : (Jvm.Cond.fieldLink "LeafMatches" (252 : Nat) "LeafMatches$Leaf" "flitch" "I") ∈ wA := ku_1 213 rfl rfl
theorem kw_1_215 : (Jvm.Cond.fieldLink "LeafMatches" (255 : Nat) "LeafMatches$Leaf" "number" "I") ∈ wA := ku_1 215 rfl rfl
theorem kw_2_69 : (Jvm.Cond.methodLink "LeafMatches" (261 : Nat) ({ cls := "LeafMatches", name := "countFree", desc := "(I)I" } : Jvm.MethodName)) ∈ wA := ku_2 69 rfl rfl
theorem kw_2_71 : (Jvm.Cond.instanceMethod ({ cls := "LeafMatches", name := "countFree", desc := "(I)I" } : Jvm.MethodName)) ∈ wA := ku_2 71 rfl rfl
theorem kw_2_72 : (Jvm.Cond.code ({ cls := "LeafMatches", name := "countFree", desc := "(I)I" } : Jvm.MethodName) prog_1_method_23_code (4 : Nat) (Option.some Jvm.ClassFile.FieldType.int)) ∈ wA := ku_2 72 rfl rfl
theorem kw_2_73 : (Jvm.Cond.methodLink "LeafMatches" (258 : Nat) ({ cls := "LeafMatches$Leaf", name := "isFree", desc := "()Z" } : Jvm.MethodName)) ∈ wA := ku_2 73 rfl rfl
theorem kw_2_74 : (Jvm.Cond.instanceMethod ({ cls := "LeafMatches$Leaf", name := "isFree", desc := "()Z" } : Jvm.MethodName)) ∈ wA := ku_2 74 rfl rfl
theorem kw_2_75 : (Jvm.Cond.selects "LeafMatches$Leaf" ({ cls := "LeafMatches$Leaf", name := "isFree", desc := "()Z" } : Jvm.MethodName) ({ cls := "LeafMatches$Leaf", name := "isFree", desc := "()Z" } : Jvm.MethodName)) ∈ wA := ku_2 75 rfl rfl
theorem kw_2_76 : (Jvm.Cond.code ({ cls := "LeafMatches$Leaf", name := "isFree", desc := "()Z" } : Jvm.MethodName) prog_3_method_2_code (1 : Nat) (Option.some Jvm.ClassFile.FieldType.boolean)) ∈ wA := ku_2 76 rfl rfl
theorem kw_2_88 : (Jvm.Cond.methodLink "LeafMatches" (264 : Nat) ({ cls := "LeafMatches$Leaf", name := "follows", desc := "(LLeafMatches$Leaf;)Z" } : Jvm.MethodName)) ∈ wA := ku_2 88 rfl rfl
theorem kw_2_89 : (Jvm.Cond.instanceMethod ({ cls := "LeafMatches$Leaf", name := "follows", desc := "(LLeafMatches$Leaf;)Z" } : Jvm.MethodName)) ∈ wA := ku_2 89 rfl rfl
theorem kw_2_90 : (Jvm.Cond.selects "LeafMatches$Leaf" ({ cls := "LeafMatches$Leaf", name := "follows", desc := "(LLeafMatches$Leaf;)Z" } : Jvm.MethodName) ({ cls := "LeafMatches$Leaf", name := "follows", desc := "(LLeafMatches$Leaf;)Z" } : Jvm.MethodName)) ∈ wA := ku_2 90 rfl rfl
theorem kw_2_91 : (Jvm.Cond.code ({ cls := "LeafMatches$Leaf", name := "follows", desc := "(LLeafMatches$Leaf;)Z" } : Jvm.MethodName) prog_3_method_3_code (2 : Nat) (Option.some Jvm.ClassFile.FieldType.boolean)) ∈ wA := ku_2 91 rfl rfl
theorem d_LM_isWithin_0 : decode b_LM_isWithin 0 = .ok (.iload_n 0, 1) := by decide +kernel
theorem d_LM_isWithin_1 : decode b_LM_isWithin 1 = .ok (.iload_n 1, 1) := by decide +kernel
theorem d_LM_isWithin_2 : decode b_LM_isWithin 2 = .ok (.if_icmp .lt 12, 3) := by decide +kernel
theorem d_LM_isWithin_5 : decode b_LM_isWithin 5 = .ok (.iload_n 0, 1) := by decide +kernel
theorem d_LM_isWithin_6 : decode b_LM_isWithin 6 = .ok (.iload_n 2, 1) := by decide +kernel
theorem d_LM_isWithin_7 : decode b_LM_isWithin 7 = .ok (.if_icmp .gt 7, 3) := by decide +kernel
theorem d_LM_isWithin_10 : decode b_LM_isWithin 10 = .ok (.iconst 1, 1) := by decide +kernel
theorem d_LM_isWithin_11 : decode b_LM_isWithin 11 = .ok (.goto 4, 3) := by decide +kernel
theorem d_LM_isWithin_14 : decode b_LM_isWithin 14 = .ok (.iconst 0, 1) := by decide +kernel
theorem d_LM_isWithin_15 : decode b_LM_isWithin 15 = .ok (.ireturn, 1) := by decide +kernel
def f_LM_isWithin (w : Mp) (x0 : Int32) (x1 : Int32) (x2 : Int32) : Option (Int32) := if x0 < x1 then (some (0 : Int32)) else (if x2 < x0 then (some (0 : Int32)) else (some (1 : Int32)))
set_option maxHeartbeats 4000000 in
set_option maxRecDepth 100000 in
theorem c_LM_isWithin (l : Launch) (G : Gx) (w : Mp) (sz : Nat) (x0 : Int32) (x1 : Int32) (x2 : Int32) (res : Int32) (hf : f_LM_isWithin w x0 x1 x2 = some res) : Met l y_LM_isWithin (xws y_LM_isWithin b_LM_isWithin 3 (some .boolean)) { frames := 0, cells := 0, slots := 0, locals := 0 } (xPc G vwCl xaty w sz [.int x0, .int x1, .int x2]) (qP (some (.int res))) 0 0 (fun _ => False) := by
  refine Met.ofW (cc := b_LM_isWithin) (maxL := 3) (ret := (some .boolean)) (by decide) rfl ?_
  intro p e s m args below meth c s₁ B hml hv
  obtain ⟨ha, hE, hH, hz⟩ := hv
  have C0 : CallFix p m c b_LM_isWithin 3 s args wA R_LM := ⟨B.exec, B.bytes, hml, findClass_of_methodNamed B.named, fun w hw => atoms_spec (ws := xws y_LM_isWithin b_LM_isWithin 3 (some .boolean)) B.pre w (List.mem_cons_of_mem _ hw)⟩
  have hr := B.returns
  have hlocks := B.notSynchronized
  obtain ⟨R, hR⟩ : ∃ R, R = (headSpec (xws y_LM_isWithin b_LM_isWithin 3 (some .boolean)) { frames := 0, cells := 0, slots := 0, locals := 0 }).room := ⟨_, rfl⟩
  have hR1 : 0 ≤ R.frames := by rw [hR]; exact Nat.le_of_ble_eq_true rfl
  have hR2 : 0 ≤ R.locals := by rw [hR]; exact Nat.le_of_ble_eq_true rfl
  have hR3 : 0 ≤ R.cells := Nat.zero_le _
  have hR4 : 0 ≤ R.slots := Nat.zero_le _
  rw [← hR]
  obtain ⟨Q, hQ⟩ : ∃ Q, Q = MQ below (qP (some (.int res))) args s 0 0 (fun _ => False) := ⟨_, rfl⟩
  rw [← hQ]
  have hS : xS G s s.heap [] := va_S.rf
  obtain ⟨ls, he, hl⟩ := x_entry m [.inl x0, .inl x1, .inl x2] 3 (Nat.le_of_ble_eq_true rfl)
  rw [show entryFrame m args 3 = F0 m 0 ls [] by rw [ha]; exact he]
  have hl : xL ls 3 [(0, .inl x0), (1, .inl x1), (2, .inl x2)] := hl
  have h := hf
  unfold f_LM_isWithin at h
  suffices hmain : ∀ (H : Heap) (locs : List Loc), xhd G vwCl w H → xS G s H locs → H.size = sz → (H = s.heap ∧ locs = []) → W p l e R s m args below meth c H locs 0 0 Q (F0 m 0 ls []) from hmain _ _ hH hS hz ⟨rfl, rfl⟩
  clear hH hS hz
  intro H locs hH hS hz hP0
  refine x_iload_n C0 hl 0 d_LM_isWithin_0 rfl rfl ?_
  refine x_iload_n C0 hl 1 d_LM_isWithin_1 rfl rfl ?_
  refine x_icmp_lt C0 14 d_LM_isWithin_2 (by decide) h (fun h => ?_) (fun h => ?_)
  · refine lv_iconst (v := 0) C0.1 C0.2.1 d_LM_isWithin_14 (by decide) ?_
    cases h
    rw [hQ]
    exact x_zretP C0 hr hlocks hP0 rfl d_LM_isWithin_15
  · refine x_iload_n C0 hl 0 d_LM_isWithin_5 rfl rfl ?_
    refine x_iload_n C0 hl 2 d_LM_isWithin_6 rfl rfl ?_
    refine x_icmp_gt C0 14 d_LM_isWithin_7 (by decide) h (fun h => ?_) (fun h => ?_)
    · refine lv_iconst (v := 0) C0.1 C0.2.1 d_LM_isWithin_14 (by decide) ?_
      cases h
      rw [hQ]
      exact x_zretP C0 hr hlocks hP0 rfl d_LM_isWithin_15
    · refine lv_iconst (v := 1) C0.1 C0.2.1 d_LM_isWithin_10 (by decide) ?_
      refine x_goto C0 15 d_LM_isWithin_11 (by decide) ?_
      cases h
      rw [hQ]
      exact x_zretP C0 hr hlocks hP0 rfl d_LM_isWithin_15
theorem d_LM_leafOrNull_0 : decode b_LM_leafOrNull 0 = .ok (.iload_n 1, 1) := by decide +kernel
theorem d_LM_leafOrNull_1 : decode b_LM_leafOrNull 1 = .ok (.iconst 0, 1) := by decide +kernel
theorem d_LM_leafOrNull_2 : decode b_LM_leafOrNull 2 = .ok (.aload_n 0, 1) := by decide +kernel
theorem d_LM_leafOrNull_3 : decode b_LM_leafOrNull 3 = .ok (.getfield 15, 3) := by decide +kernel
theorem d_LM_leafOrNull_6 : decode b_LM_leafOrNull 6 = .ok (.iconst 1, 1) := by decide +kernel
theorem d_LM_leafOrNull_7 : decode b_LM_leafOrNull 7 = .ok (.isub, 1) := by decide +kernel
theorem d_LM_leafOrNull_8 : decode b_LM_leafOrNull 8 = .ok (.invokestatic 51, 3) := by decide +kernel
theorem d_LM_leafOrNull_11 : decode b_LM_leafOrNull 11 = .ok (.ifCond .eq 12, 3) := by decide +kernel
theorem d_LM_leafOrNull_14 : decode b_LM_leafOrNull 14 = .ok (.aload_n 0, 1) := by decide +kernel
theorem d_LM_leafOrNull_15 : decode b_LM_leafOrNull 15 = .ok (.getfield 11, 3) := by decide +kernel
theorem d_LM_leafOrNull_18 : decode b_LM_leafOrNull 18 = .ok (.iload_n 1, 1) := by decide +kernel
theorem d_LM_leafOrNull_19 : decode b_LM_leafOrNull 19 = .ok (.aaload, 1) := by decide +kernel
theorem d_LM_leafOrNull_20 : decode b_LM_leafOrNull 20 = .ok (.goto 4, 3) := by decide +kernel
theorem d_LM_leafOrNull_23 : decode b_LM_leafOrNull 23 = .ok (.aconst_null, 1) := by decide +kernel
theorem d_LM_leafOrNull_24 : decode b_LM_leafOrNull 24 = .ok (.areturn, 1) := by decide +kernel
def f_LM_leafOrNull (w : Mp) (h0 : Nat) (x1 : Int32) : Option (Option Nat) := (gI w (some h0) 0 1).bind fun v_1 => (f_LM_isWithin w x1 (0 : Int32) (v_1 - (1 : Int32))).bind fun q_2 => if q_2 = 0 then (some none) else ((gR w (some h0) 0 0).bind fun v_3 => (aR w v_3 1 x1).bind fun v_4 => some v_4)
set_option maxHeartbeats 4000000 in
set_option maxRecDepth 100000 in
theorem c_LM_leafOrNull (l : Launch) (G : Gx) (w : Mp) (sz : Nat) (h0 : Nat) (x1 : Int32) (res : Option Nat) (hf : f_LM_leafOrNull w h0 x1 = some res) : Met l y_LM_leafOrNull (xws y_LM_leafOrNull b_LM_leafOrNull 2 (some (.object "LeafMatches$Leaf"))) { frames := 1, cells := 0, slots := 0, locals := 22 } (xPc G vwCl xaty w sz [va_rf (some h0), .int x1]) (qP (some (va_rf res))) 0 0 (fun _ => False) := by
  refine Met.ofW (cc := b_LM_leafOrNull) (maxL := 2) (ret := (some (.object "LeafMatches$Leaf"))) (by decide) rfl ?_
  intro p e s m args below meth c s₁ B hml hv
  obtain ⟨ha, hE, hH, hz⟩ := hv
  have C0 : CallFix p m c b_LM_leafOrNull 2 s args wA R_LM := ⟨B.exec, B.bytes, hml, findClass_of_methodNamed B.named, fun w hw => atoms_spec (ws := xws y_LM_leafOrNull b_LM_leafOrNull 2 (some (.object "LeafMatches$Leaf"))) B.pre w (List.mem_cons_of_mem _ hw)⟩
  have hr := B.returns
  have hlocks := B.notSynchronized
  obtain ⟨R, hR⟩ : ∃ R, R = (headSpec (xws y_LM_leafOrNull b_LM_leafOrNull 2 (some (.object "LeafMatches$Leaf"))) { frames := 1, cells := 0, slots := 0, locals := 22 }).room := ⟨_, rfl⟩
  have hR1 : 1 ≤ R.frames := by rw [hR]; exact Nat.le_of_ble_eq_true rfl
  have hR2 : 22 ≤ R.locals := by rw [hR]; exact Nat.le_of_ble_eq_true rfl
  have hR3 : 0 ≤ R.cells := Nat.zero_le _
  have hR4 : 0 ≤ R.slots := Nat.zero_le _
  rw [← hR]
  obtain ⟨Q, hQ⟩ : ∃ Q, Q = MQ below (qP (some (va_rf res))) args s 0 0 (fun _ => False) := ⟨_, rfl⟩
  rw [← hQ]
  have hS : xS G s s.heap [] := va_S.rf
  obtain ⟨ls, he, hl⟩ := x_entry m [.inr (.inl (some h0)), .inl x1] 2 (Nat.le_of_ble_eq_true rfl)
  rw [show entryFrame m args 2 = F0 m 0 ls [] by rw [ha]; exact he]
  have hl : xL ls 2 [(0, .inr (.inl (some h0))), (1, .inl x1)] := hl
  have h := hf
  unfold f_LM_leafOrNull at h
  suffices hmain : ∀ (H : Heap) (locs : List Loc), xhd G vwCl w H → xS G s H locs → H.size = sz → (H = s.heap ∧ locs = []) → W p l e R s m args below meth c H locs 0 0 Q (F0 m 0 ls []) from hmain _ _ hH hS hz ⟨rfl, rfl⟩
  clear hH hS hz
  intro H locs hH hS hz hP0
  refine x_iload_n C0 hl 1 d_LM_leafOrNull_0 rfl rfl ?_
  refine lv_iconst (v := 0) C0.1 C0.2.1 d_LM_leafOrNull_1 (by decide) ?_
  refine x_aload_n C0 hl 0 d_LM_leafOrNull_2 rfl rfl ?_
  refine x_getI C0 hE hH (ci := 0) rfl i_LM 1 (by decide) kw_1_76 d_LM_leafOrNull_3 h (fun v_1 h => ?_)
  refine lv_iconst (v := 1) C0.1 C0.2.1 d_LM_leafOrNull_6 (by decide) ?_
  refine lv_isub C0.1 C0.2.1 d_LM_leafOrNull_7 ?_
  obtain ⟨q_2, e9, h⟩ := Option.bind_eq_some_iff.mp h
  refine x_callP (va_runS (As := [.int x1, .int (0 : Int32), .int (v_1 - (1 : Int32))]) (rest := []) C0 (c_LM_isWithin l G w _ x1 (0 : Int32) (v_1 - (1 : Int32)) q_2 e9) (x_cwS 3 C0 kw_1_184 kw_1_186 kw_1_1 kw_1_185 (by decide +kernel) (x_rm hR1 hR2 (by decide) (by decide))) (x_preS hE hH hS) rfl rfl hl.1 rfl (lv_room (by simp only [List.map_cons, List.map_nil, List.sum_cons, List.sum_nil, va_rf_cat, x_catI, x_catL, x_catA] <;> decide)) d_LM_leafOrNull_8 (x_le0 hR3 hR4)) ?_
  refine x_if_eq C0 23 d_LM_leafOrNull_11 (by decide) h (fun h => ?_) (fun h => ?_)
  · refine x_null C0 d_LM_leafOrNull_23 ?_
    cases h
    rw [hQ]
    exact x_aretP C0 hr (Or.inl ⟨_, rfl⟩) hlocks hP0 d_LM_leafOrNull_24
  · refine x_aload_n C0 hl 0 d_LM_leafOrNull_14 rfl rfl ?_
    refine x_getR C0 hE hH (ci := 0) rfl i_LM 0 (by decide) kw_1_75 d_LM_leafOrNull_15 h (fun v_3 h => ?_)
    refine x_iload_n C0 hl 1 d_LM_leafOrNull_18 rfl rfl ?_
    refine x_aald C0 hE hH (t := 1) rfl d_LM_leafOrNull_19 h (fun v_4 h => ?_)
    refine x_goto C0 24 d_LM_leafOrNull_20 (by decide) ?_
    cases h
    rw [hQ]
    exact x_aretP C0 hr (Or.inl ⟨_, rfl⟩) hlocks hP0 d_LM_leafOrNull_24
theorem d_LM_faceOrNull_0 : decode b_LM_faceOrNull 0 = .ok (.iload_n 1, 1) := by decide +kernel
theorem d_LM_faceOrNull_1 : decode b_LM_faceOrNull 1 = .ok (.iconst 0, 1) := by decide +kernel
theorem d_LM_faceOrNull_2 : decode b_LM_faceOrNull 2 = .ok (.aload_n 0, 1) := by decide +kernel
theorem d_LM_faceOrNull_3 : decode b_LM_faceOrNull 3 = .ok (.getfield 25, 3) := by decide +kernel
theorem d_LM_faceOrNull_6 : decode b_LM_faceOrNull 6 = .ok (.iconst 1, 1) := by decide +kernel
theorem d_LM_faceOrNull_7 : decode b_LM_faceOrNull 7 = .ok (.isub, 1) := by decide +kernel
theorem d_LM_faceOrNull_8 : decode b_LM_faceOrNull 8 = .ok (.invokestatic 51, 3) := by decide +kernel
theorem d_LM_faceOrNull_11 : decode b_LM_faceOrNull 11 = .ok (.ifCond .eq 12, 3) := by decide +kernel
theorem d_LM_faceOrNull_14 : decode b_LM_faceOrNull 14 = .ok (.aload_n 0, 1) := by decide +kernel
theorem d_LM_faceOrNull_15 : decode b_LM_faceOrNull 15 = .ok (.getfield 21, 3) := by decide +kernel
theorem d_LM_faceOrNull_18 : decode b_LM_faceOrNull 18 = .ok (.iload_n 1, 1) := by decide +kernel
theorem d_LM_faceOrNull_19 : decode b_LM_faceOrNull 19 = .ok (.aaload, 1) := by decide +kernel
theorem d_LM_faceOrNull_20 : decode b_LM_faceOrNull 20 = .ok (.goto 4, 3) := by decide +kernel
theorem d_LM_faceOrNull_23 : decode b_LM_faceOrNull 23 = .ok (.aconst_null, 1) := by decide +kernel
theorem d_LM_faceOrNull_24 : decode b_LM_faceOrNull 24 = .ok (.areturn, 1) := by decide +kernel
def f_LM_faceOrNull (w : Mp) (h0 : Nat) (x1 : Int32) : Option (Option Nat) := (gI w (some h0) 0 3).bind fun v_1 => (f_LM_isWithin w x1 (0 : Int32) (v_1 - (1 : Int32))).bind fun q_2 => if q_2 = 0 then (some none) else ((gR w (some h0) 0 2).bind fun v_3 => (aR w v_3 2 x1).bind fun v_4 => some v_4)
set_option maxHeartbeats 4000000 in
set_option maxRecDepth 100000 in
theorem c_LM_faceOrNull (l : Launch) (G : Gx) (w : Mp) (sz : Nat) (h0 : Nat) (x1 : Int32) (res : Option Nat) (hf : f_LM_faceOrNull w h0 x1 = some res) : Met l y_LM_faceOrNull (xws y_LM_faceOrNull b_LM_faceOrNull 2 (some (.object "LeafMatches$Face"))) { frames := 1, cells := 0, slots := 0, locals := 22 } (xPc G vwCl xaty w sz [va_rf (some h0), .int x1]) (qP (some (va_rf res))) 0 0 (fun _ => False) := by
  refine Met.ofW (cc := b_LM_faceOrNull) (maxL := 2) (ret := (some (.object "LeafMatches$Face"))) (by decide) rfl ?_
  intro p e s m args below meth c s₁ B hml hv
  obtain ⟨ha, hE, hH, hz⟩ := hv
  have C0 : CallFix p m c b_LM_faceOrNull 2 s args wA R_LM := ⟨B.exec, B.bytes, hml, findClass_of_methodNamed B.named, fun w hw => atoms_spec (ws := xws y_LM_faceOrNull b_LM_faceOrNull 2 (some (.object "LeafMatches$Face"))) B.pre w (List.mem_cons_of_mem _ hw)⟩
  have hr := B.returns
  have hlocks := B.notSynchronized
  obtain ⟨R, hR⟩ : ∃ R, R = (headSpec (xws y_LM_faceOrNull b_LM_faceOrNull 2 (some (.object "LeafMatches$Face"))) { frames := 1, cells := 0, slots := 0, locals := 22 }).room := ⟨_, rfl⟩
  have hR1 : 1 ≤ R.frames := by rw [hR]; exact Nat.le_of_ble_eq_true rfl
  have hR2 : 22 ≤ R.locals := by rw [hR]; exact Nat.le_of_ble_eq_true rfl
  have hR3 : 0 ≤ R.cells := Nat.zero_le _
  have hR4 : 0 ≤ R.slots := Nat.zero_le _
  rw [← hR]
  obtain ⟨Q, hQ⟩ : ∃ Q, Q = MQ below (qP (some (va_rf res))) args s 0 0 (fun _ => False) := ⟨_, rfl⟩
  rw [← hQ]
  have hS : xS G s s.heap [] := va_S.rf
  obtain ⟨ls, he, hl⟩ := x_entry m [.inr (.inl (some h0)), .inl x1] 2 (Nat.le_of_ble_eq_true rfl)
  rw [show entryFrame m args 2 = F0 m 0 ls [] by rw [ha]; exact he]
  have hl : xL ls 2 [(0, .inr (.inl (some h0))), (1, .inl x1)] := hl
  have h := hf
  unfold f_LM_faceOrNull at h
  suffices hmain : ∀ (H : Heap) (locs : List Loc), xhd G vwCl w H → xS G s H locs → H.size = sz → (H = s.heap ∧ locs = []) → W p l e R s m args below meth c H locs 0 0 Q (F0 m 0 ls []) from hmain _ _ hH hS hz ⟨rfl, rfl⟩
  clear hH hS hz
  intro H locs hH hS hz hP0
  refine x_iload_n C0 hl 1 d_LM_faceOrNull_0 rfl rfl ?_
  refine lv_iconst (v := 0) C0.1 C0.2.1 d_LM_faceOrNull_1 (by decide) ?_
  refine x_aload_n C0 hl 0 d_LM_faceOrNull_2 rfl rfl ?_
  refine x_getI C0 hE hH (ci := 0) rfl i_LM 3 (by decide) kw_1_78 d_LM_faceOrNull_3 h (fun v_1 h => ?_)
  refine lv_iconst (v := 1) C0.1 C0.2.1 d_LM_faceOrNull_6 (by decide) ?_
  refine lv_isub C0.1 C0.2.1 d_LM_faceOrNull_7 ?_
  obtain ⟨q_2, e9, h⟩ := Option.bind_eq_some_iff.mp h
  refine x_callP (va_runS (As := [.int x1, .int (0 : Int32), .int (v_1 - (1 : Int32))]) (rest := []) C0 (c_LM_isWithin l G w _ x1 (0 : Int32) (v_1 - (1 : Int32)) q_2 e9) (x_cwS 3 C0 kw_1_184 kw_1_186 kw_1_1 kw_1_185 (by decide +kernel) (x_rm hR1 hR2 (by decide) (by decide))) (x_preS hE hH hS) rfl rfl hl.1 rfl (lv_room (by simp only [List.map_cons, List.map_nil, List.sum_cons, List.sum_nil, va_rf_cat, x_catI, x_catL, x_catA] <;> decide)) d_LM_faceOrNull_8 (x_le0 hR3 hR4)) ?_
  refine x_if_eq C0 23 d_LM_faceOrNull_11 (by decide) h (fun h => ?_) (fun h => ?_)
  · refine x_null C0 d_LM_faceOrNull_23 ?_
    cases h
    rw [hQ]
    exact x_aretP C0 hr (Or.inl ⟨_, rfl⟩) hlocks hP0 d_LM_faceOrNull_24
  · refine x_aload_n C0 hl 0 d_LM_faceOrNull_14 rfl rfl ?_
    refine x_getR C0 hE hH (ci := 0) rfl i_LM 2 (by decide) kw_1_77 d_LM_faceOrNull_15 h (fun v_3 h => ?_)
    refine x_iload_n C0 hl 1 d_LM_faceOrNull_18 rfl rfl ?_
    refine x_aald C0 hE hH (t := 2) rfl d_LM_faceOrNull_19 h (fun v_4 h => ?_)
    refine x_goto C0 24 d_LM_faceOrNull_20 (by decide) ?_
    cases h
    rw [hQ]
    exact x_aretP C0 hr (Or.inl ⟨_, rfl⟩) hlocks hP0 d_LM_faceOrNull_24
theorem d_LM_isNumberTaken_0 : decode b_LM_isNumberTaken 0 = .ok (.iconst 0, 1) := by decide +kernel
theorem d_LM_isNumberTaken_1 : decode b_LM_isNumberTaken 1 = .ok (.istore_n 3, 1) := by decide +kernel
theorem d_LM_isNumberTaken_2 : decode b_LM_isNumberTaken 2 = .ok (.iload_n 3, 1) := by decide +kernel
theorem d_LM_isNumberTaken_3 : decode b_LM_isNumberTaken 3 = .ok (.aload_n 0, 1) := by decide +kernel
theorem d_LM_isNumberTaken_4 : decode b_LM_isNumberTaken 4 = .ok (.getfield 15, 3) := by decide +kernel
theorem d_LM_isNumberTaken_7 : decode b_LM_isNumberTaken 7 = .ok (.if_icmp .ge 37, 3) := by decide +kernel
theorem d_LM_isNumberTaken_10 : decode b_LM_isNumberTaken 10 = .ok (.aload_n 0, 1) := by decide +kernel
theorem d_LM_isNumberTaken_11 : decode b_LM_isNumberTaken 11 = .ok (.getfield 11, 3) := by decide +kernel
theorem d_LM_isNumberTaken_14 : decode b_LM_isNumberTaken 14 = .ok (.iload_n 3, 1) := by decide +kernel
theorem d_LM_isNumberTaken_15 : decode b_LM_isNumberTaken 15 = .ok (.aaload, 1) := by decide +kernel
theorem d_LM_isNumberTaken_16 : decode b_LM_isNumberTaken 16 = .ok (.getfield 252, 3) := by decide +kernel
theorem d_LM_isNumberTaken_19 : decode b_LM_isNumberTaken 19 = .ok (.iload_n 1, 1) := by decide +kernel
theorem d_LM_isNumberTaken_20 : decode b_LM_isNumberTaken 20 = .ok (.if_icmp .ne 18, 3) := by decide +kernel
theorem d_LM_isNumberTaken_23 : decode b_LM_isNumberTaken 23 = .ok (.aload_n 0, 1) := by decide +kernel
theorem d_LM_isNumberTaken_24 : decode b_LM_isNumberTaken 24 = .ok (.getfield 11, 3) := by decide +kernel
theorem d_LM_isNumberTaken_27 : decode b_LM_isNumberTaken 27 = .ok (.iload_n 3, 1) := by decide +kernel
theorem d_LM_isNumberTaken_28 : decode b_LM_isNumberTaken 28 = .ok (.aaload, 1) := by decide +kernel
theorem d_LM_isNumberTaken_29 : decode b_LM_isNumberTaken 29 = .ok (.getfield 255, 3) := by decide +kernel
theorem d_LM_isNumberTaken_32 : decode b_LM_isNumberTaken 32 = .ok (.iload_n 2, 1) := by decide +kernel
theorem d_LM_isNumberTaken_33 : decode b_LM_isNumberTaken 33 = .ok (.if_icmp .ne 5, 3) := by decide +kernel
theorem d_LM_isNumberTaken_36 : decode b_LM_isNumberTaken 36 = .ok (.iconst 1, 1) := by decide +kernel
theorem d_LM_isNumberTaken_37 : decode b_LM_isNumberTaken 37 = .ok (.ireturn, 1) := by decide +kernel
theorem d_LM_isNumberTaken_38 : decode b_LM_isNumberTaken 38 = .ok (.iinc 3 1, 3) := by decide +kernel
theorem d_LM_isNumberTaken_41 : decode b_LM_isNumberTaken 41 = .ok (.goto (-39), 3) := by decide +kernel
theorem d_LM_isNumberTaken_44 : decode b_LM_isNumberTaken 44 = .ok (.iconst 0, 1) := by decide +kernel
theorem d_LM_isNumberTaken_45 : decode b_LM_isNumberTaken 45 = .ok (.ireturn, 1) := by decide +kernel
def f_LM_isNumberTaken_L2 (w : Mp) (h0 : Nat) (x1 : Int32) (x2 : Int32) : Nat → Int32 → Option (Nat × Int32)
  | 0, _ => none
  | n + 1, x3 => (gI w (some h0) 0 1).bind fun v_1 => if v_1 ≤ x3 then (some (0, x3)) else ((gR w (some h0) 0 0).bind fun v_2 => (aR w v_2 1 x3).bind fun v_3 => (gI w v_3 1 1).bind fun v_4 => if v_4 = x1 then ((gR w (some h0) 0 0).bind fun v_5 => (aR w v_5 1 x3).bind fun v_6 => (gI w v_6 1 2).bind fun v_7 => if v_7 = x2 then (some (1, x3)) else (f_LM_isNumberTaken_L2 w h0 x1 x2 n (x3 + 1))) else (f_LM_isNumberTaken_L2 w h0 x1 x2 n (x3 + 1)))
set_option maxHeartbeats 4000000 in
set_option maxRecDepth 100000 in
theorem w_LM_isNumberTaken_L2 {p : Program} {l : Launch} {e : Env} {R : Room} {s : State} {m : MethodId} {args : Array Value} {below : List Frame} {meth : Method} {c : Code} {Q : State → Prop} {cells slots sz : Nat} {G : Gx} {h0 : Nat} {x1 : Int32} {x2 : Int32} (C0 : CallFix p m c b_LM_isNumberTaken 4 s args wA R_LM) (hE : xE G vwCl xaty s) (hR1 : 0 ≤ R.frames) (hR2 : 0 ≤ R.locals) (hR3 : cells ≤ R.cells) (hR4 : slots ≤ R.slots) {w : Mp} {H : Heap} {locs : List Loc} (hH : xhd G vwCl w H) (hS : xS G s H locs) (hz : H.size = sz) : ∀ (n : Nat) (x3 : Int32) (q : Nat × Int32) (ls : Array Slot), xL ls 4 [(0, .inr (.inl (some h0))), (1, .inl x1), (2, .inl x2), (3, .inl x3)] → f_LM_isNumberTaken_L2 w h0 x1 x2 n x3 = some q → ((q.1 = 0 → ∀ (ls : Array Slot), xL ls 4 [(0, .inr (.inl (some h0))), (1, .inl x1), (2, .inl x2), (3, .inl q.2)] → W p l e R s m args below meth c H locs cells slots Q (F0 m 44 ls [])) ∧ (q.1 = 1 → ∀ (ls : Array Slot), xL ls 4 [(0, .inr (.inl (some h0))), (1, .inl x1), (2, .inl x2), (3, .inl q.2)] → W p l e R s m args below meth c H locs cells slots Q (F0 m 36 ls []))) → W p l e R s m args below meth c H locs cells slots Q (F0 m 2 ls []) := by
  intro n
  induction n with
  | zero => intro _ q ls hl h; cases h
  | succ n ih =>
    intro x3 q ls hl h K
    rw [f_LM_isNumberTaken_L2] at h
    refine x_iload_n C0 hl 3 d_LM_isNumberTaken_2 rfl rfl ?_
    refine x_aload_n C0 hl 0 d_LM_isNumberTaken_3 rfl rfl ?_
    refine x_getI C0 hE hH (ci := 0) rfl i_LM 1 (by decide) kw_1_76 d_LM_isNumberTaken_4 h (fun v_1 h => ?_)
    refine x_icmp_ge C0 44 d_LM_isNumberTaken_7 (by decide) h (fun h => ?_) (fun h => ?_)
    · cases h
      exact K.1 rfl ls (x_sub hl [0, 1, 2, 3] rfl)
    · refine x_aload_n C0 hl 0 d_LM_isNumberTaken_10 rfl rfl ?_
      refine x_getR C0 hE hH (ci := 0) rfl i_LM 0 (by decide) kw_1_75 d_LM_isNumberTaken_11 h (fun v_2 h => ?_)
      refine x_iload_n C0 hl 3 d_LM_isNumberTaken_14 rfl rfl ?_
      refine x_aald C0 hE hH (t := 1) rfl d_LM_isNumberTaken_15 h (fun v_3 h => ?_)
      refine x_getI C0 hE hH (ci := 1) rfl i_Leaf 1 (by decide) kw_1_213 d_LM_isNumberTaken_16 h (fun v_4 h => ?_)
      refine x_iload_n C0 hl 1 d_LM_isNumberTaken_19 rfl rfl ?_
      refine x_icmp_ne C0 38 d_LM_isNumberTaken_20 (by decide) h (fun h => ?_) (fun h => ?_)
      · refine x_iinc (v := 1) (lv' := [(3, .inl (x3 + 1)), (0, .inr (.inl (some h0))), (1, .inl x1), (2, .inl x2)]) C0 hl 3 d_LM_isNumberTaken_38 rfl (by decide) (by decide) rfl (fun ls hl => ?_)
        refine x_goto C0 2 d_LM_isNumberTaken_41 (by decide) ?_
        exact ih _ q ls (x_sub hl [1, 2, 3, 0] rfl) h K
      · refine x_aload_n C0 hl 0 d_LM_isNumberTaken_23 rfl rfl ?_
        refine x_getR C0 hE hH (ci := 0) rfl i_LM 0 (by decide) kw_1_75 d_LM_isNumberTaken_24 h (fun v_5 h => ?_)
        refine x_iload_n C0 hl 3 d_LM_isNumberTaken_27 rfl rfl ?_
        refine x_aald C0 hE hH (t := 1) rfl d_LM_isNumberTaken_28 h (fun v_6 h => ?_)
        refine x_getI C0 hE hH (ci := 1) rfl i_Leaf 2 (by decide) kw_1_215 d_LM_isNumberTaken_29 h (fun v_7 h => ?_)
        refine x_iload_n C0 hl 2 d_LM_isNumberTaken_32 rfl rfl ?_
        refine x_icmp_ne C0 38 d_LM_isNumberTaken_33 (by decide) h (fun h => ?_) (fun h => ?_)
        · refine x_iinc (v := 1) (lv' := [(3, .inl (x3 + 1)), (0, .inr (.inl (some h0))), (1, .inl x1), (2, .inl x2)]) C0 hl 3 d_LM_isNumberTaken_38 rfl (by decide) (by decide) rfl (fun ls hl => ?_)
          refine x_goto C0 2 d_LM_isNumberTaken_41 (by decide) ?_
          exact ih _ q ls (x_sub hl [1, 2, 3, 0] rfl) h K
        · cases h
          exact K.2 rfl ls (x_sub hl [0, 1, 2, 3] rfl)
def f_LM_isNumberTaken (w : Mp) (h0 : Nat) (x1 : Int32) (x2 : Int32) : Option (Int32) := (f_LM_isNumberTaken_L2 w h0 x1 x2 100000 (0 : Int32)).bind fun q_8 => if q_8.1 = 0 then (some (0 : Int32)) else (if q_8.1 = 1 then (some (1 : Int32)) else (none))
set_option maxHeartbeats 4000000 in
set_option maxRecDepth 100000 in
theorem c_LM_isNumberTaken (l : Launch) (G : Gx) (w : Mp) (sz : Nat) (h0 : Nat) (x1 : Int32) (x2 : Int32) (res : Int32) (hf : f_LM_isNumberTaken w h0 x1 x2 = some res) : Met l y_LM_isNumberTaken (xws y_LM_isNumberTaken b_LM_isNumberTaken 4 (some .boolean)) { frames := 0, cells := 0, slots := 0, locals := 0 } (xPc G vwCl xaty w sz [va_rf (some h0), .int x1, .int x2]) (qP (some (.int res))) 0 0 (fun _ => False) := by
  refine Met.ofW (cc := b_LM_isNumberTaken) (maxL := 4) (ret := (some .boolean)) (by decide) rfl ?_
  intro p e s m args below meth c s₁ B hml hv
  obtain ⟨ha, hE, hH, hz⟩ := hv
  have C0 : CallFix p m c b_LM_isNumberTaken 4 s args wA R_LM := ⟨B.exec, B.bytes, hml, findClass_of_methodNamed B.named, fun w hw => atoms_spec (ws := xws y_LM_isNumberTaken b_LM_isNumberTaken 4 (some .boolean)) B.pre w (List.mem_cons_of_mem _ hw)⟩
  have hr := B.returns
  have hlocks := B.notSynchronized
  obtain ⟨R, hR⟩ : ∃ R, R = (headSpec (xws y_LM_isNumberTaken b_LM_isNumberTaken 4 (some .boolean)) { frames := 0, cells := 0, slots := 0, locals := 0 }).room := ⟨_, rfl⟩
  have hR1 : 0 ≤ R.frames := by rw [hR]; exact Nat.le_of_ble_eq_true rfl
  have hR2 : 0 ≤ R.locals := by rw [hR]; exact Nat.le_of_ble_eq_true rfl
  have hR3 : 0 ≤ R.cells := Nat.zero_le _
  have hR4 : 0 ≤ R.slots := Nat.zero_le _
  rw [← hR]
  obtain ⟨Q, hQ⟩ : ∃ Q, Q = MQ below (qP (some (.int res))) args s 0 0 (fun _ => False) := ⟨_, rfl⟩
  rw [← hQ]
  have hS : xS G s s.heap [] := va_S.rf
  obtain ⟨ls, he, hl⟩ := x_entry m [.inr (.inl (some h0)), .inl x1, .inl x2] 4 (Nat.le_of_ble_eq_true rfl)
  rw [show entryFrame m args 4 = F0 m 0 ls [] by rw [ha]; exact he]
  have hl : xL ls 4 [(0, .inr (.inl (some h0))), (1, .inl x1), (2, .inl x2)] := hl
  have h := hf
  unfold f_LM_isNumberTaken at h
  suffices hmain : ∀ (H : Heap) (locs : List Loc), xhd G vwCl w H → xS G s H locs → H.size = sz → (H = s.heap ∧ locs = []) → W p l e R s m args below meth c H locs 0 0 Q (F0 m 0 ls []) from hmain _ _ hH hS hz ⟨rfl, rfl⟩
  clear hH hS hz
  intro H locs hH hS hz hP0
  refine lv_iconst (v := 0) C0.1 C0.2.1 d_LM_isNumberTaken_0 (by decide) ?_
  refine x_istore_n (lv' := [(3, .inl (0 : Int32)), (0, .inr (.inl (some h0))), (1, .inl x1), (2, .inl x2)]) C0 hl d_LM_isNumberTaken_1 rfl (by decide) rfl (fun ls hl => ?_)
  obtain ⟨q_8, e9, h⟩ := Option.bind_eq_some_iff.mp h
  refine w_LM_isNumberTaken_L2 C0 hE hR1 hR2 hR3 hR4 hH hS hz 100000 _ q_8 ls (x_sub hl [1, 2, 3, 0] rfl) e9 ⟨fun z9 ls hl => ?_, fun z9 ls hl => ?_⟩
  · rw [if_pos z9] at h
    refine lv_iconst (v := 0) C0.1 C0.2.1 d_LM_isNumberTaken_44 (by decide) ?_
    cases h
    rw [hQ]
    exact x_zretP C0 hr hlocks hP0 rfl d_LM_isNumberTaken_45
  · rw [if_neg (by rw [z9]; decide), if_pos z9] at h
    refine lv_iconst (v := 1) C0.1 C0.2.1 d_LM_isNumberTaken_36 (by decide) ?_
    cases h
    rw [hQ]
    exact x_zretP C0 hr hlocks hP0 rfl d_LM_isNumberTaken_37
theorem d_LM_countFree_0 : decode b_LM_countFree 0 = .ok (.iconst 0, 1) := by decide +kernel
theorem d_LM_countFree_1 : decode b_LM_countFree 1 = .ok (.istore_n 2, 1) := by decide +kernel
theorem d_LM_countFree_2 : decode b_LM_countFree 2 = .ok (.iconst 0, 1) := by decide +kernel
theorem d_LM_countFree_3 : decode b_LM_countFree 3 = .ok (.istore_n 3, 1) := by decide +kernel
theorem d_LM_countFree_4 : decode b_LM_countFree 4 = .ok (.iload_n 3, 1) := by decide +kernel
theorem d_LM_countFree_5 : decode b_LM_countFree 5 = .ok (.aload_n 0, 1) := by decide +kernel
theorem d_LM_countFree_6 : decode b_LM_countFree 6 = .ok (.getfield 15, 3) := by decide +kernel
theorem d_LM_countFree_9 : decode b_LM_countFree 9 = .ok (.if_icmp .ge 37, 3) := by decide +kernel
theorem d_LM_countFree_12 : decode b_LM_countFree 12 = .ok (.aload_n 0, 1) := by decide +kernel
theorem d_LM_countFree_13 : decode b_LM_countFree 13 = .ok (.getfield 11, 3) := by decide +kernel
theorem d_LM_countFree_16 : decode b_LM_countFree 16 = .ok (.iload_n 3, 1) := by decide +kernel
theorem d_LM_countFree_17 : decode b_LM_countFree 17 = .ok (.aaload, 1) := by decide +kernel
theorem d_LM_countFree_18 : decode b_LM_countFree 18 = .ok (.getfield 252, 3) := by decide +kernel
theorem d_LM_countFree_21 : decode b_LM_countFree 21 = .ok (.iload_n 1, 1) := by decide +kernel
theorem d_LM_countFree_22 : decode b_LM_countFree 22 = .ok (.if_icmp .ne 18, 3) := by decide +kernel
theorem d_LM_countFree_25 : decode b_LM_countFree 25 = .ok (.aload_n 0, 1) := by decide +kernel
theorem d_LM_countFree_26 : decode b_LM_countFree 26 = .ok (.getfield 11, 3) := by decide +kernel
theorem d_LM_countFree_29 : decode b_LM_countFree 29 = .ok (.iload_n 3, 1) := by decide +kernel
theorem d_LM_countFree_30 : decode b_LM_countFree 30 = .ok (.aaload, 1) := by decide +kernel
theorem d_LM_countFree_31 : decode b_LM_countFree 31 = .ok (.invokevirtual 258, 3) := by decide +kernel
theorem d_LM_countFree_34 : decode b_LM_countFree 34 = .ok (.ifCond .eq 6, 3) := by decide +kernel
theorem d_LM_countFree_37 : decode b_LM_countFree 37 = .ok (.iinc 2 1, 3) := by decide +kernel
theorem d_LM_countFree_40 : decode b_LM_countFree 40 = .ok (.iinc 3 1, 3) := by decide +kernel
theorem d_LM_countFree_43 : decode b_LM_countFree 43 = .ok (.goto (-39), 3) := by decide +kernel
theorem d_LM_countFree_46 : decode b_LM_countFree 46 = .ok (.iload_n 2, 1) := by decide +kernel
theorem d_LM_countFree_47 : decode b_LM_countFree 47 = .ok (.ireturn, 1) := by decide +kernel
def f_LM_countFree_L4 (w : Mp) (h0 : Nat) (x1 : Int32) : Nat → Int32 → Int32 → Option (Nat × Int32 × Int32)
  | 0, _, _ => none
  | n + 1, x2, x3 => (gI w (some h0) 0 1).bind fun v_1 => if v_1 ≤ x3 then (some (0, x2, x3)) else ((gR w (some h0) 0 0).bind fun v_2 => (aR w v_2 1 x3).bind fun v_3 => (gI w v_3 1 1).bind fun v_4 => if v_4 = x1 then ((gR w (some h0) 0 0).bind fun v_5 => (aR w v_5 1 x3).bind fun v_6 => (xo w v_6 1).bind fun b_8 => (f_Leaf_isFree w b_8).bind fun q_7 => if q_7 = 0 then (f_LM_countFree_L4 w h0 x1 n x2 (x3 + 1)) else (f_LM_countFree_L4 w h0 x1 n (x2 + 1) (x3 + 1))) else (f_LM_countFree_L4 w h0 x1 n x2 (x3 + 1)))
set_option maxHeartbeats 4000000 in
set_option maxRecDepth 100000 in
theorem w_LM_countFree_L4 {p : Program} {l : Launch} {e : Env} {R : Room} {s : State} {m : MethodId} {args : Array Value} {below : List Frame} {meth : Method} {c : Code} {Q : State → Prop} {cells slots sz : Nat} {G : Gx} {h0 : Nat} {x1 : Int32} (C0 : CallFix p m c b_LM_countFree 4 s args wA R_LM) (hE : xE G vwCl xaty s) (hR1 : 1 ≤ R.frames) (hR2 : 20 ≤ R.locals) (hR3 : cells ≤ R.cells) (hR4 : slots ≤ R.slots) {w : Mp} {H : Heap} {locs : List Loc} (hH : xhd G vwCl w H) (hS : xS G s H locs) (hz : H.size = sz) : ∀ (n : Nat) (x2 : Int32) (x3 : Int32) (q : Nat × Int32 × Int32) (ls : Array Slot), xL ls 4 [(0, .inr (.inl (some h0))), (1, .inl x1), (2, .inl x2), (3, .inl x3)] → f_LM_countFree_L4 w h0 x1 n x2 x3 = some q → (∀ (ls : Array Slot), xL ls 4 [(0, .inr (.inl (some h0))), (1, .inl x1), (2, .inl q.2.1), (3, .inl q.2.2)] → W p l e R s m args below meth c H locs cells slots Q (F0 m 46 ls [])) → W p l e R s m args below meth c H locs cells slots Q (F0 m 4 ls []) := by
  intro n
  induction n with
  | zero => intro _ _ q ls hl h; cases h
  | succ n ih =>
    intro x2 x3 q ls hl h K
    rw [f_LM_countFree_L4] at h
    refine x_iload_n C0 hl 3 d_LM_countFree_4 rfl rfl ?_
    refine x_aload_n C0 hl 0 d_LM_countFree_5 rfl rfl ?_
    refine x_getI C0 hE hH (ci := 0) rfl i_LM 1 (by decide) kw_1_76 d_LM_countFree_6 h (fun v_1 h => ?_)
    refine x_icmp_ge C0 46 d_LM_countFree_9 (by decide) h (fun h => ?_) (fun h => ?_)
    · cases h
      exact K ls (x_sub hl [0, 1, 2, 3] rfl)
    · refine x_aload_n C0 hl 0 d_LM_countFree_12 rfl rfl ?_
      refine x_getR C0 hE hH (ci := 0) rfl i_LM 0 (by decide) kw_1_75 d_LM_countFree_13 h (fun v_2 h => ?_)
      refine x_iload_n C0 hl 3 d_LM_countFree_16 rfl rfl ?_
      refine x_aald C0 hE hH (t := 1) rfl d_LM_countFree_17 h (fun v_3 h => ?_)
      refine x_getI C0 hE hH (ci := 1) rfl i_Leaf 1 (by decide) kw_1_213 d_LM_countFree_18 h (fun v_4 h => ?_)
      refine x_iload_n C0 hl 1 d_LM_countFree_21 rfl rfl ?_
      refine x_icmp_ne C0 40 d_LM_countFree_22 (by decide) h (fun h => ?_) (fun h => ?_)
      · refine x_iinc (v := 1) (lv' := [(3, .inl (x3 + 1)), (0, .inr (.inl (some h0))), (1, .inl x1), (2, .inl x2)]) C0 hl 3 d_LM_countFree_40 rfl (by decide) (by decide) rfl (fun ls hl => ?_)
        refine x_goto C0 4 d_LM_countFree_43 (by decide) ?_
        exact ih _ _ q ls (x_sub hl [1, 2, 3, 0] rfl) h K
      · refine x_aload_n C0 hl 0 d_LM_countFree_25 rfl rfl ?_
        refine x_getR C0 hE hH (ci := 0) rfl i_LM 0 (by decide) kw_1_75 d_LM_countFree_26 h (fun v_5 h => ?_)
        refine x_iload_n C0 hl 3 d_LM_countFree_29 rfl rfl ?_
        refine x_aald C0 hE hH (t := 1) rfl d_LM_countFree_30 h (fun v_6 h => ?_)
        obtain ⟨b_8, e9, h⟩ := Option.bind_eq_some_iff.mp h
        obtain ⟨e8, fs9, hb9⟩ := xo_inv e9
        obtain ⟨q_7, e9, h⟩ := Option.bind_eq_some_iff.mp h
        refine x_callP (va_runV (As := []) (rest := []) C0 (c_Leaf_isFree l G w _ b_8 q_7 e9) (x_cwV 0 C0 kw_2_73 kw_2_76 kw_1_9 kw_2_74 kw_2_75 (by decide +kernel) (x_rm hR1 hR2 (by decide) (by decide))) (x_preV hE hH hS (ci := 1) rfl hb9) rfl rfl hl.1 (by rw [e8]; rfl) (lv_room (by simp only [List.map_cons, List.map_nil, List.sum_cons, List.sum_nil, va_rf_cat, x_catI, x_catL, x_catA] <;> decide)) d_LM_countFree_31 (x_le0 hR3 hR4)) ?_
        refine x_if_eq C0 40 d_LM_countFree_34 (by decide) h (fun h => ?_) (fun h => ?_)
        · refine x_iinc (v := 1) (lv' := [(3, .inl (x3 + 1)), (0, .inr (.inl (some h0))), (1, .inl x1), (2, .inl x2)]) C0 hl 3 d_LM_countFree_40 rfl (by decide) (by decide) rfl (fun ls hl => ?_)
          refine x_goto C0 4 d_LM_countFree_43 (by decide) ?_
          exact ih _ _ q ls (x_sub hl [1, 2, 3, 0] rfl) h K
        · refine x_iinc (v := 1) (lv' := [(2, .inl (x2 + 1)), (0, .inr (.inl (some h0))), (1, .inl x1), (3, .inl x3)]) C0 hl 2 d_LM_countFree_37 rfl (by decide) (by decide) rfl (fun ls hl => ?_)
          refine x_iinc (v := 1) (lv' := [(3, .inl (x3 + 1)), (2, .inl (x2 + 1)), (0, .inr (.inl (some h0))), (1, .inl x1)]) C0 hl 3 d_LM_countFree_40 rfl (by decide) (by decide) rfl (fun ls hl => ?_)
          refine x_goto C0 4 d_LM_countFree_43 (by decide) ?_
          exact ih _ _ q ls (x_sub hl [2, 3, 1, 0] rfl) h K
def f_LM_countFree (w : Mp) (h0 : Nat) (x1 : Int32) : Option (Int32) := (f_LM_countFree_L4 w h0 x1 100000 (0 : Int32) (0 : Int32)).bind fun q_9 => some q_9.2.1
set_option maxHeartbeats 4000000 in
set_option maxRecDepth 100000 in
theorem c_LM_countFree (l : Launch) (G : Gx) (w : Mp) (sz : Nat) (h0 : Nat) (x1 : Int32) (res : Int32) (hf : f_LM_countFree w h0 x1 = some res) : Met l y_LM_countFree (xws y_LM_countFree b_LM_countFree 4 (some .int)) { frames := 1, cells := 0, slots := 0, locals := 20 } (xPc G vwCl xaty w sz [va_rf (some h0), .int x1]) (qP (some (.int res))) 0 0 (fun _ => False) := by
  refine Met.ofW (cc := b_LM_countFree) (maxL := 4) (ret := (some .int)) (by decide) rfl ?_
  intro p e s m args below meth c s₁ B hml hv
  obtain ⟨ha, hE, hH, hz⟩ := hv
  have C0 : CallFix p m c b_LM_countFree 4 s args wA R_LM := ⟨B.exec, B.bytes, hml, findClass_of_methodNamed B.named, fun w hw => atoms_spec (ws := xws y_LM_countFree b_LM_countFree 4 (some .int)) B.pre w (List.mem_cons_of_mem _ hw)⟩
  have hr := B.returns
  have hlocks := B.notSynchronized
  obtain ⟨R, hR⟩ : ∃ R, R = (headSpec (xws y_LM_countFree b_LM_countFree 4 (some .int)) { frames := 1, cells := 0, slots := 0, locals := 20 }).room := ⟨_, rfl⟩
  have hR1 : 1 ≤ R.frames := by rw [hR]; exact Nat.le_of_ble_eq_true rfl
  have hR2 : 20 ≤ R.locals := by rw [hR]; exact Nat.le_of_ble_eq_true rfl
  have hR3 : 0 ≤ R.cells := Nat.zero_le _
  have hR4 : 0 ≤ R.slots := Nat.zero_le _
  rw [← hR]
  obtain ⟨Q, hQ⟩ : ∃ Q, Q = MQ below (qP (some (.int res))) args s 0 0 (fun _ => False) := ⟨_, rfl⟩
  rw [← hQ]
  have hS : xS G s s.heap [] := va_S.rf
  obtain ⟨ls, he, hl⟩ := x_entry m [.inr (.inl (some h0)), .inl x1] 4 (Nat.le_of_ble_eq_true rfl)
  rw [show entryFrame m args 4 = F0 m 0 ls [] by rw [ha]; exact he]
  have hl : xL ls 4 [(0, .inr (.inl (some h0))), (1, .inl x1)] := hl
  have h := hf
  unfold f_LM_countFree at h
  suffices hmain : ∀ (H : Heap) (locs : List Loc), xhd G vwCl w H → xS G s H locs → H.size = sz → (H = s.heap ∧ locs = []) → W p l e R s m args below meth c H locs 0 0 Q (F0 m 0 ls []) from hmain _ _ hH hS hz ⟨rfl, rfl⟩
  clear hH hS hz
  intro H locs hH hS hz hP0
  refine lv_iconst (v := 0) C0.1 C0.2.1 d_LM_countFree_0 (by decide) ?_
  refine x_istore_n (lv' := [(2, .inl (0 : Int32)), (0, .inr (.inl (some h0))), (1, .inl x1)]) C0 hl d_LM_countFree_1 rfl (by decide) rfl (fun ls hl => ?_)
  refine lv_iconst (v := 0) C0.1 C0.2.1 d_LM_countFree_2 (by decide) ?_
  refine x_istore_n (lv' := [(3, .inl (0 : Int32)), (2, .inl (0 : Int32)), (0, .inr (.inl (some h0))), (1, .inl x1)]) C0 hl d_LM_countFree_3 rfl (by decide) rfl (fun ls hl => ?_)
  obtain ⟨q_9, e9, h⟩ := Option.bind_eq_some_iff.mp h
  refine w_LM_countFree_L4 C0 hE hR1 hR2 hR3 hR4 hH hS hz 100000 _ _ q_9 ls (x_sub hl [2, 3, 1, 0] rfl) e9 (fun ls hl => ?_)
  refine x_iload_n C0 hl 2 d_LM_countFree_46 rfl rfl ?_
  cases h
  rw [hQ]
  exact x_iretP C0 hr hlocks hP0 d_LM_countFree_47
theorem d_LM_leastFlitchWith_0 : decode b_LM_leastFlitchWith 0 = .ok (.iconst 0, 1) := by decide +kernel
theorem d_LM_leastFlitchWith_1 : decode b_LM_leastFlitchWith 1 = .ok (.istore_n 2, 1) := by decide +kernel
theorem d_LM_leastFlitchWith_2 : decode b_LM_leastFlitchWith 2 = .ok (.iload_n 2, 1) := by decide +kernel
theorem d_LM_leastFlitchWith_3 : decode b_LM_leastFlitchWith 3 = .ok (.iconst 4, 1) := by decide +kernel
theorem d_LM_leastFlitchWith_4 : decode b_LM_leastFlitchWith 4 = .ok (.if_icmp .ge 20, 3) := by decide +kernel
theorem d_LM_leastFlitchWith_7 : decode b_LM_leastFlitchWith 7 = .ok (.aload_n 0, 1) := by decide +kernel
theorem d_LM_leastFlitchWith_8 : decode b_LM_leastFlitchWith 8 = .ok (.iload_n 2, 1) := by decide +kernel
theorem d_LM_leastFlitchWith_9 : decode b_LM_leastFlitchWith 9 = .ok (.invokevirtual 261, 3) := by decide +kernel
theorem d_LM_leastFlitchWith_12 : decode b_LM_leastFlitchWith 12 = .ok (.iload_n 1, 1) := by decide +kernel
theorem d_LM_leastFlitchWith_13 : decode b_LM_leastFlitchWith 13 = .ok (.if_icmp .lt 5, 3) := by decide +kernel
theorem d_LM_leastFlitchWith_16 : decode b_LM_leastFlitchWith 16 = .ok (.iload_n 2, 1) := by decide +kernel
theorem d_LM_leastFlitchWith_17 : decode b_LM_leastFlitchWith 17 = .ok (.ireturn, 1) := by decide +kernel
theorem d_LM_leastFlitchWith_18 : decode b_LM_leastFlitchWith 18 = .ok (.iinc 2 1, 3) := by decide +kernel
theorem d_LM_leastFlitchWith_21 : decode b_LM_leastFlitchWith 21 = .ok (.goto (-19), 3) := by decide +kernel
theorem d_LM_leastFlitchWith_24 : decode b_LM_leastFlitchWith 24 = .ok (.iconst (-1), 1) := by decide +kernel
theorem d_LM_leastFlitchWith_25 : decode b_LM_leastFlitchWith 25 = .ok (.ireturn, 1) := by decide +kernel
def f_LM_leastFlitchWith_L2 (w : Mp) (h0 : Nat) (x1 : Int32) : Nat → Int32 → Option (Nat × Int32)
  | 0, _ => none
  | n + 1, x2 => if (4 : Int32) ≤ x2 then (some (0, x2)) else ((xo w (some h0) 0).bind fun b_2 => (f_LM_countFree w b_2 x2).bind fun q_1 => if q_1 < x1 then (f_LM_leastFlitchWith_L2 w h0 x1 n (x2 + 1)) else (some (1, x2)))
set_option maxHeartbeats 4000000 in
set_option maxRecDepth 100000 in
theorem w_LM_leastFlitchWith_L2 {p : Program} {l : Launch} {e : Env} {R : Room} {s : State} {m : MethodId} {args : Array Value} {below : List Frame} {meth : Method} {c : Code} {Q : State → Prop} {cells slots sz : Nat} {G : Gx} {h0 : Nat} {x1 : Int32} (C0 : CallFix p m c b_LM_leastFlitchWith 3 s args wA R_LM) (hE : xE G vwCl xaty s) (hR1 : 2 ≤ R.frames) (hR2 : 43 ≤ R.locals) (hR3 : cells ≤ R.cells) (hR4 : slots ≤ R.slots) {w : Mp} {H : Heap} {locs : List Loc} (hH : xhd G vwCl w H) (hS : xS G s H locs) (hz : H.size = sz) : ∀ (n : Nat) (x2 : Int32) (q : Nat × Int32) (ls : Array Slot), xL ls 3 [(0, .inr (.inl (some h0))), (1, .inl x1), (2, .inl x2)] → f_LM_leastFlitchWith_L2 w h0 x1 n x2 = some q → ((q.1 = 0 → ∀ (ls : Array Slot), xL ls 3 [(0, .inr (.inl (some h0))), (1, .inl x1), (2, .inl q.2)] → W p l e R s m args below meth c H locs cells slots Q (F0 m 24 ls [])) ∧ (q.1 = 1 → ∀ (ls : Array Slot), xL ls 3 [(0, .inr (.inl (some h0))), (1, .inl x1), (2, .inl q.2)] → W p l e R s m args below meth c H locs cells slots Q (F0 m 16 ls []))) → W p l e R s m args below meth c H locs cells slots Q (F0 m 2 ls []) := by
  intro n
  induction n with
  | zero => intro _ q ls hl h; cases h
  | succ n ih =>
    intro x2 q ls hl h K
    rw [f_LM_leastFlitchWith_L2] at h
    refine x_iload_n C0 hl 2 d_LM_leastFlitchWith_2 rfl rfl ?_
    refine lv_iconst (v := 4) C0.1 C0.2.1 d_LM_leastFlitchWith_3 (by decide) ?_
    refine x_icmp_ge C0 24 d_LM_leastFlitchWith_4 (by decide) h (fun h => ?_) (fun h => ?_)
    · cases h
      exact K.1 rfl ls (x_sub hl [0, 1, 2] rfl)
    · refine x_aload_n C0 hl 0 d_LM_leastFlitchWith_7 rfl rfl ?_
      refine x_iload_n C0 hl 2 d_LM_leastFlitchWith_8 rfl rfl ?_
      obtain ⟨b_2, e9, h⟩ := Option.bind_eq_some_iff.mp h
      obtain ⟨e8, fs9, hb9⟩ := xo_inv e9
      obtain ⟨q_1, e9, h⟩ := Option.bind_eq_some_iff.mp h
      refine x_callP (va_runV (As := [.int x2]) (rest := []) C0 (c_LM_countFree l G w _ b_2 x2 q_1 e9) (x_cwV 1 C0 kw_2_69 kw_2_72 kw_1_1 kw_2_71 kw_0_4 (by decide +kernel) (x_rm hR1 hR2 (by decide) (by decide))) (x_preV hE hH hS (ci := 0) rfl hb9) rfl rfl hl.1 (by rw [e8]; rfl) (lv_room (by simp only [List.map_cons, List.map_nil, List.sum_cons, List.sum_nil, va_rf_cat, x_catI, x_catL, x_catA] <;> decide)) d_LM_leastFlitchWith_9 (x_le0 hR3 hR4)) ?_
      refine x_iload_n C0 hl 1 d_LM_leastFlitchWith_12 rfl rfl ?_
      refine x_icmp_lt C0 18 d_LM_leastFlitchWith_13 (by decide) h (fun h => ?_) (fun h => ?_)
      · refine x_iinc (v := 1) (lv' := [(2, .inl (x2 + 1)), (0, .inr (.inl (some h0))), (1, .inl x1)]) C0 hl 2 d_LM_leastFlitchWith_18 rfl (by decide) (by decide) rfl (fun ls hl => ?_)
        refine x_goto C0 2 d_LM_leastFlitchWith_21 (by decide) ?_
        exact ih _ q ls (x_sub hl [1, 2, 0] rfl) h K
      · cases h
        exact K.2 rfl ls (x_sub hl [0, 1, 2] rfl)
def f_LM_leastFlitchWith (w : Mp) (h0 : Nat) (x1 : Int32) : Option (Int32) := (f_LM_leastFlitchWith_L2 w h0 x1 100000 (0 : Int32)).bind fun q_3 => if q_3.1 = 0 then (some (-1 : Int32)) else (if q_3.1 = 1 then (some q_3.2) else (none))
set_option maxHeartbeats 4000000 in
set_option maxRecDepth 100000 in
theorem c_LM_leastFlitchWith (l : Launch) (G : Gx) (w : Mp) (sz : Nat) (h0 : Nat) (x1 : Int32) (res : Int32) (hf : f_LM_leastFlitchWith w h0 x1 = some res) : Met l y_LM_leastFlitchWith (xws y_LM_leastFlitchWith b_LM_leastFlitchWith 3 (some .int)) { frames := 2, cells := 0, slots := 0, locals := 43 } (xPc G vwCl xaty w sz [va_rf (some h0), .int x1]) (qP (some (.int res))) 0 0 (fun _ => False) := by
  refine Met.ofW (cc := b_LM_leastFlitchWith) (maxL := 3) (ret := (some .int)) (by decide) rfl ?_
  intro p e s m args below meth c s₁ B hml hv
  obtain ⟨ha, hE, hH, hz⟩ := hv
  have C0 : CallFix p m c b_LM_leastFlitchWith 3 s args wA R_LM := ⟨B.exec, B.bytes, hml, findClass_of_methodNamed B.named, fun w hw => atoms_spec (ws := xws y_LM_leastFlitchWith b_LM_leastFlitchWith 3 (some .int)) B.pre w (List.mem_cons_of_mem _ hw)⟩
  have hr := B.returns
  have hlocks := B.notSynchronized
  obtain ⟨R, hR⟩ : ∃ R, R = (headSpec (xws y_LM_leastFlitchWith b_LM_leastFlitchWith 3 (some .int)) { frames := 2, cells := 0, slots := 0, locals := 43 }).room := ⟨_, rfl⟩
  have hR1 : 2 ≤ R.frames := by rw [hR]; exact Nat.le_of_ble_eq_true rfl
  have hR2 : 43 ≤ R.locals := by rw [hR]; exact Nat.le_of_ble_eq_true rfl
  have hR3 : 0 ≤ R.cells := Nat.zero_le _
  have hR4 : 0 ≤ R.slots := Nat.zero_le _
  rw [← hR]
  obtain ⟨Q, hQ⟩ : ∃ Q, Q = MQ below (qP (some (.int res))) args s 0 0 (fun _ => False) := ⟨_, rfl⟩
  rw [← hQ]
  have hS : xS G s s.heap [] := va_S.rf
  obtain ⟨ls, he, hl⟩ := x_entry m [.inr (.inl (some h0)), .inl x1] 3 (Nat.le_of_ble_eq_true rfl)
  rw [show entryFrame m args 3 = F0 m 0 ls [] by rw [ha]; exact he]
  have hl : xL ls 3 [(0, .inr (.inl (some h0))), (1, .inl x1)] := hl
  have h := hf
  unfold f_LM_leastFlitchWith at h
  suffices hmain : ∀ (H : Heap) (locs : List Loc), xhd G vwCl w H → xS G s H locs → H.size = sz → (H = s.heap ∧ locs = []) → W p l e R s m args below meth c H locs 0 0 Q (F0 m 0 ls []) from hmain _ _ hH hS hz ⟨rfl, rfl⟩
  clear hH hS hz
  intro H locs hH hS hz hP0
  refine lv_iconst (v := 0) C0.1 C0.2.1 d_LM_leastFlitchWith_0 (by decide) ?_
  refine x_istore_n (lv' := [(2, .inl (0 : Int32)), (0, .inr (.inl (some h0))), (1, .inl x1)]) C0 hl d_LM_leastFlitchWith_1 rfl (by decide) rfl (fun ls hl => ?_)
  obtain ⟨q_3, e9, h⟩ := Option.bind_eq_some_iff.mp h
  refine w_LM_leastFlitchWith_L2 C0 hE hR1 hR2 hR3 hR4 hH hS hz 100000 _ q_3 ls (x_sub hl [1, 2, 0] rfl) e9 ⟨fun z9 ls hl => ?_, fun z9 ls hl => ?_⟩
  · rw [if_pos z9] at h
    refine lv_iconst (v := -1) C0.1 C0.2.1 d_LM_leastFlitchWith_24 (by decide) ?_
    cases h
    rw [hQ]
    exact x_iretP C0 hr hlocks hP0 d_LM_leastFlitchWith_25
  · rw [if_neg (by rw [z9]; decide), if_pos z9] at h
    refine x_iload_n C0 hl 2 d_LM_leastFlitchWith_16 rfl rfl ?_
    cases h
    rw [hQ]
    exact x_iretP C0 hr hlocks hP0 d_LM_leastFlitchWith_17
theorem d_LM_isBroken_0 : decode b_LM_isBroken 0 = .ok (.iconst 1, 1) := by decide +kernel
theorem d_LM_isBroken_1 : decode b_LM_isBroken 1 = .ok (.istore_n 2, 1) := by decide +kernel
theorem d_LM_isBroken_2 : decode b_LM_isBroken 2 = .ok (.iload_n 2, 1) := by decide +kernel
theorem d_LM_isBroken_3 : decode b_LM_isBroken 3 = .ok (.iload_n 1, 1) := by decide +kernel
theorem d_LM_isBroken_4 : decode b_LM_isBroken 4 = .ok (.if_icmp .ge 31, 3) := by decide +kernel
theorem d_LM_isBroken_7 : decode b_LM_isBroken 7 = .ok (.aload_n 0, 1) := by decide +kernel
theorem d_LM_isBroken_8 : decode b_LM_isBroken 8 = .ok (.getfield 35, 3) := by decide +kernel
theorem d_LM_isBroken_11 : decode b_LM_isBroken 11 = .ok (.iload_n 2, 1) := by decide +kernel
theorem d_LM_isBroken_12 : decode b_LM_isBroken 12 = .ok (.aaload, 1) := by decide +kernel
theorem d_LM_isBroken_13 : decode b_LM_isBroken 13 = .ok (.aload_n 0, 1) := by decide +kernel
theorem d_LM_isBroken_14 : decode b_LM_isBroken 14 = .ok (.getfield 35, 3) := by decide +kernel
theorem d_LM_isBroken_17 : decode b_LM_isBroken 17 = .ok (.iload_n 2, 1) := by decide +kernel
theorem d_LM_isBroken_18 : decode b_LM_isBroken 18 = .ok (.iconst 1, 1) := by decide +kernel
theorem d_LM_isBroken_19 : decode b_LM_isBroken 19 = .ok (.isub, 1) := by decide +kernel
theorem d_LM_isBroken_20 : decode b_LM_isBroken 20 = .ok (.aaload, 1) := by decide +kernel
theorem d_LM_isBroken_21 : decode b_LM_isBroken 21 = .ok (.invokevirtual 264, 3) := by decide +kernel
theorem d_LM_isBroken_24 : decode b_LM_isBroken 24 = .ok (.ifCond .ne 5, 3) := by decide +kernel
theorem d_LM_isBroken_27 : decode b_LM_isBroken 27 = .ok (.iconst 1, 1) := by decide +kernel
theorem d_LM_isBroken_28 : decode b_LM_isBroken 28 = .ok (.ireturn, 1) := by decide +kernel
theorem d_LM_isBroken_29 : decode b_LM_isBroken 29 = .ok (.iinc 2 1, 3) := by decide +kernel
theorem d_LM_isBroken_32 : decode b_LM_isBroken 32 = .ok (.goto (-30), 3) := by decide +kernel
theorem d_LM_isBroken_35 : decode b_LM_isBroken 35 = .ok (.iconst 0, 1) := by decide +kernel
theorem d_LM_isBroken_36 : decode b_LM_isBroken 36 = .ok (.ireturn, 1) := by decide +kernel
def f_LM_isBroken_L2 (w : Mp) (h0 : Nat) (x1 : Int32) : Nat → Int32 → Option (Nat × Int32)
  | 0, _ => none
  | n + 1, x2 => if x1 ≤ x2 then (some (0, x2)) else ((gR w (some h0) 0 5).bind fun v_1 => (aR w v_1 1 x2).bind fun v_2 => (gR w (some h0) 0 5).bind fun v_3 => (aR w v_3 1 (x2 - (1 : Int32))).bind fun v_4 => (xo w v_2 1).bind fun b_6 => (f_Leaf_follows w b_6 v_4).bind fun q_5 => if q_5 = 0 then (some (1, x2)) else (f_LM_isBroken_L2 w h0 x1 n (x2 + 1)))
set_option maxHeartbeats 4000000 in
set_option maxRecDepth 100000 in
theorem w_LM_isBroken_L2 {p : Program} {l : Launch} {e : Env} {R : Room} {s : State} {m : MethodId} {args : Array Value} {below : List Frame} {meth : Method} {c : Code} {Q : State → Prop} {cells slots sz : Nat} {G : Gx} {h0 : Nat} {x1 : Int32} (C0 : CallFix p m c b_LM_isBroken 3 s args wA R_LM) (hE : xE G vwCl xaty s) (hR1 : 1 ≤ R.frames) (hR2 : 21 ≤ R.locals) (hR3 : cells ≤ R.cells) (hR4 : slots ≤ R.slots) {w : Mp} {H : Heap} {locs : List Loc} (hH : xhd G vwCl w H) (hS : xS G s H locs) (hz : H.size = sz) : ∀ (n : Nat) (x2 : Int32) (q : Nat × Int32) (ls : Array Slot), xL ls 3 [(0, .inr (.inl (some h0))), (1, .inl x1), (2, .inl x2)] → f_LM_isBroken_L2 w h0 x1 n x2 = some q → ((q.1 = 0 → ∀ (ls : Array Slot), xL ls 3 [(0, .inr (.inl (some h0))), (1, .inl x1), (2, .inl q.2)] → W p l e R s m args below meth c H locs cells slots Q (F0 m 35 ls [])) ∧ (q.1 = 1 → ∀ (ls : Array Slot), xL ls 3 [(0, .inr (.inl (some h0))), (1, .inl x1), (2, .inl q.2)] → W p l e R s m args below meth c H locs cells slots Q (F0 m 27 ls []))) → W p l e R s m args below meth c H locs cells slots Q (F0 m 2 ls []) := by
  intro n
  induction n with
  | zero => intro _ q ls hl h; cases h
  | succ n ih =>
    intro x2 q ls hl h K
    rw [f_LM_isBroken_L2] at h
    refine x_iload_n C0 hl 2 d_LM_isBroken_2 rfl rfl ?_
    refine x_iload_n C0 hl 1 d_LM_isBroken_3 rfl rfl ?_
    refine x_icmp_ge C0 35 d_LM_isBroken_4 (by decide) h (fun h => ?_) (fun h => ?_)
    · cases h
      exact K.1 rfl ls (x_sub hl [0, 1, 2] rfl)
    · refine x_aload_n C0 hl 0 d_LM_isBroken_7 rfl rfl ?_
      refine x_getR C0 hE hH (ci := 0) rfl i_LM 5 (by decide) kw_1_80 d_LM_isBroken_8 h (fun v_1 h => ?_)
      refine x_iload_n C0 hl 2 d_LM_isBroken_11 rfl rfl ?_
      refine x_aald C0 hE hH (t := 1) rfl d_LM_isBroken_12 h (fun v_2 h => ?_)
      refine x_aload_n C0 hl 0 d_LM_isBroken_13 rfl rfl ?_
      refine x_getR C0 hE hH (ci := 0) rfl i_LM 5 (by decide) kw_1_80 d_LM_isBroken_14 h (fun v_3 h => ?_)
      refine x_iload_n C0 hl 2 d_LM_isBroken_17 rfl rfl ?_
      refine lv_iconst (v := 1) C0.1 C0.2.1 d_LM_isBroken_18 (by decide) ?_
      refine lv_isub C0.1 C0.2.1 d_LM_isBroken_19 ?_
      refine x_aald C0 hE hH (t := 1) rfl d_LM_isBroken_20 h (fun v_4 h => ?_)
      obtain ⟨b_6, e9, h⟩ := Option.bind_eq_some_iff.mp h
      obtain ⟨e8, fs9, hb9⟩ := xo_inv e9
      obtain ⟨q_5, e9, h⟩ := Option.bind_eq_some_iff.mp h
      refine x_callP (va_runV (As := [va_rf v_4]) (rest := []) C0 (c_Leaf_follows l G w _ b_6 v_4 q_5 e9) (x_cwV 1 C0 kw_2_88 kw_2_91 kw_1_9 kw_2_89 kw_2_90 (by decide +kernel) (x_rm hR1 hR2 (by decide) (by decide))) (x_preV hE hH hS (ci := 1) rfl hb9) rfl rfl hl.1 (by rw [e8]; rfl) (lv_room (by simp only [List.map_cons, List.map_nil, List.sum_cons, List.sum_nil, va_rf_cat, x_catI, x_catL, x_catA] <;> decide)) d_LM_isBroken_21 (x_le0 hR3 hR4)) ?_
      refine x_if_ne C0 29 d_LM_isBroken_24 (by decide) h (fun h => ?_) (fun h => ?_)
      · refine x_iinc (v := 1) (lv' := [(2, .inl (x2 + 1)), (0, .inr (.inl (some h0))), (1, .inl x1)]) C0 hl 2 d_LM_isBroken_29 rfl (by decide) (by decide) rfl (fun ls hl => ?_)
        refine x_goto C0 2 d_LM_isBroken_32 (by decide) ?_
        exact ih _ q ls (x_sub hl [1, 2, 0] rfl) h K
      · cases h
        exact K.2 rfl ls (x_sub hl [0, 1, 2] rfl)
def f_LM_isBroken (w : Mp) (h0 : Nat) (x1 : Int32) : Option (Int32) := (f_LM_isBroken_L2 w h0 x1 100000 (1 : Int32)).bind fun q_7 => if q_7.1 = 0 then (some (0 : Int32)) else (if q_7.1 = 1 then (some (1 : Int32)) else (none))
set_option maxHeartbeats 4000000 in
set_option maxRecDepth 100000 in
theorem c_LM_isBroken (l : Launch) (G : Gx) (w : Mp) (sz : Nat) (h0 : Nat) (x1 : Int32) (res : Int32) (hf : f_LM_isBroken w h0 x1 = some res) : Met l y_LM_isBroken (xws y_LM_isBroken b_LM_isBroken 3 (some .boolean)) { frames := 1, cells := 0, slots := 0, locals := 21 } (xPc G vwCl xaty w sz [va_rf (some h0), .int x1]) (qP (some (.int res))) 0 0 (fun _ => False) := by
  refine Met.ofW (cc := b_LM_isBroken) (maxL := 3) (ret := (some .boolean)) (by decide) rfl ?_
  intro p e s m args below meth c s₁ B hml hv
  obtain ⟨ha, hE, hH, hz⟩ := hv
  have C0 : CallFix p m c b_LM_isBroken 3 s args wA R_LM := ⟨B.exec, B.bytes, hml, findClass_of_methodNamed B.named, fun w hw => atoms_spec (ws := xws y_LM_isBroken b_LM_isBroken 3 (some .boolean)) B.pre w (List.mem_cons_of_mem _ hw)⟩
  have hr := B.returns
  have hlocks := B.notSynchronized
  obtain ⟨R, hR⟩ : ∃ R, R = (headSpec (xws y_LM_isBroken b_LM_isBroken 3 (some .boolean)) { frames := 1, cells := 0, slots := 0, locals := 21 }).room := ⟨_, rfl⟩
  have hR1 : 1 ≤ R.frames := by rw [hR]; exact Nat.le_of_ble_eq_true rfl
  have hR2 : 21 ≤ R.locals := by rw [hR]; exact Nat.le_of_ble_eq_true rfl
  have hR3 : 0 ≤ R.cells := Nat.zero_le _
  have hR4 : 0 ≤ R.slots := Nat.zero_le _
  rw [← hR]
  obtain ⟨Q, hQ⟩ : ∃ Q, Q = MQ below (qP (some (.int res))) args s 0 0 (fun _ => False) := ⟨_, rfl⟩
  rw [← hQ]
  have hS : xS G s s.heap [] := va_S.rf
  obtain ⟨ls, he, hl⟩ := x_entry m [.inr (.inl (some h0)), .inl x1] 3 (Nat.le_of_ble_eq_true rfl)
  rw [show entryFrame m args 3 = F0 m 0 ls [] by rw [ha]; exact he]
  have hl : xL ls 3 [(0, .inr (.inl (some h0))), (1, .inl x1)] := hl
  have h := hf
  unfold f_LM_isBroken at h
  suffices hmain : ∀ (H : Heap) (locs : List Loc), xhd G vwCl w H → xS G s H locs → H.size = sz → (H = s.heap ∧ locs = []) → W p l e R s m args below meth c H locs 0 0 Q (F0 m 0 ls []) from hmain _ _ hH hS hz ⟨rfl, rfl⟩
  clear hH hS hz
  intro H locs hH hS hz hP0
  refine lv_iconst (v := 1) C0.1 C0.2.1 d_LM_isBroken_0 (by decide) ?_
  refine x_istore_n (lv' := [(2, .inl (1 : Int32)), (0, .inr (.inl (some h0))), (1, .inl x1)]) C0 hl d_LM_isBroken_1 rfl (by decide) rfl (fun ls hl => ?_)
  obtain ⟨q_7, e9, h⟩ := Option.bind_eq_some_iff.mp h
  refine w_LM_isBroken_L2 C0 hE hR1 hR2 hR3 hR4 hH hS hz 100000 _ q_7 ls (x_sub hl [1, 2, 0] rfl) e9 ⟨fun z9 ls hl => ?_, fun z9 ls hl => ?_⟩
  · rw [if_pos z9] at h
    refine lv_iconst (v := 0) C0.1 C0.2.1 d_LM_isBroken_35 (by decide) ?_
    cases h
    rw [hQ]
    exact x_zretP C0 hr hlocks hP0 rfl d_LM_isBroken_36
  · rw [if_neg (by rw [z9]; decide), if_pos z9] at h
    refine lv_iconst (v := 1) C0.1 C0.2.1 d_LM_isBroken_27 (by decide) ?_
    cases h
    rw [hQ]
    exact x_zretP C0 hr hlocks hP0 rfl d_LM_isBroken_28
end
section
theorem kw_1_11 : (Jvm.Cond.initialized "LeafMatches$Face") ∈ wA := ku_1 11 rfl rfl
theorem kw_1_12 : (Jvm.Cond.initialized "LeafMatches$Piece") ∈ wA := ku_1 12 rfl rfl
theorem kw_1_13 : (Jvm.Cond.initialized "java/lang/Math") ∈ wA := ku_1 13 rfl rfl
theorem kw_1_218 : (Jvm.Cond.fieldLink "LeafMatches$Face" (58 : Nat) "LeafMatches$Leaf" "width" "I") ∈ wA := ku_1 218 rfl rfl
theorem kw_1_222 : (Jvm.Cond.fieldLink "LeafMatches$Face" (55 : Nat) "LeafMatches$Leaf" "height" "I") ∈ wA := ku_1 222 rfl rfl
theorem kw_2_105 : (Jvm.Cond.fieldLink "LeafMatches$Face" (24 : Nat) "LeafMatches$Piece" "leaf" "LLeafMatches$Leaf;") ∈ wA := ku_2 105 rfl rfl
theorem kw_2_112 : (Jvm.Cond.fieldLink "LeafMatches$Face" (42 : Nat) "LeafMatches$Piece" "begin" "I") ∈ wA := ku_2 112 rfl rfl
theorem kw_2_115 : (Jvm.Cond.fieldLink "LeafMatches$Face" (48 : Nat) "LeafMatches$Piece" "top" "I") ∈ wA := ku_2 115 rfl rfl
theorem kw_2_128 : (Jvm.Cond.fieldLink "LeafMatches$Face" (9 : Nat) "LeafMatches$Face" "kind" "I") ∈ wA := ku_2 128 rfl rfl
theorem kw_2_130 : (Jvm.Cond.fieldLink "LeafMatches$Face" (17 : Nat) "LeafMatches$Face" "pieces" "[LLeafMatches$Piece;") ∈ wA := ku_2 130 rfl rfl
theorem kw_2_170 : (Jvm.Cond.methodLink "LeafMatches$Face" (38 : Nat) ({ cls := "LeafMatches$Piece", name := "end", desc := "()I" } : Jvm.MethodName)) ∈ wA := ku_2 170 rfl rfl
theorem kw_2_171 : (Jvm.Cond.instanceMethod ({ cls := "LeafMatches$Piece", name := "end", desc := "()I" } : Jvm.MethodName)) ∈ wA := ku_2 171 rfl rfl
theorem kw_2_172 : (Jvm.Cond.selects "LeafMatches$Piece" ({ cls := "LeafMatches$Piece", name := "end", desc := "()I" } : Jvm.MethodName) ({ cls := "LeafMatches$Piece", name := "end", desc := "()I" } : Jvm.MethodName)) ∈ wA := ku_2 172 rfl rfl
theorem kw_2_173 : (Jvm.Cond.code ({ cls := "LeafMatches$Piece", name := "end", desc := "()I" } : Jvm.MethodName) prog_4_method_2_code (1 : Nat) (Option.some Jvm.ClassFile.FieldType.int)) ∈ wA := ku_2 173 rfl rfl
theorem kw_2_174 : (Jvm.Cond.methodLink "LeafMatches$Face" (45 : Nat) ({ cls := "LeafMatches$Piece", name := "bottom", desc := "()I" } : Jvm.MethodName)) ∈ wA := ku_2 174 rfl rfl
theorem kw_2_175 : (Jvm.Cond.instanceMethod ({ cls := "LeafMatches$Piece", name := "bottom", desc := "()I" } : Jvm.MethodName)) ∈ wA := ku_2 175 rfl rfl
theorem kw_2_176 : (Jvm.Cond.selects "LeafMatches$Piece" ({ cls := "LeafMatches$Piece", name := "bottom", desc := "()I" } : Jvm.MethodName) ({ cls := "LeafMatches$Piece", name := "bottom", desc := "()I" } : Jvm.MethodName)) ∈ wA := ku_2 176 rfl rfl
theorem kw_2_177 : (Jvm.Cond.code ({ cls := "LeafMatches$Piece", name := "bottom", desc := "()I" } : Jvm.MethodName) prog_4_method_3_code (1 : Nat) (Option.some Jvm.ClassFile.FieldType.int)) ∈ wA := ku_2 177 rfl rfl
theorem kw_2_184 : (Jvm.Cond.methodLink "LeafMatches$Face" (74 : Nat) ({ cls := "LeafMatches$Face", name := "differenceAt", desc := "(II)I" } : Jvm.MethodName)) ∈ wA := ku_2 184 rfl rfl
theorem kw_2_185 : (Jvm.Cond.instanceMethod ({ cls := "LeafMatches$Face", name := "differenceAt", desc := "(II)I" } : Jvm.MethodName)) ∈ wA := ku_2 185 rfl rfl
theorem kw_2_186 : (Jvm.Cond.selects "LeafMatches$Face" ({ cls := "LeafMatches$Face", name := "differenceAt", desc := "(II)I" } : Jvm.MethodName) ({ cls := "LeafMatches$Face", name := "differenceAt", desc := "(II)I" } : Jvm.MethodName)) ∈ wA := ku_2 186 rfl rfl
theorem kw_2_187 : (Jvm.Cond.code ({ cls := "LeafMatches$Face", name := "differenceAt", desc := "(II)I" } : Jvm.MethodName) prog_2_method_6_code (10 : Nat) (Option.some Jvm.ClassFile.FieldType.int)) ∈ wA := ku_2 187 rfl rfl
theorem kw_2_188 : (Jvm.Cond.methodLink "LeafMatches$Face" (61 : Nat) ({ cls := "LeafMatches$Piece", name := "greyShown", desc := "(II)I" } : Jvm.MethodName)) ∈ wA := ku_2 188 rfl rfl
theorem kw_2_189 : (Jvm.Cond.instanceMethod ({ cls := "LeafMatches$Piece", name := "greyShown", desc := "(II)I" } : Jvm.MethodName)) ∈ wA := ku_2 189 rfl rfl
theorem kw_2_190 : (Jvm.Cond.selects "LeafMatches$Piece" ({ cls := "LeafMatches$Piece", name := "greyShown", desc := "(II)I" } : Jvm.MethodName) ({ cls := "LeafMatches$Piece", name := "greyShown", desc := "(II)I" } : Jvm.MethodName)) ∈ wA := ku_2 190 rfl rfl
theorem kw_2_191 : (Jvm.Cond.code ({ cls := "LeafMatches$Piece", name := "greyShown", desc := "(II)I" } : Jvm.MethodName) prog_4_method_4_code (5 : Nat) (Option.some Jvm.ClassFile.FieldType.int)) ∈ wA := ku_2 191 rfl rfl
theorem kw_2_197 : (Jvm.Cond.methodLink "LeafMatches$Face" (65 : Nat) ({ cls := "java/lang/Math", name := "abs", desc := "(I)I" } : Jvm.MethodName)) ∈ wA := ku_2 197 rfl rfl
theorem kw_2_198 : (Jvm.Cond.static ({ cls := "java/lang/Math", name := "abs", desc := "(I)I" } : Jvm.MethodName)) ∈ wA := ku_2 198 rfl rfl
theorem kw_2_199 : (Jvm.Cond.code ({ cls := "java/lang/Math", name := "abs", desc := "(I)I" } : Jvm.MethodName) prog_15_method_59_code (1 : Nat) (Option.some Jvm.ClassFile.FieldType.int)) ∈ wA := ku_2 199 rfl rfl
theorem kw_2_212 : (Jvm.Cond.methodLink "LeafMatches$Face" (83 : Nat) ({ cls := "LeafMatches$Face", name := "leastTop", desc := "()I" } : Jvm.MethodName)) ∈ wA := ku_2 212 rfl rfl
theorem kw_2_213 : (Jvm.Cond.instanceMethod ({ cls := "LeafMatches$Face", name := "leastTop", desc := "()I" } : Jvm.MethodName)) ∈ wA := ku_2 213 rfl rfl
theorem kw_2_214 : (Jvm.Cond.selects "LeafMatches$Face" ({ cls := "LeafMatches$Face", name := "leastTop", desc := "()I" } : Jvm.MethodName) ({ cls := "LeafMatches$Face", name := "leastTop", desc := "()I" } : Jvm.MethodName)) ∈ wA := ku_2 214 rfl rfl
theorem kw_2_215 : (Jvm.Cond.code ({ cls := "LeafMatches$Face", name := "leastTop", desc := "()I" } : Jvm.MethodName) prog_2_method_9_code (6 : Nat) (Option.some Jvm.ClassFile.FieldType.int)) ∈ wA := ku_2 215 rfl rfl
theorem kw_2_216 : (Jvm.Cond.methodLink "LeafMatches$Face" (80 : Nat) ({ cls := "java/lang/Math", name := "min", desc := "(II)I" } : Jvm.MethodName)) ∈ wA := ku_2 216 rfl rfl
theorem kw_2_217 : (Jvm.Cond.static ({ cls := "java/lang/Math", name := "min", desc := "(II)I" } : Jvm.MethodName)) ∈ wA := ku_2 217 rfl rfl
theorem kw_2_218 : (Jvm.Cond.code ({ cls := "java/lang/Math", name := "min", desc := "(II)I" } : Jvm.MethodName) prog_15_method_69_code (2 : Nat) (Option.some Jvm.ClassFile.FieldType.int)) ∈ wA := ku_2 218 rfl rfl
theorem kw_2_227 : (Jvm.Cond.instanceMethod ({ cls := "LeafMatches$Face", name := "sizeAcross", desc := "()I" } : Jvm.MethodName)) ∈ wA := ku_2 227 rfl rfl
theorem kw_2_228 : (Jvm.Cond.selects "LeafMatches$Face" ({ cls := "LeafMatches$Face", name := "sizeAcross", desc := "()I" } : Jvm.MethodName) ({ cls := "LeafMatches$Face", name := "sizeAcross", desc := "()I" } : Jvm.MethodName)) ∈ wA := ku_2 228 rfl rfl
theorem kw_2_229 : (Jvm.Cond.code ({ cls := "LeafMatches$Face", name := "sizeAcross", desc := "()I" } : Jvm.MethodName) prog_2_method_8_code (6 : Nat) (Option.some Jvm.ClassFile.FieldType.int)) ∈ wA := ku_2 229 rfl rfl
theorem kw_2_230 : (Jvm.Cond.methodLink "LeafMatches$Face" (77 : Nat) ({ cls := "java/lang/Math", name := "max", desc := "(II)I" } : Jvm.MethodName)) ∈ wA := ku_2 230 rfl rfl
theorem kw_2_231 : (Jvm.Cond.static ({ cls := "java/lang/Math", name := "max", desc := "(II)I" } : Jvm.MethodName)) ∈ wA := ku_2 231 rfl rfl
theorem kw_2_232 : (Jvm.Cond.code ({ cls := "java/lang/Math", name := "max", desc := "(II)I" } : Jvm.MethodName) prog_15_method_65_code (2 : Nat) (Option.some Jvm.ClassFile.FieldType.int)) ∈ wA := ku_2 232 rfl rfl
theorem kw_3_39 : (Jvm.Cond.methodLink "LeafMatches$Face" (86 : Nat) ({ cls := "LeafMatches$Face", name := "sizeAcross", desc := "()I" } : Jvm.MethodName)) ∈ wA := ku_3 39 rfl rfl
theorem d_Face_hasPiece_0 : decode b_Face_hasPiece 0 = .ok (.iload_n 1, 1) := by decide +kernel
theorem d_Face_hasPiece_1 : decode b_Face_hasPiece 1 = .ok (.iconst 0, 1) := by decide +kernel
theorem d_Face_hasPiece_2 : decode b_Face_hasPiece 2 = .ok (.aload_n 0, 1) := by decide +kernel
theorem d_Face_hasPiece_3 : decode b_Face_hasPiece 3 = .ok (.getfield 17, 3) := by decide +kernel
theorem d_Face_hasPiece_6 : decode b_Face_hasPiece 6 = .ok (.arraylength, 1) := by decide +kernel
theorem d_Face_hasPiece_7 : decode b_Face_hasPiece 7 = .ok (.iconst 1, 1) := by decide +kernel
theorem d_Face_hasPiece_8 : decode b_Face_hasPiece 8 = .ok (.isub, 1) := by decide +kernel
theorem d_Face_hasPiece_9 : decode b_Face_hasPiece 9 = .ok (.invokestatic 34, 3) := by decide +kernel
theorem d_Face_hasPiece_12 : decode b_Face_hasPiece 12 = .ok (.ireturn, 1) := by decide +kernel
def f_Face_hasPiece (w : Mp) (h0 : Nat) (x1 : Int32) : Option (Int32) := (gR w (some h0) 3 1).bind fun v_1 => (aL w v_1 3).bind fun v_2 => (f_LM_isWithin w x1 (0 : Int32) (v_2 - (1 : Int32))).bind fun q_3 => if vp_nar .boolean q_3 = q_3 then some q_3 else none
set_option maxHeartbeats 4000000 in
set_option maxRecDepth 100000 in
theorem c_Face_hasPiece (l : Launch) (G : Gx) (w : Mp) (sz : Nat) (h0 : Nat) (x1 : Int32) (res : Int32) (hf : f_Face_hasPiece w h0 x1 = some res) : Met l y_Face_hasPiece (xws y_Face_hasPiece b_Face_hasPiece 2 (some .boolean)) { frames := 1, cells := 0, slots := 0, locals := 22 } (xPc G vwCl xaty w sz [va_rf (some h0), .int x1]) (qP (some (.int res))) 0 0 (fun _ => False) := by
  refine Met.ofW (cc := b_Face_hasPiece) (maxL := 2) (ret := (some .boolean)) (by decide) rfl ?_
  intro p e s m args below meth c s₁ B hml hv
  obtain ⟨ha, hE, hH, hz⟩ := hv
  have C0 : CallFix p m c b_Face_hasPiece 2 s args wA R_Face := ⟨B.exec, B.bytes, hml, findClass_of_methodNamed B.named, fun w hw => atoms_spec (ws := xws y_Face_hasPiece b_Face_hasPiece 2 (some .boolean)) B.pre w (List.mem_cons_of_mem _ hw)⟩
  have hr := B.returns
  have hlocks := B.notSynchronized
  obtain ⟨R, hR⟩ : ∃ R, R = (headSpec (xws y_Face_hasPiece b_Face_hasPiece 2 (some .boolean)) { frames := 1, cells := 0, slots := 0, locals := 22 }).room := ⟨_, rfl⟩
  have hR1 : 1 ≤ R.frames := by rw [hR]; exact Nat.le_of_ble_eq_true rfl
  have hR2 : 22 ≤ R.locals := by rw [hR]; exact Nat.le_of_ble_eq_true rfl
  have hR3 : 0 ≤ R.cells := Nat.zero_le _
  have hR4 : 0 ≤ R.slots := Nat.zero_le _
  rw [← hR]
  obtain ⟨Q, hQ⟩ : ∃ Q, Q = MQ below (qP (some (.int res))) args s 0 0 (fun _ => False) := ⟨_, rfl⟩
  rw [← hQ]
  have hS : xS G s s.heap [] := va_S.rf
  obtain ⟨ls, he, hl⟩ := x_entry m [.inr (.inl (some h0)), .inl x1] 2 (Nat.le_of_ble_eq_true rfl)
  rw [show entryFrame m args 2 = F0 m 0 ls [] by rw [ha]; exact he]
  have hl : xL ls 2 [(0, .inr (.inl (some h0))), (1, .inl x1)] := hl
  have h := hf
  unfold f_Face_hasPiece at h
  suffices hmain : ∀ (H : Heap) (locs : List Loc), xhd G vwCl w H → xS G s H locs → H.size = sz → (H = s.heap ∧ locs = []) → W p l e R s m args below meth c H locs 0 0 Q (F0 m 0 ls []) from hmain _ _ hH hS hz ⟨rfl, rfl⟩
  clear hH hS hz
  intro H locs hH hS hz hP0
  refine x_iload_n C0 hl 1 d_Face_hasPiece_0 rfl rfl ?_
  refine lv_iconst (v := 0) C0.1 C0.2.1 d_Face_hasPiece_1 (by decide) ?_
  refine x_aload_n C0 hl 0 d_Face_hasPiece_2 rfl rfl ?_
  refine x_getR C0 hE hH (ci := 3) rfl i_Face 1 (by decide) kw_2_130 d_Face_hasPiece_3 h (fun v_1 h => ?_)
  refine x_alen C0 hE hH (t := 3) rfl d_Face_hasPiece_6 h (fun v_2 h => ?_)
  refine lv_iconst (v := 1) C0.1 C0.2.1 d_Face_hasPiece_7 (by decide) ?_
  refine lv_isub C0.1 C0.2.1 d_Face_hasPiece_8 ?_
  obtain ⟨q_3, e9, h⟩ := Option.bind_eq_some_iff.mp h
  refine x_callP (va_runSN (As := [.int x1, .int (0 : Int32), .int (v_2 - (1 : Int32))]) (rest := []) C0 (c_LM_isWithin l G w _ x1 (0 : Int32) (v_2 - (1 : Int32)) q_3 e9) (x_cnS (host := "LeafMatches") 3 C0 (hE.2.2.1 _ (List.mem_of_getElem? (i := 9) rfl)) kw_1_186 kw_1_1 kw_1_185 (by decide +kernel) (x_rm hR1 hR2 (by decide) (by decide))) (x_preS hE hH hS) rfl rfl hl.1 rfl (lv_room (by simp only [List.map_cons, List.map_nil, List.sum_cons, List.sum_nil, va_rf_cat, x_catI, x_catL, x_catA] <;> decide)) d_Face_hasPiece_9 (x_le0 hR3 hR4)) ?_
  obtain ⟨hn9, h⟩ := x_ifs h
  cases h
  rw [hQ]
  exact x_zretP C0 hr hlocks hP0 (x_nar (fun _ => ⟨_, rfl⟩) hn9) d_Face_hasPiece_12
theorem d_Face_hasSeam_0 : decode b_Face_hasSeam 0 = .ok (.aload_n 0, 1) := by decide +kernel
theorem d_Face_hasSeam_1 : decode b_Face_hasSeam 1 = .ok (.getfield 9, 3) := by decide +kernel
theorem d_Face_hasSeam_4 : decode b_Face_hasSeam 4 = .ok (.iconst 3, 1) := by decide +kernel
theorem d_Face_hasSeam_5 : decode b_Face_hasSeam 5 = .ok (.if_icmp .ne 7, 3) := by decide +kernel
theorem d_Face_hasSeam_8 : decode b_Face_hasSeam 8 = .ok (.iconst 2, 1) := by decide +kernel
theorem d_Face_hasSeam_9 : decode b_Face_hasSeam 9 = .ok (.goto 10, 3) := by decide +kernel
theorem d_Face_hasSeam_12 : decode b_Face_hasSeam 12 = .ok (.aload_n 0, 1) := by decide +kernel
theorem d_Face_hasSeam_13 : decode b_Face_hasSeam 13 = .ok (.getfield 17, 3) := by decide +kernel
theorem d_Face_hasSeam_16 : decode b_Face_hasSeam 16 = .ok (.arraylength, 1) := by decide +kernel
theorem d_Face_hasSeam_17 : decode b_Face_hasSeam 17 = .ok (.iconst 1, 1) := by decide +kernel
theorem d_Face_hasSeam_18 : decode b_Face_hasSeam 18 = .ok (.isub, 1) := by decide +kernel
theorem d_Face_hasSeam_19 : decode b_Face_hasSeam 19 = .ok (.istore_n 2, 1) := by decide +kernel
theorem d_Face_hasSeam_20 : decode b_Face_hasSeam 20 = .ok (.iload_n 1, 1) := by decide +kernel
theorem d_Face_hasSeam_21 : decode b_Face_hasSeam 21 = .ok (.iconst 0, 1) := by decide +kernel
theorem d_Face_hasSeam_22 : decode b_Face_hasSeam 22 = .ok (.iload_n 2, 1) := by decide +kernel
theorem d_Face_hasSeam_23 : decode b_Face_hasSeam 23 = .ok (.iconst 1, 1) := by decide +kernel
theorem d_Face_hasSeam_24 : decode b_Face_hasSeam 24 = .ok (.isub, 1) := by decide +kernel
theorem d_Face_hasSeam_25 : decode b_Face_hasSeam 25 = .ok (.invokestatic 34, 3) := by decide +kernel
theorem d_Face_hasSeam_28 : decode b_Face_hasSeam 28 = .ok (.ireturn, 1) := by decide +kernel
def f_Face_hasSeam (w : Mp) (h0 : Nat) (x1 : Int32) : Option (Int32) := (gI w (some h0) 3 0).bind fun v_1 => xJ1 (fun (x_2 : Int32) => (f_LM_isWithin w x1 (0 : Int32) (x_2 - (1 : Int32))).bind fun q_4 => if vp_nar .boolean q_4 = q_4 then some q_4 else none) fun J_3 => if v_1 = (3 : Int32) then (J_3 (2 : Int32)) else ((gR w (some h0) 3 1).bind fun v_5 => (aL w v_5 3).bind fun v_6 => J_3 (v_6 - (1 : Int32)))
set_option maxHeartbeats 4000000 in
set_option maxRecDepth 100000 in
theorem c_Face_hasSeam (l : Launch) (G : Gx) (w : Mp) (sz : Nat) (h0 : Nat) (x1 : Int32) (res : Int32) (hf : f_Face_hasSeam w h0 x1 = some res) : Met l y_Face_hasSeam (xws y_Face_hasSeam b_Face_hasSeam 3 (some .boolean)) { frames := 1, cells := 0, slots := 0, locals := 22 } (xPc G vwCl xaty w sz [va_rf (some h0), .int x1]) (qP (some (.int res))) 0 0 (fun _ => False) := by
  refine Met.ofW (cc := b_Face_hasSeam) (maxL := 3) (ret := (some .boolean)) (by decide) rfl ?_
  intro p e s m args below meth c s₁ B hml hv
  obtain ⟨ha, hE, hH, hz⟩ := hv
  have C0 : CallFix p m c b_Face_hasSeam 3 s args wA R_Face := ⟨B.exec, B.bytes, hml, findClass_of_methodNamed B.named, fun w hw => atoms_spec (ws := xws y_Face_hasSeam b_Face_hasSeam 3 (some .boolean)) B.pre w (List.mem_cons_of_mem _ hw)⟩
  have hr := B.returns
  have hlocks := B.notSynchronized
  obtain ⟨R, hR⟩ : ∃ R, R = (headSpec (xws y_Face_hasSeam b_Face_hasSeam 3 (some .boolean)) { frames := 1, cells := 0, slots := 0, locals := 22 }).room := ⟨_, rfl⟩
  have hR1 : 1 ≤ R.frames := by rw [hR]; exact Nat.le_of_ble_eq_true rfl
  have hR2 : 22 ≤ R.locals := by rw [hR]; exact Nat.le_of_ble_eq_true rfl
  have hR3 : 0 ≤ R.cells := Nat.zero_le _
  have hR4 : 0 ≤ R.slots := Nat.zero_le _
  rw [← hR]
  obtain ⟨Q, hQ⟩ : ∃ Q, Q = MQ below (qP (some (.int res))) args s 0 0 (fun _ => False) := ⟨_, rfl⟩
  rw [← hQ]
  have hS : xS G s s.heap [] := va_S.rf
  obtain ⟨ls, he, hl⟩ := x_entry m [.inr (.inl (some h0)), .inl x1] 3 (Nat.le_of_ble_eq_true rfl)
  rw [show entryFrame m args 3 = F0 m 0 ls [] by rw [ha]; exact he]
  have hl : xL ls 3 [(0, .inr (.inl (some h0))), (1, .inl x1)] := hl
  have h := hf
  unfold f_Face_hasSeam at h
  suffices hmain : ∀ (H : Heap) (locs : List Loc), xhd G vwCl w H → xS G s H locs → H.size = sz → (H = s.heap ∧ locs = []) → W p l e R s m args below meth c H locs 0 0 Q (F0 m 0 ls []) from hmain _ _ hH hS hz ⟨rfl, rfl⟩
  clear hH hS hz
  intro H locs hH hS hz hP0
  refine x_aload_n C0 hl 0 d_Face_hasSeam_0 rfl rfl ?_
  refine x_getI C0 hE hH (ci := 3) rfl i_Face 0 (by decide) kw_2_128 d_Face_hasSeam_1 h (fun v_1 h => ?_)
  refine lv_iconst (v := 3) C0.1 C0.2.1 d_Face_hasSeam_4 (by decide) ?_
  refine xj1 h (fun J_3 eJ_3 h => ?_)
  have kJ_3 : ∀ (x_2 : Int32) (ls : Array Slot), xL ls 3 [(1, .inl x1)] → J_3 x_2 = some res → W p l e R s m args below meth c H locs 0 0 Q (F0 m 19 ls [.int x_2]) := by
    intro x_2 ls hl h
    rw [eJ_3] at h
    refine x_istore_n (lv' := [(2, .inl x_2), (1, .inl x1)]) C0 hl d_Face_hasSeam_19 rfl (by decide) rfl (fun ls hl => ?_)
    refine x_iload_n C0 hl 1 d_Face_hasSeam_20 rfl rfl ?_
    refine lv_iconst (v := 0) C0.1 C0.2.1 d_Face_hasSeam_21 (by decide) ?_
    refine x_iload_n C0 hl 0 d_Face_hasSeam_22 rfl rfl ?_
    refine lv_iconst (v := 1) C0.1 C0.2.1 d_Face_hasSeam_23 (by decide) ?_
    refine lv_isub C0.1 C0.2.1 d_Face_hasSeam_24 ?_
    obtain ⟨q_4, e9, h⟩ := Option.bind_eq_some_iff.mp h
    refine x_callP (va_runSN (As := [.int x1, .int (0 : Int32), .int (x_2 - (1 : Int32))]) (rest := []) C0 (c_LM_isWithin l G w _ x1 (0 : Int32) (x_2 - (1 : Int32)) q_4 e9) (x_cnS (host := "LeafMatches") 3 C0 (hE.2.2.1 _ (List.mem_of_getElem? (i := 9) rfl)) kw_1_186 kw_1_1 kw_1_185 (by decide +kernel) (x_rm hR1 hR2 (by decide) (by decide))) (x_preS hE hH hS) rfl rfl hl.1 rfl (lv_room (by simp only [List.map_cons, List.map_nil, List.sum_cons, List.sum_nil, va_rf_cat, x_catI, x_catL, x_catA] <;> decide)) d_Face_hasSeam_25 (x_le0 hR3 hR4)) ?_
    obtain ⟨hn9, h⟩ := x_ifs h
    cases h
    rw [hQ]
    exact x_zretP C0 hr hlocks hP0 (x_nar (fun _ => ⟨_, rfl⟩) hn9) d_Face_hasSeam_28
  refine x_icmp_ne C0 12 d_Face_hasSeam_5 (by decide) h (fun h => ?_) (fun h => ?_)
  · refine x_aload_n C0 hl 0 d_Face_hasSeam_12 rfl rfl ?_
    refine x_getR C0 hE hH (ci := 3) rfl i_Face 1 (by decide) kw_2_130 d_Face_hasSeam_13 h (fun v_5 h => ?_)
    refine x_alen C0 hE hH (t := 3) rfl d_Face_hasSeam_16 h (fun v_6 h => ?_)
    refine lv_iconst (v := 1) C0.1 C0.2.1 d_Face_hasSeam_17 (by decide) ?_
    refine lv_isub C0.1 C0.2.1 d_Face_hasSeam_18 ?_
    exact kJ_3 _ ls (x_sub hl [1] rfl) h
  · refine lv_iconst (v := 2) C0.1 C0.2.1 d_Face_hasSeam_8 (by decide) ?_
    refine x_goto C0 19 d_Face_hasSeam_9 (by decide) ?_
    exact kJ_3 _ ls (x_sub hl [1] rfl) h
theorem d_Face_differenceAt_0 : decode b_Face_differenceAt 0 = .ok (.aload_n 0, 1) := by decide +kernel
theorem d_Face_differenceAt_1 : decode b_Face_differenceAt 1 = .ok (.getfield 9, 3) := by decide +kernel
theorem d_Face_differenceAt_4 : decode b_Face_differenceAt 4 = .ok (.iconst 3, 1) := by decide +kernel
theorem d_Face_differenceAt_5 : decode b_Face_differenceAt 5 = .ok (.if_icmp .ne 9, 3) := by decide +kernel
theorem d_Face_differenceAt_8 : decode b_Face_differenceAt 8 = .ok (.iconst 2, 1) := by decide +kernel
theorem d_Face_differenceAt_9 : decode b_Face_differenceAt 9 = .ok (.iload_n 1, 1) := by decide +kernel
theorem d_Face_differenceAt_10 : decode b_Face_differenceAt 10 = .ok (.imul, 1) := by decide +kernel
theorem d_Face_differenceAt_11 : decode b_Face_differenceAt 11 = .ok (.goto 4, 3) := by decide +kernel
theorem d_Face_differenceAt_14 : decode b_Face_differenceAt 14 = .ok (.iload_n 1, 1) := by decide +kernel
theorem d_Face_differenceAt_15 : decode b_Face_differenceAt 15 = .ok (.istore_n 3, 1) := by decide +kernel
theorem d_Face_differenceAt_16 : decode b_Face_differenceAt 16 = .ok (.aload_n 0, 1) := by decide +kernel
theorem d_Face_differenceAt_17 : decode b_Face_differenceAt 17 = .ok (.getfield 17, 3) := by decide +kernel
theorem d_Face_differenceAt_20 : decode b_Face_differenceAt 20 = .ok (.iload_n 3, 1) := by decide +kernel
theorem d_Face_differenceAt_21 : decode b_Face_differenceAt 21 = .ok (.aaload, 1) := by decide +kernel
theorem d_Face_differenceAt_22 : decode b_Face_differenceAt 22 = .ok (.astore 4, 2) := by decide +kernel
theorem d_Face_differenceAt_24 : decode b_Face_differenceAt 24 = .ok (.aload_n 0, 1) := by decide +kernel
theorem d_Face_differenceAt_25 : decode b_Face_differenceAt 25 = .ok (.getfield 17, 3) := by decide +kernel
theorem d_Face_differenceAt_28 : decode b_Face_differenceAt 28 = .ok (.iload_n 3, 1) := by decide +kernel
theorem d_Face_differenceAt_29 : decode b_Face_differenceAt 29 = .ok (.iconst 1, 1) := by decide +kernel
theorem d_Face_differenceAt_30 : decode b_Face_differenceAt 30 = .ok (.iadd, 1) := by decide +kernel
theorem d_Face_differenceAt_31 : decode b_Face_differenceAt 31 = .ok (.aaload, 1) := by decide +kernel
theorem d_Face_differenceAt_32 : decode b_Face_differenceAt 32 = .ok (.astore 5, 2) := by decide +kernel
theorem d_Face_differenceAt_34 : decode b_Face_differenceAt 34 = .ok (.iconst 0, 1) := by decide +kernel
theorem d_Face_differenceAt_35 : decode b_Face_differenceAt 35 = .ok (.istore 6, 2) := by decide +kernel
theorem d_Face_differenceAt_37 : decode b_Face_differenceAt 37 = .ok (.iconst 0, 1) := by decide +kernel
theorem d_Face_differenceAt_38 : decode b_Face_differenceAt 38 = .ok (.istore 7, 2) := by decide +kernel
theorem d_Face_differenceAt_40 : decode b_Face_differenceAt 40 = .ok (.iload 7, 2) := by decide +kernel
theorem d_Face_differenceAt_42 : decode b_Face_differenceAt 42 = .ok (.aload 4, 2) := by decide +kernel
theorem d_Face_differenceAt_44 : decode b_Face_differenceAt 44 = .ok (.getfield 24, 3) := by decide +kernel
theorem d_Face_differenceAt_47 : decode b_Face_differenceAt 47 = .ok (.getfield 55, 3) := by decide +kernel
theorem d_Face_differenceAt_50 : decode b_Face_differenceAt 50 = .ok (.if_icmp .ge 65, 3) := by decide +kernel
theorem d_Face_differenceAt_53 : decode b_Face_differenceAt 53 = .ok (.aload 4, 2) := by decide +kernel
theorem d_Face_differenceAt_55 : decode b_Face_differenceAt 55 = .ok (.aload 4, 2) := by decide +kernel
theorem d_Face_differenceAt_57 : decode b_Face_differenceAt 57 = .ok (.getfield 24, 3) := by decide +kernel
theorem d_Face_differenceAt_60 : decode b_Face_differenceAt 60 = .ok (.getfield 58, 3) := by decide +kernel
theorem d_Face_differenceAt_63 : decode b_Face_differenceAt 63 = .ok (.iconst 1, 1) := by decide +kernel
theorem d_Face_differenceAt_64 : decode b_Face_differenceAt 64 = .ok (.isub, 1) := by decide +kernel
theorem d_Face_differenceAt_65 : decode b_Face_differenceAt 65 = .ok (.iload 7, 2) := by decide +kernel
theorem d_Face_differenceAt_67 : decode b_Face_differenceAt 67 = .ok (.invokevirtual 61, 3) := by decide +kernel
theorem d_Face_differenceAt_70 : decode b_Face_differenceAt 70 = .ok (.istore 8, 2) := by decide +kernel
theorem d_Face_differenceAt_72 : decode b_Face_differenceAt 72 = .ok (.aload 5, 2) := by decide +kernel
theorem d_Face_differenceAt_74 : decode b_Face_differenceAt 74 = .ok (.iconst 0, 1) := by decide +kernel
theorem d_Face_differenceAt_75 : decode b_Face_differenceAt 75 = .ok (.iload 7, 2) := by decide +kernel
theorem d_Face_differenceAt_77 : decode b_Face_differenceAt 77 = .ok (.iload_n 2, 1) := by decide +kernel
theorem d_Face_differenceAt_78 : decode b_Face_differenceAt 78 = .ok (.isub, 1) := by decide +kernel
theorem d_Face_differenceAt_79 : decode b_Face_differenceAt 79 = .ok (.invokevirtual 61, 3) := by decide +kernel
theorem d_Face_differenceAt_82 : decode b_Face_differenceAt 82 = .ok (.istore 9, 2) := by decide +kernel
theorem d_Face_differenceAt_84 : decode b_Face_differenceAt 84 = .ok (.iload 6, 2) := by decide +kernel
theorem d_Face_differenceAt_86 : decode b_Face_differenceAt 86 = .ok (.iload 9, 2) := by decide +kernel
theorem d_Face_differenceAt_88 : decode b_Face_differenceAt 88 = .ok (.iconst (-1), 1) := by decide +kernel
theorem d_Face_differenceAt_89 : decode b_Face_differenceAt 89 = .ok (.if_icmp .ne 9, 3) := by decide +kernel
theorem d_Face_differenceAt_92 : decode b_Face_differenceAt 92 = .ok (.sipush 255, 3) := by decide +kernel
theorem d_Face_differenceAt_95 : decode b_Face_differenceAt 95 = .ok (.goto 11, 3) := by decide +kernel
theorem d_Face_differenceAt_98 : decode b_Face_differenceAt 98 = .ok (.iload 8, 2) := by decide +kernel
theorem d_Face_differenceAt_100 : decode b_Face_differenceAt 100 = .ok (.iload 9, 2) := by decide +kernel
theorem d_Face_differenceAt_102 : decode b_Face_differenceAt 102 = .ok (.isub, 1) := by decide +kernel
theorem d_Face_differenceAt_103 : decode b_Face_differenceAt 103 = .ok (.invokestatic 65, 3) := by decide +kernel
theorem d_Face_differenceAt_106 : decode b_Face_differenceAt 106 = .ok (.iadd, 1) := by decide +kernel
theorem d_Face_differenceAt_107 : decode b_Face_differenceAt 107 = .ok (.istore 6, 2) := by decide +kernel
theorem d_Face_differenceAt_109 : decode b_Face_differenceAt 109 = .ok (.iinc 7 1, 3) := by decide +kernel
theorem d_Face_differenceAt_112 : decode b_Face_differenceAt 112 = .ok (.goto (-72), 3) := by decide +kernel
theorem d_Face_differenceAt_115 : decode b_Face_differenceAt 115 = .ok (.iload 6, 2) := by decide +kernel
theorem d_Face_differenceAt_117 : decode b_Face_differenceAt 117 = .ok (.ireturn, 1) := by decide +kernel
def f_Face_differenceAt_L40 (w : Mp) (x2 : Int32) (r4 : Option Nat) (r5 : Option Nat) : Nat → Int32 → Int32 → Option (Nat × Int32 × Int32)
  | 0, _, _ => none
  | n + 1, x6, x7 => (gR w r4 2 0).bind fun v_8 => (gI w v_8 1 4).bind fun v_9 => if v_9 ≤ x7 then (some (0, x6, x7)) else ((gR w r4 2 0).bind fun v_10 => (gI w v_10 1 3).bind fun v_11 => (xo w r4 2).bind fun b_13 => (f_Piece_greyShown w b_13 (v_11 - (1 : Int32)) x7).bind fun q_12 => (xo w r5 2).bind fun b_15 => (f_Piece_greyShown w b_15 (0 : Int32) (x7 - x2)).bind fun q_14 => if q_14 = (-1 : Int32) then (f_Face_differenceAt_L40 w x2 r4 r5 n (x6 + (255 : Int32)) (x7 + 1)) else (f_Face_differenceAt_L40 w x2 r4 r5 n (x6 + (if 0 ≤ (q_12 - q_14) then (q_12 - q_14) else 0 - (q_12 - q_14))) (x7 + 1)))
set_option maxHeartbeats 4000000 in
set_option maxRecDepth 100000 in
theorem w_Face_differenceAt_L40 {p : Program} {l : Launch} {e : Env} {R : Room} {s : State} {m : MethodId} {args : Array Value} {below : List Frame} {meth : Method} {c : Code} {Q : State → Prop} {cells slots sz : Nat} {G : Gx} {x2 : Int32} {r4 : Option Nat} {r5 : Option Nat} (C0 : CallFix p m c b_Face_differenceAt 10 s args wA R_Face) (hE : xE G vwCl xaty s) (hR1 : 3 ≤ R.frames) (hR2 : 68 ≤ R.locals) (hR3 : cells ≤ R.cells) (hR4 : slots ≤ R.slots) {w : Mp} {H : Heap} {locs : List Loc} (hH : xhd G vwCl w H) (hS : xS G s H locs) (hz : H.size = sz) : ∀ (n : Nat) (x6 : Int32) (x7 : Int32) (q : Nat × Int32 × Int32) (ls : Array Slot), xL ls 10 [(2, .inl x2), (4, .inr (.inl r4)), (5, .inr (.inl r5)), (6, .inl x6), (7, .inl x7)] → f_Face_differenceAt_L40 w x2 r4 r5 n x6 x7 = some q → (∀ (ls : Array Slot), xL ls 10 [(2, .inl x2), (4, .inr (.inl r4)), (5, .inr (.inl r5)), (6, .inl q.2.1), (7, .inl q.2.2)] → W p l e R s m args below meth c H locs cells slots Q (F0 m 115 ls [])) → W p l e R s m args below meth c H locs cells slots Q (F0 m 40 ls []) := by
  intro n
  induction n with
  | zero => intro _ _ q ls hl h; cases h
  | succ n ih =>
    intro x6 x7 q ls hl h K
    rw [f_Face_differenceAt_L40] at h
    refine x_iload C0 hl 4 d_Face_differenceAt_40 rfl ?_
    refine x_aload C0 hl 1 d_Face_differenceAt_42 rfl ?_
    refine x_getR C0 hE hH (ci := 2) rfl i_Piece 0 (by decide) kw_2_105 d_Face_differenceAt_44 h (fun v_8 h => ?_)
    refine x_getI C0 hE hH (ci := 1) rfl i_Leaf 4 (by decide) kw_1_222 d_Face_differenceAt_47 h (fun v_9 h => ?_)
    refine x_icmp_ge C0 115 d_Face_differenceAt_50 (by decide) h (fun h => ?_) (fun h => ?_)
    · cases h
      exact K ls (x_sub hl [0, 1, 2, 3, 4] rfl)
    · refine x_aload C0 hl 1 d_Face_differenceAt_53 rfl ?_
      refine x_aload C0 hl 1 d_Face_differenceAt_55 rfl ?_
      refine x_getR C0 hE hH (ci := 2) rfl i_Piece 0 (by decide) kw_2_105 d_Face_differenceAt_57 h (fun v_10 h => ?_)
      refine x_getI C0 hE hH (ci := 1) rfl i_Leaf 3 (by decide) kw_1_218 d_Face_differenceAt_60 h (fun v_11 h => ?_)
      refine lv_iconst (v := 1) C0.1 C0.2.1 d_Face_differenceAt_63 (by decide) ?_
      refine lv_isub C0.1 C0.2.1 d_Face_differenceAt_64 ?_
      refine x_iload C0 hl 4 d_Face_differenceAt_65 rfl ?_
      obtain ⟨b_13, e9, h⟩ := Option.bind_eq_some_iff.mp h
      obtain ⟨e8, fs9, hb9⟩ := xo_inv e9
      obtain ⟨q_12, e9, h⟩ := Option.bind_eq_some_iff.mp h
      refine x_callP (va_runV (As := [.int (v_11 - (1 : Int32)), .int x7]) (rest := []) C0 (c_Piece_greyShown l G w _ b_13 (v_11 - (1 : Int32)) x7 q_12 e9) (x_cwV 2 C0 kw_2_188 kw_2_191 kw_1_12 kw_2_189 kw_2_190 (by decide +kernel) (x_rm hR1 hR2 (by decide) (by decide))) (x_preV hE hH hS (ci := 2) rfl hb9) rfl rfl hl.1 (by rw [e8]; rfl) (lv_room (by simp only [List.map_cons, List.map_nil, List.sum_cons, List.sum_nil, va_rf_cat, x_catI, x_catL, x_catA] <;> decide)) d_Face_differenceAt_67 (x_le0 hR3 hR4)) ?_
      refine x_istore (lv' := [(8, .inl q_12), (2, .inl x2), (4, .inr (.inl r4)), (5, .inr (.inl r5)), (6, .inl x6), (7, .inl x7)]) C0 hl d_Face_differenceAt_70 (by decide) rfl (fun ls hl => ?_)
      refine x_aload C0 hl 3 d_Face_differenceAt_72 rfl ?_
      refine lv_iconst (v := 0) C0.1 C0.2.1 d_Face_differenceAt_74 (by decide) ?_
      refine x_iload C0 hl 5 d_Face_differenceAt_75 rfl ?_
      refine x_iload_n C0 hl 1 d_Face_differenceAt_77 rfl rfl ?_
      refine lv_isub C0.1 C0.2.1 d_Face_differenceAt_78 ?_
      obtain ⟨b_15, e9, h⟩ := Option.bind_eq_some_iff.mp h
      obtain ⟨e8, fs9, hb9⟩ := xo_inv e9
      obtain ⟨q_14, e9, h⟩ := Option.bind_eq_some_iff.mp h
      refine x_callP (va_runV (As := [.int (0 : Int32), .int (x7 - x2)]) (rest := []) C0 (c_Piece_greyShown l G w _ b_15 (0 : Int32) (x7 - x2) q_14 e9) (x_cwV 2 C0 kw_2_188 kw_2_191 kw_1_12 kw_2_189 kw_2_190 (by decide +kernel) (x_rm hR1 hR2 (by decide) (by decide))) (x_preV hE hH hS (ci := 2) rfl hb9) rfl rfl hl.1 (by rw [e8]; rfl) (lv_room (by simp only [List.map_cons, List.map_nil, List.sum_cons, List.sum_nil, va_rf_cat, x_catI, x_catL, x_catA] <;> decide)) d_Face_differenceAt_79 (x_le0 hR3 hR4)) ?_
      refine x_istore (lv' := [(9, .inl q_14), (8, .inl q_12), (2, .inl x2), (4, .inr (.inl r4)), (5, .inr (.inl r5)), (6, .inl x6), (7, .inl x7)]) C0 hl d_Face_differenceAt_82 (by decide) rfl (fun ls hl => ?_)
      refine x_iload C0 hl 5 d_Face_differenceAt_84 rfl ?_
      refine x_iload C0 hl 0 d_Face_differenceAt_86 rfl ?_
      refine lv_iconst (v := -1) C0.1 C0.2.1 d_Face_differenceAt_88 (by decide) ?_
      refine x_icmp_ne C0 98 d_Face_differenceAt_89 (by decide) h (fun h => ?_) (fun h => ?_)
      · refine x_iload C0 hl 1 d_Face_differenceAt_98 rfl ?_
        refine x_iload C0 hl 0 d_Face_differenceAt_100 rfl ?_
        refine lv_isub C0.1 C0.2.1 d_Face_differenceAt_102 ?_
        refine va_mabs C0.1 C0.2.1 (C0.2.2.1.trans hl.1.symm) C0.2.2.2.1 (C0.2.2.2.2 _ kw_2_197) (C0.2.2.2.2 _ kw_2_198) (C0.2.2.2.2 _ kw_1_13) (C0.2.2.2.2 _ kw_2_199) (Nat.le_trans (by decide) hR1) (Nat.le_trans (by simp only [List.map_cons, List.map_nil, List.sum_cons, List.sum_nil, va_rf_cat, x_catI, x_catL, x_catA] <;> decide) hR2) hR3 hR4 d_Face_differenceAt_103 ?_
        refine lv_iadd C0.1 C0.2.1 d_Face_differenceAt_106 ?_
        refine x_istore (lv' := [(6, .inl (x6 + (if 0 ≤ (q_12 - q_14) then (q_12 - q_14) else 0 - (q_12 - q_14)))), (9, .inl q_14), (8, .inl q_12), (2, .inl x2), (4, .inr (.inl r4)), (5, .inr (.inl r5)), (7, .inl x7)]) C0 hl d_Face_differenceAt_107 (by decide) rfl (fun ls hl => ?_)
        refine x_iinc (v := 1) (lv' := [(7, .inl (x7 + 1)), (6, .inl (x6 + (if 0 ≤ (q_12 - q_14) then (q_12 - q_14) else 0 - (q_12 - q_14)))), (9, .inl q_14), (8, .inl q_12), (2, .inl x2), (4, .inr (.inl r4)), (5, .inr (.inl r5))]) C0 hl 6 d_Face_differenceAt_109 rfl (by decide) (by decide) rfl (fun ls hl => ?_)
        refine x_goto C0 40 d_Face_differenceAt_112 (by decide) ?_
        exact ih _ _ q ls (x_sub hl [4, 5, 6, 1, 0] rfl) h K
      · refine lv_sipush (v := 255) C0.1 C0.2.1 d_Face_differenceAt_92 (by decide) ?_
        refine x_goto C0 106 d_Face_differenceAt_95 (by decide) ?_
        refine lv_iadd C0.1 C0.2.1 d_Face_differenceAt_106 ?_
        refine x_istore (lv' := [(6, .inl (x6 + (255 : Int32))), (9, .inl q_14), (8, .inl q_12), (2, .inl x2), (4, .inr (.inl r4)), (5, .inr (.inl r5)), (7, .inl x7)]) C0 hl d_Face_differenceAt_107 (by decide) rfl (fun ls hl => ?_)
        refine x_iinc (v := 1) (lv' := [(7, .inl (x7 + 1)), (6, .inl (x6 + (255 : Int32))), (9, .inl q_14), (8, .inl q_12), (2, .inl x2), (4, .inr (.inl r4)), (5, .inr (.inl r5))]) C0 hl 6 d_Face_differenceAt_109 rfl (by decide) (by decide) rfl (fun ls hl => ?_)
        refine x_goto C0 40 d_Face_differenceAt_112 (by decide) ?_
        exact ih _ _ q ls (x_sub hl [4, 5, 6, 1, 0] rfl) h K
def f_Face_differenceAt (w : Mp) (h0 : Nat) (x1 : Int32) (x2 : Int32) : Option (Int32) := (gI w (some h0) 3 0).bind fun v_1 => xJ1 (fun (x_2 : Int32) => (gR w (some h0) 3 1).bind fun v_4 => (aR w v_4 3 x_2).bind fun v_5 => (gR w (some h0) 3 1).bind fun v_6 => (aR w v_6 3 (x_2 + (1 : Int32))).bind fun v_7 => (f_Face_differenceAt_L40 w x2 v_5 v_7 100000 (0 : Int32) (0 : Int32)).bind fun q_16 => some q_16.2.1) fun J_3 => if v_1 = (3 : Int32) then (J_3 ((2 : Int32) * x1)) else (J_3 x1)
set_option maxHeartbeats 4000000 in
set_option maxRecDepth 100000 in
theorem c_Face_differenceAt (l : Launch) (G : Gx) (w : Mp) (sz : Nat) (h0 : Nat) (x1 : Int32) (x2 : Int32) (res : Int32) (hf : f_Face_differenceAt w h0 x1 x2 = some res) : Met l y_Face_differenceAt (xws y_Face_differenceAt b_Face_differenceAt 10 (some .int)) { frames := 3, cells := 0, slots := 0, locals := 68 } (xPc G vwCl xaty w sz [va_rf (some h0), .int x1, .int x2]) (qP (some (.int res))) 0 0 (fun _ => False) := by
  refine Met.ofW (cc := b_Face_differenceAt) (maxL := 10) (ret := (some .int)) (by decide) rfl ?_
  intro p e s m args below meth c s₁ B hml hv
  obtain ⟨ha, hE, hH, hz⟩ := hv
  have C0 : CallFix p m c b_Face_differenceAt 10 s args wA R_Face := ⟨B.exec, B.bytes, hml, findClass_of_methodNamed B.named, fun w hw => atoms_spec (ws := xws y_Face_differenceAt b_Face_differenceAt 10 (some .int)) B.pre w (List.mem_cons_of_mem _ hw)⟩
  have hr := B.returns
  have hlocks := B.notSynchronized
  obtain ⟨R, hR⟩ : ∃ R, R = (headSpec (xws y_Face_differenceAt b_Face_differenceAt 10 (some .int)) { frames := 3, cells := 0, slots := 0, locals := 68 }).room := ⟨_, rfl⟩
  have hR1 : 3 ≤ R.frames := by rw [hR]; exact Nat.le_of_ble_eq_true rfl
  have hR2 : 68 ≤ R.locals := by rw [hR]; exact Nat.le_of_ble_eq_true rfl
  have hR3 : 0 ≤ R.cells := Nat.zero_le _
  have hR4 : 0 ≤ R.slots := Nat.zero_le _
  rw [← hR]
  obtain ⟨Q, hQ⟩ : ∃ Q, Q = MQ below (qP (some (.int res))) args s 0 0 (fun _ => False) := ⟨_, rfl⟩
  rw [← hQ]
  have hS : xS G s s.heap [] := va_S.rf
  obtain ⟨ls, he, hl⟩ := x_entry m [.inr (.inl (some h0)), .inl x1, .inl x2] 10 (Nat.le_of_ble_eq_true rfl)
  rw [show entryFrame m args 10 = F0 m 0 ls [] by rw [ha]; exact he]
  have hl : xL ls 10 [(0, .inr (.inl (some h0))), (1, .inl x1), (2, .inl x2)] := hl
  have h := hf
  unfold f_Face_differenceAt at h
  suffices hmain : ∀ (H : Heap) (locs : List Loc), xhd G vwCl w H → xS G s H locs → H.size = sz → (H = s.heap ∧ locs = []) → W p l e R s m args below meth c H locs 0 0 Q (F0 m 0 ls []) from hmain _ _ hH hS hz ⟨rfl, rfl⟩
  clear hH hS hz
  intro H locs hH hS hz hP0
  refine x_aload_n C0 hl 0 d_Face_differenceAt_0 rfl rfl ?_
  refine x_getI C0 hE hH (ci := 3) rfl i_Face 0 (by decide) kw_2_128 d_Face_differenceAt_1 h (fun v_1 h => ?_)
  refine lv_iconst (v := 3) C0.1 C0.2.1 d_Face_differenceAt_4 (by decide) ?_
  refine xj1 h (fun J_3 eJ_3 h => ?_)
  have kJ_3 : ∀ (x_2 : Int32) (ls : Array Slot), xL ls 10 [(0, .inr (.inl (some h0))), (2, .inl x2)] → J_3 x_2 = some res → W p l e R s m args below meth c H locs 0 0 Q (F0 m 15 ls [.int x_2]) := by
    intro x_2 ls hl h
    rw [eJ_3] at h
    refine x_istore_n (lv' := [(3, .inl x_2), (0, .inr (.inl (some h0))), (2, .inl x2)]) C0 hl d_Face_differenceAt_15 rfl (by decide) rfl (fun ls hl => ?_)
    refine x_aload_n C0 hl 1 d_Face_differenceAt_16 rfl rfl ?_
    refine x_getR C0 hE hH (ci := 3) rfl i_Face 1 (by decide) kw_2_130 d_Face_differenceAt_17 h (fun v_4 h => ?_)
    refine x_iload_n C0 hl 0 d_Face_differenceAt_20 rfl rfl ?_
    refine x_aald C0 hE hH (t := 3) rfl d_Face_differenceAt_21 h (fun v_5 h => ?_)
    refine x_astore (lv' := [(4, .inr (.inl v_5)), (3, .inl x_2), (0, .inr (.inl (some h0))), (2, .inl x2)]) C0 hl d_Face_differenceAt_22 (by decide) rfl (fun ls hl => ?_)
    refine x_aload_n C0 hl 2 d_Face_differenceAt_24 rfl rfl ?_
    refine x_getR C0 hE hH (ci := 3) rfl i_Face 1 (by decide) kw_2_130 d_Face_differenceAt_25 h (fun v_6 h => ?_)
    refine x_iload_n C0 hl 1 d_Face_differenceAt_28 rfl rfl ?_
    refine lv_iconst (v := 1) C0.1 C0.2.1 d_Face_differenceAt_29 (by decide) ?_
    refine lv_iadd C0.1 C0.2.1 d_Face_differenceAt_30 ?_
    refine x_aald C0 hE hH (t := 3) rfl d_Face_differenceAt_31 h (fun v_7 h => ?_)
    refine x_astore (lv' := [(5, .inr (.inl v_7)), (4, .inr (.inl v_5)), (3, .inl x_2), (0, .inr (.inl (some h0))), (2, .inl x2)]) C0 hl d_Face_differenceAt_32 (by decide) rfl (fun ls hl => ?_)
    refine lv_iconst (v := 0) C0.1 C0.2.1 d_Face_differenceAt_34 (by decide) ?_
    refine x_istore (lv' := [(6, .inl (0 : Int32)), (5, .inr (.inl v_7)), (4, .inr (.inl v_5)), (3, .inl x_2), (0, .inr (.inl (some h0))), (2, .inl x2)]) C0 hl d_Face_differenceAt_35 (by decide) rfl (fun ls hl => ?_)
    refine lv_iconst (v := 0) C0.1 C0.2.1 d_Face_differenceAt_37 (by decide) ?_
    refine x_istore (lv' := [(7, .inl (0 : Int32)), (6, .inl (0 : Int32)), (5, .inr (.inl v_7)), (4, .inr (.inl v_5)), (3, .inl x_2), (0, .inr (.inl (some h0))), (2, .inl x2)]) C0 hl d_Face_differenceAt_38 (by decide) rfl (fun ls hl => ?_)
    obtain ⟨q_16, e9, h⟩ := Option.bind_eq_some_iff.mp h
    refine w_Face_differenceAt_L40 C0 hE hR1 hR2 hR3 hR4 hH hS hz 100000 _ _ q_16 ls (x_sub hl [6, 3, 2, 1, 0] rfl) e9 (fun ls hl => ?_)
    refine x_iload C0 hl 3 d_Face_differenceAt_115 rfl ?_
    cases h
    rw [hQ]
    exact x_iretP C0 hr hlocks hP0 d_Face_differenceAt_117
  refine x_icmp_ne C0 14 d_Face_differenceAt_5 (by decide) h (fun h => ?_) (fun h => ?_)
  · refine x_iload_n C0 hl 1 d_Face_differenceAt_14 rfl rfl ?_
    exact kJ_3 _ ls (x_sub hl [0, 2] rfl) h
  · refine lv_iconst (v := 2) C0.1 C0.2.1 d_Face_differenceAt_8 (by decide) ?_
    refine x_iload_n C0 hl 1 d_Face_differenceAt_9 rfl rfl ?_
    refine lv_imul C0.1 C0.2.1 d_Face_differenceAt_10 ?_
    refine x_goto C0 15 d_Face_differenceAt_11 (by decide) ?_
    exact kJ_3 _ ls (x_sub hl [0, 2] rfl) h
theorem d_Face_bestShift_0 : decode b_Face_bestShift 0 = .ok (.getstatic 70, 3) := by decide +kernel
theorem d_Face_bestShift_3 : decode b_Face_bestShift 3 = .ok (.iconst 0, 1) := by decide +kernel
theorem d_Face_bestShift_4 : decode b_Face_bestShift 4 = .ok (.iaload, 1) := by decide +kernel
theorem d_Face_bestShift_5 : decode b_Face_bestShift 5 = .ok (.istore_n 2, 1) := by decide +kernel
theorem d_Face_bestShift_6 : decode b_Face_bestShift 6 = .ok (.aload_n 0, 1) := by decide +kernel
theorem d_Face_bestShift_7 : decode b_Face_bestShift 7 = .ok (.iload_n 1, 1) := by decide +kernel
theorem d_Face_bestShift_8 : decode b_Face_bestShift 8 = .ok (.iload_n 2, 1) := by decide +kernel
theorem d_Face_bestShift_9 : decode b_Face_bestShift 9 = .ok (.invokevirtual 74, 3) := by decide +kernel
theorem d_Face_bestShift_12 : decode b_Face_bestShift 12 = .ok (.istore_n 3, 1) := by decide +kernel
theorem d_Face_bestShift_13 : decode b_Face_bestShift 13 = .ok (.iconst 1, 1) := by decide +kernel
theorem d_Face_bestShift_14 : decode b_Face_bestShift 14 = .ok (.istore 4, 2) := by decide +kernel
theorem d_Face_bestShift_16 : decode b_Face_bestShift 16 = .ok (.iload 4, 2) := by decide +kernel
theorem d_Face_bestShift_18 : decode b_Face_bestShift 18 = .ok (.getstatic 70, 3) := by decide +kernel
theorem d_Face_bestShift_21 : decode b_Face_bestShift 21 = .ok (.arraylength, 1) := by decide +kernel
theorem d_Face_bestShift_22 : decode b_Face_bestShift 22 = .ok (.if_icmp .ge 38, 3) := by decide +kernel
theorem d_Face_bestShift_25 : decode b_Face_bestShift 25 = .ok (.aload_n 0, 1) := by decide +kernel
theorem d_Face_bestShift_26 : decode b_Face_bestShift 26 = .ok (.iload_n 1, 1) := by decide +kernel
theorem d_Face_bestShift_27 : decode b_Face_bestShift 27 = .ok (.getstatic 70, 3) := by decide +kernel
theorem d_Face_bestShift_30 : decode b_Face_bestShift 30 = .ok (.iload 4, 2) := by decide +kernel
theorem d_Face_bestShift_32 : decode b_Face_bestShift 32 = .ok (.iaload, 1) := by decide +kernel
theorem d_Face_bestShift_33 : decode b_Face_bestShift 33 = .ok (.invokevirtual 74, 3) := by decide +kernel
theorem d_Face_bestShift_36 : decode b_Face_bestShift 36 = .ok (.istore 5, 2) := by decide +kernel
theorem d_Face_bestShift_38 : decode b_Face_bestShift 38 = .ok (.iload 5, 2) := by decide +kernel
theorem d_Face_bestShift_40 : decode b_Face_bestShift 40 = .ok (.iload_n 3, 1) := by decide +kernel
theorem d_Face_bestShift_41 : decode b_Face_bestShift 41 = .ok (.if_icmp .ge 13, 3) := by decide +kernel
theorem d_Face_bestShift_44 : decode b_Face_bestShift 44 = .ok (.iload 5, 2) := by decide +kernel
theorem d_Face_bestShift_46 : decode b_Face_bestShift 46 = .ok (.istore_n 3, 1) := by decide +kernel
theorem d_Face_bestShift_47 : decode b_Face_bestShift 47 = .ok (.getstatic 70, 3) := by decide +kernel
theorem d_Face_bestShift_50 : decode b_Face_bestShift 50 = .ok (.iload 4, 2) := by decide +kernel
theorem d_Face_bestShift_52 : decode b_Face_bestShift 52 = .ok (.iaload, 1) := by decide +kernel
theorem d_Face_bestShift_53 : decode b_Face_bestShift 53 = .ok (.istore_n 2, 1) := by decide +kernel
theorem d_Face_bestShift_54 : decode b_Face_bestShift 54 = .ok (.iinc 4 1, 3) := by decide +kernel
theorem d_Face_bestShift_57 : decode b_Face_bestShift 57 = .ok (.goto (-41), 3) := by decide +kernel
theorem d_Face_bestShift_60 : decode b_Face_bestShift 60 = .ok (.iload_n 2, 1) := by decide +kernel
theorem d_Face_bestShift_61 : decode b_Face_bestShift 61 = .ok (.ireturn, 1) := by decide +kernel
def f_Face_bestShift_L16 (w : Mp) (h0 : Nat) (x1 : Int32) : Nat → Int32 → Int32 → Int32 → Option (Nat × Int32 × Int32 × Int32)
  | 0, _, _, _ => none
  | n + 1, x2, x3, x4 => if (7 : Int32) ≤ x4 then (some (0, x2, x3, x4)) else ((xtab x4).bind fun v_4 => (xo w (some h0) 3).bind fun b_6 => (f_Face_differenceAt w b_6 x1 v_4).bind fun q_5 => if x3 ≤ q_5 then (f_Face_bestShift_L16 w h0 x1 n x2 x3 (x4 + 1)) else ((xtab x4).bind fun v_7 => f_Face_bestShift_L16 w h0 x1 n v_7 q_5 (x4 + 1)))
set_option maxHeartbeats 4000000 in
set_option maxRecDepth 100000 in
theorem w_Face_bestShift_L16 {p : Program} {l : Launch} {e : Env} {R : Room} {s : State} {m : MethodId} {args : Array Value} {below : List Frame} {meth : Method} {c : Code} {Q : State → Prop} {cells slots sz : Nat} {G : Gx} {h0 : Nat} {x1 : Int32} (C0 : CallFix p m c b_Face_bestShift 6 s args wA R_Face) (hE : xE G vwCl xaty s) (hR1 : 4 ≤ R.frames) (hR2 : 97 ≤ R.locals) (hR3 : cells ≤ R.cells) (hR4 : slots ≤ R.slots) {w : Mp} {H : Heap} {locs : List Loc} (hH : xhd G vwCl w H) (hS : xS G s H locs) (hz : H.size = sz) : ∀ (n : Nat) (x2 : Int32) (x3 : Int32) (x4 : Int32) (q : Nat × Int32 × Int32 × Int32) (ls : Array Slot), xL ls 6 [(0, .inr (.inl (some h0))), (1, .inl x1), (2, .inl x2), (3, .inl x3), (4, .inl x4)] → f_Face_bestShift_L16 w h0 x1 n x2 x3 x4 = some q → (∀ (ls : Array Slot), xL ls 6 [(0, .inr (.inl (some h0))), (1, .inl x1), (2, .inl q.2.1), (3, .inl q.2.2.1), (4, .inl q.2.2.2)] → W p l e R s m args below meth c H locs cells slots Q (F0 m 60 ls [])) → W p l e R s m args below meth c H locs cells slots Q (F0 m 16 ls []) := by
  intro n
  induction n with
  | zero => intro _ _ _ q ls hl h; cases h
  | succ n ih =>
    intro x2 x3 x4 q ls hl h K
    rw [f_Face_bestShift_L16] at h
    refine x_iload C0 hl 4 d_Face_bestShift_16 rfl ?_
    refine x_shifts C0 hE hS (List.mem_of_getElem? (i := 10) rfl) d_Face_bestShift_18 ?_
    refine x_tlen C0 hE hS d_Face_bestShift_21 ?_
    refine x_icmp_ge C0 60 d_Face_bestShift_22 (by decide) h (fun h => ?_) (fun h => ?_)
    · cases h
      exact K ls (x_sub hl [0, 1, 2, 3, 4] rfl)
    · refine x_aload_n C0 hl 0 d_Face_bestShift_25 rfl rfl ?_
      refine x_iload_n C0 hl 1 d_Face_bestShift_26 rfl rfl ?_
      refine x_shifts C0 hE hS (List.mem_of_getElem? (i := 10) rfl) d_Face_bestShift_27 ?_
      refine x_iload C0 hl 4 d_Face_bestShift_30 rfl ?_
      refine x_tald C0 hE hS d_Face_bestShift_32 h (fun v_4 h => ?_)
      obtain ⟨b_6, e9, h⟩ := Option.bind_eq_some_iff.mp h
      obtain ⟨e8, fs9, hb9⟩ := xo_inv e9
      obtain ⟨q_5, e9, h⟩ := Option.bind_eq_some_iff.mp h
      refine x_callP (va_runV (As := [.int x1, .int v_4]) (rest := []) C0 (c_Face_differenceAt l G w _ b_6 x1 v_4 q_5 e9) (x_cwV 2 C0 kw_2_184 kw_2_187 kw_1_11 kw_2_185 kw_2_186 (by decide +kernel) (x_rm hR1 hR2 (by decide) (by decide))) (x_preV hE hH hS (ci := 3) rfl hb9) rfl rfl hl.1 (by rw [e8]; rfl) (lv_room (by simp only [List.map_cons, List.map_nil, List.sum_cons, List.sum_nil, va_rf_cat, x_catI, x_catL, x_catA] <;> decide)) d_Face_bestShift_33 (x_le0 hR3 hR4)) ?_
      refine x_istore (lv' := [(5, .inl q_5), (0, .inr (.inl (some h0))), (1, .inl x1), (2, .inl x2), (3, .inl x3), (4, .inl x4)]) C0 hl d_Face_bestShift_36 (by decide) rfl (fun ls hl => ?_)
      refine x_iload C0 hl 0 d_Face_bestShift_38 rfl ?_
      refine x_iload_n C0 hl 4 d_Face_bestShift_40 rfl rfl ?_
      refine x_icmp_ge C0 54 d_Face_bestShift_41 (by decide) h (fun h => ?_) (fun h => ?_)
      · refine x_iinc (v := 1) (lv' := [(4, .inl (x4 + 1)), (5, .inl q_5), (0, .inr (.inl (some h0))), (1, .inl x1), (2, .inl x2), (3, .inl x3)]) C0 hl 5 d_Face_bestShift_54 rfl (by decide) (by decide) rfl (fun ls hl => ?_)
        refine x_goto C0 16 d_Face_bestShift_57 (by decide) ?_
        exact ih _ _ _ q ls (x_sub hl [2, 3, 4, 5, 0] rfl) h K
      · refine x_iload C0 hl 0 d_Face_bestShift_44 rfl ?_
        refine x_istore_n (lv' := [(3, .inl q_5), (5, .inl q_5), (0, .inr (.inl (some h0))), (1, .inl x1), (2, .inl x2), (4, .inl x4)]) C0 hl d_Face_bestShift_46 rfl (by decide) rfl (fun ls hl => ?_)
        refine x_shifts C0 hE hS (List.mem_of_getElem? (i := 10) rfl) d_Face_bestShift_47 ?_
        refine x_iload C0 hl 5 d_Face_bestShift_50 rfl ?_
        refine x_tald C0 hE hS d_Face_bestShift_52 h (fun v_7 h => ?_)
        refine x_istore_n (lv' := [(2, .inl v_7), (3, .inl q_5), (5, .inl q_5), (0, .inr (.inl (some h0))), (1, .inl x1), (4, .inl x4)]) C0 hl d_Face_bestShift_53 rfl (by decide) rfl (fun ls hl => ?_)
        refine x_iinc (v := 1) (lv' := [(4, .inl (x4 + 1)), (2, .inl v_7), (3, .inl q_5), (5, .inl q_5), (0, .inr (.inl (some h0))), (1, .inl x1)]) C0 hl 5 d_Face_bestShift_54 rfl (by decide) (by decide) rfl (fun ls hl => ?_)
        refine x_goto C0 16 d_Face_bestShift_57 (by decide) ?_
        exact ih _ _ _ q ls (x_sub hl [4, 5, 1, 2, 0] rfl) h K
def f_Face_bestShift (w : Mp) (h0 : Nat) (x1 : Int32) : Option (Int32) := (xtab (0 : Int32)).bind fun v_1 => (xo w (some h0) 3).bind fun b_3 => (f_Face_differenceAt w b_3 x1 v_1).bind fun q_2 => (f_Face_bestShift_L16 w h0 x1 100000 v_1 q_2 (1 : Int32)).bind fun q_8 => some q_8.2.1
set_option maxHeartbeats 4000000 in
set_option maxRecDepth 100000 in
theorem c_Face_bestShift (l : Launch) (G : Gx) (w : Mp) (sz : Nat) (h0 : Nat) (x1 : Int32) (res : Int32) (hf : f_Face_bestShift w h0 x1 = some res) : Met l y_Face_bestShift (xws y_Face_bestShift b_Face_bestShift 6 (some .int)) { frames := 4, cells := 0, slots := 0, locals := 97 } (xPc G vwCl xaty w sz [va_rf (some h0), .int x1]) (qP (some (.int res))) 0 0 (fun _ => False) := by
  refine Met.ofW (cc := b_Face_bestShift) (maxL := 6) (ret := (some .int)) (by decide) rfl ?_
  intro p e s m args below meth c s₁ B hml hv
  obtain ⟨ha, hE, hH, hz⟩ := hv
  have C0 : CallFix p m c b_Face_bestShift 6 s args wA R_Face := ⟨B.exec, B.bytes, hml, findClass_of_methodNamed B.named, fun w hw => atoms_spec (ws := xws y_Face_bestShift b_Face_bestShift 6 (some .int)) B.pre w (List.mem_cons_of_mem _ hw)⟩
  have hr := B.returns
  have hlocks := B.notSynchronized
  obtain ⟨R, hR⟩ : ∃ R, R = (headSpec (xws y_Face_bestShift b_Face_bestShift 6 (some .int)) { frames := 4, cells := 0, slots := 0, locals := 97 }).room := ⟨_, rfl⟩
  have hR1 : 4 ≤ R.frames := by rw [hR]; exact Nat.le_of_ble_eq_true rfl
  have hR2 : 97 ≤ R.locals := by rw [hR]; exact Nat.le_of_ble_eq_true rfl
  have hR3 : 0 ≤ R.cells := Nat.zero_le _
  have hR4 : 0 ≤ R.slots := Nat.zero_le _
  rw [← hR]
  obtain ⟨Q, hQ⟩ : ∃ Q, Q = MQ below (qP (some (.int res))) args s 0 0 (fun _ => False) := ⟨_, rfl⟩
  rw [← hQ]
  have hS : xS G s s.heap [] := va_S.rf
  obtain ⟨ls, he, hl⟩ := x_entry m [.inr (.inl (some h0)), .inl x1] 6 (Nat.le_of_ble_eq_true rfl)
  rw [show entryFrame m args 6 = F0 m 0 ls [] by rw [ha]; exact he]
  have hl : xL ls 6 [(0, .inr (.inl (some h0))), (1, .inl x1)] := hl
  have h := hf
  unfold f_Face_bestShift at h
  suffices hmain : ∀ (H : Heap) (locs : List Loc), xhd G vwCl w H → xS G s H locs → H.size = sz → (H = s.heap ∧ locs = []) → W p l e R s m args below meth c H locs 0 0 Q (F0 m 0 ls []) from hmain _ _ hH hS hz ⟨rfl, rfl⟩
  clear hH hS hz
  intro H locs hH hS hz hP0
  refine x_shifts C0 hE hS (List.mem_of_getElem? (i := 10) rfl) d_Face_bestShift_0 ?_
  refine lv_iconst (v := 0) C0.1 C0.2.1 d_Face_bestShift_3 (by decide) ?_
  refine x_tald C0 hE hS d_Face_bestShift_4 h (fun v_1 h => ?_)
  refine x_istore_n (lv' := [(2, .inl v_1), (0, .inr (.inl (some h0))), (1, .inl x1)]) C0 hl d_Face_bestShift_5 rfl (by decide) rfl (fun ls hl => ?_)
  refine x_aload_n C0 hl 1 d_Face_bestShift_6 rfl rfl ?_
  refine x_iload_n C0 hl 2 d_Face_bestShift_7 rfl rfl ?_
  refine x_iload_n C0 hl 0 d_Face_bestShift_8 rfl rfl ?_
  obtain ⟨b_3, e9, h⟩ := Option.bind_eq_some_iff.mp h
  obtain ⟨e8, fs9, hb9⟩ := xo_inv e9
  obtain ⟨q_2, e9, h⟩ := Option.bind_eq_some_iff.mp h
  refine x_callP (va_runV (As := [.int x1, .int v_1]) (rest := []) C0 (c_Face_differenceAt l G w _ b_3 x1 v_1 q_2 e9) (x_cwV 2 C0 kw_2_184 kw_2_187 kw_1_11 kw_2_185 kw_2_186 (by decide +kernel) (x_rm hR1 hR2 (by decide) (by decide))) (x_preV hE hH hS (ci := 3) rfl hb9) rfl rfl hl.1 (by rw [e8]; rfl) (lv_room (by simp only [List.map_cons, List.map_nil, List.sum_cons, List.sum_nil, va_rf_cat, x_catI, x_catL, x_catA] <;> decide)) d_Face_bestShift_9 (x_le0 hR3 hR4)) ?_
  refine x_istore_n (lv' := [(3, .inl q_2), (2, .inl v_1), (0, .inr (.inl (some h0))), (1, .inl x1)]) C0 hl d_Face_bestShift_12 rfl (by decide) rfl (fun ls hl => ?_)
  refine lv_iconst (v := 1) C0.1 C0.2.1 d_Face_bestShift_13 (by decide) ?_
  refine x_istore (lv' := [(4, .inl (1 : Int32)), (3, .inl q_2), (2, .inl v_1), (0, .inr (.inl (some h0))), (1, .inl x1)]) C0 hl d_Face_bestShift_14 (by decide) rfl (fun ls hl => ?_)
  obtain ⟨q_8, e9, h⟩ := Option.bind_eq_some_iff.mp h
  refine w_Face_bestShift_L16 C0 hE hR1 hR2 hR3 hR4 hH hS hz 100000 _ _ _ q_8 ls (x_sub hl [3, 4, 2, 1, 0] rfl) e9 (fun ls hl => ?_)
  refine x_iload_n C0 hl 2 d_Face_bestShift_60 rfl rfl ?_
  cases h
  rw [hQ]
  exact x_iretP C0 hr hlocks hP0 d_Face_bestShift_61
theorem d_Face_sizeAcross_0 : decode b_Face_sizeAcross 0 = .ok (.iconst 0, 1) := by decide +kernel
theorem d_Face_sizeAcross_1 : decode b_Face_sizeAcross 1 = .ok (.istore_n 1, 1) := by decide +kernel
theorem d_Face_sizeAcross_2 : decode b_Face_sizeAcross 2 = .ok (.aload_n 0, 1) := by decide +kernel
theorem d_Face_sizeAcross_3 : decode b_Face_sizeAcross 3 = .ok (.getfield 17, 3) := by decide +kernel
theorem d_Face_sizeAcross_6 : decode b_Face_sizeAcross 6 = .ok (.astore_n 2, 1) := by decide +kernel
theorem d_Face_sizeAcross_7 : decode b_Face_sizeAcross 7 = .ok (.aload_n 2, 1) := by decide +kernel
theorem d_Face_sizeAcross_8 : decode b_Face_sizeAcross 8 = .ok (.arraylength, 1) := by decide +kernel
theorem d_Face_sizeAcross_9 : decode b_Face_sizeAcross 9 = .ok (.istore_n 3, 1) := by decide +kernel
theorem d_Face_sizeAcross_10 : decode b_Face_sizeAcross 10 = .ok (.iconst 0, 1) := by decide +kernel
theorem d_Face_sizeAcross_11 : decode b_Face_sizeAcross 11 = .ok (.istore 4, 2) := by decide +kernel
theorem d_Face_sizeAcross_13 : decode b_Face_sizeAcross 13 = .ok (.iload 4, 2) := by decide +kernel
theorem d_Face_sizeAcross_15 : decode b_Face_sizeAcross 15 = .ok (.iload_n 3, 1) := by decide +kernel
theorem d_Face_sizeAcross_16 : decode b_Face_sizeAcross 16 = .ok (.if_icmp .ge 25, 3) := by decide +kernel
theorem d_Face_sizeAcross_19 : decode b_Face_sizeAcross 19 = .ok (.aload_n 2, 1) := by decide +kernel
theorem d_Face_sizeAcross_20 : decode b_Face_sizeAcross 20 = .ok (.iload 4, 2) := by decide +kernel
theorem d_Face_sizeAcross_22 : decode b_Face_sizeAcross 22 = .ok (.aaload, 1) := by decide +kernel
theorem d_Face_sizeAcross_23 : decode b_Face_sizeAcross 23 = .ok (.astore 5, 2) := by decide +kernel
theorem d_Face_sizeAcross_25 : decode b_Face_sizeAcross 25 = .ok (.iload_n 1, 1) := by decide +kernel
theorem d_Face_sizeAcross_26 : decode b_Face_sizeAcross 26 = .ok (.aload 5, 2) := by decide +kernel
theorem d_Face_sizeAcross_28 : decode b_Face_sizeAcross 28 = .ok (.invokevirtual 38, 3) := by decide +kernel
theorem d_Face_sizeAcross_31 : decode b_Face_sizeAcross 31 = .ok (.invokestatic 77, 3) := by decide +kernel
theorem d_Face_sizeAcross_34 : decode b_Face_sizeAcross 34 = .ok (.istore_n 1, 1) := by decide +kernel
theorem d_Face_sizeAcross_35 : decode b_Face_sizeAcross 35 = .ok (.iinc 4 1, 3) := by decide +kernel
theorem d_Face_sizeAcross_38 : decode b_Face_sizeAcross 38 = .ok (.goto (-25), 3) := by decide +kernel
theorem d_Face_sizeAcross_41 : decode b_Face_sizeAcross 41 = .ok (.iload_n 1, 1) := by decide +kernel
theorem d_Face_sizeAcross_42 : decode b_Face_sizeAcross 42 = .ok (.ireturn, 1) := by decide +kernel
def f_Face_sizeAcross_L13 (w : Mp) (r2 : Option Nat) (x3 : Int32) : Nat → Int32 → Int32 → Option (Nat × Int32 × Int32)
  | 0, _, _ => none
  | n + 1, x1, x4 => if x3 ≤ x4 then (some (0, x1, x4)) else ((aR w r2 3 x4).bind fun v_3 => (xo w v_3 2).bind fun b_5 => (f_Piece_end w b_5).bind fun q_4 => f_Face_sizeAcross_L13 w r2 x3 n (if x1 < q_4 then q_4 else x1) (x4 + 1))
set_option maxHeartbeats 4000000 in
set_option maxRecDepth 100000 in
theorem w_Face_sizeAcross_L13 {p : Program} {l : Launch} {e : Env} {R : Room} {s : State} {m : MethodId} {args : Array Value} {below : List Frame} {meth : Method} {c : Code} {Q : State → Prop} {cells slots sz : Nat} {G : Gx} {r2 : Option Nat} {x3 : Int32} (C0 : CallFix p m c b_Face_sizeAcross 6 s args wA R_Face) (hE : xE G vwCl xaty s) (hR1 : 1 ≤ R.frames) (hR2 : 24 ≤ R.locals) (hR3 : cells ≤ R.cells) (hR4 : slots ≤ R.slots) {w : Mp} {H : Heap} {locs : List Loc} (hH : xhd G vwCl w H) (hS : xS G s H locs) (hz : H.size = sz) : ∀ (n : Nat) (x1 : Int32) (x4 : Int32) (q : Nat × Int32 × Int32) (ls : Array Slot), xL ls 6 [(1, .inl x1), (2, .inr (.inl r2)), (3, .inl x3), (4, .inl x4)] → f_Face_sizeAcross_L13 w r2 x3 n x1 x4 = some q → (∀ (ls : Array Slot), xL ls 6 [(1, .inl q.2.1), (2, .inr (.inl r2)), (3, .inl x3), (4, .inl q.2.2)] → W p l e R s m args below meth c H locs cells slots Q (F0 m 41 ls [])) → W p l e R s m args below meth c H locs cells slots Q (F0 m 13 ls []) := by
  intro n
  induction n with
  | zero => intro _ _ q ls hl h; cases h
  | succ n ih =>
    intro x1 x4 q ls hl h K
    rw [f_Face_sizeAcross_L13] at h
    refine x_iload C0 hl 3 d_Face_sizeAcross_13 rfl ?_
    refine x_iload_n C0 hl 2 d_Face_sizeAcross_15 rfl rfl ?_
    refine x_icmp_ge C0 41 d_Face_sizeAcross_16 (by decide) h (fun h => ?_) (fun h => ?_)
    · cases h
      exact K ls (x_sub hl [0, 1, 2, 3] rfl)
    · refine x_aload_n C0 hl 1 d_Face_sizeAcross_19 rfl rfl ?_
      refine x_iload C0 hl 3 d_Face_sizeAcross_20 rfl ?_
      refine x_aald C0 hE hH (t := 3) rfl d_Face_sizeAcross_22 h (fun v_3 h => ?_)
      refine x_astore (lv' := [(5, .inr (.inl v_3)), (1, .inl x1), (2, .inr (.inl r2)), (3, .inl x3), (4, .inl x4)]) C0 hl d_Face_sizeAcross_23 (by decide) rfl (fun ls hl => ?_)
      refine x_iload_n C0 hl 1 d_Face_sizeAcross_25 rfl rfl ?_
      refine x_aload C0 hl 0 d_Face_sizeAcross_26 rfl ?_
      obtain ⟨b_5, e9, h⟩ := Option.bind_eq_some_iff.mp h
      obtain ⟨e8, fs9, hb9⟩ := xo_inv e9
      obtain ⟨q_4, e9, h⟩ := Option.bind_eq_some_iff.mp h
      refine x_callP (va_runV (As := []) (rest := [.int x1]) C0 (c_Piece_end l G w _ b_5 q_4 e9) (x_cwV 0 C0 kw_2_170 kw_2_173 kw_1_12 kw_2_171 kw_2_172 (by decide +kernel) (x_rm hR1 hR2 (by decide) (by decide))) (x_preV hE hH hS (ci := 2) rfl hb9) rfl rfl hl.1 (by rw [e8]; rfl) (lv_room (by simp only [List.map_cons, List.map_nil, List.sum_cons, List.sum_nil, va_rf_cat, x_catI, x_catL, x_catA] <;> decide)) d_Face_sizeAcross_28 (x_le0 hR3 hR4)) ?_
      refine va_mmax C0.1 C0.2.1 (C0.2.2.1.trans hl.1.symm) C0.2.2.2.1 (C0.2.2.2.2 _ kw_2_230) (C0.2.2.2.2 _ kw_2_231) (C0.2.2.2.2 _ kw_1_13) (C0.2.2.2.2 _ kw_2_232) (Nat.le_trans (by decide) hR1) (Nat.le_trans (by simp only [List.map_cons, List.map_nil, List.sum_cons, List.sum_nil, va_rf_cat, x_catI, x_catL, x_catA] <;> decide) hR2) hR3 hR4 d_Face_sizeAcross_31 ?_
      refine x_istore_n (lv' := [(1, .inl (if x1 < q_4 then q_4 else x1)), (5, .inr (.inl v_3)), (2, .inr (.inl r2)), (3, .inl x3), (4, .inl x4)]) C0 hl d_Face_sizeAcross_34 rfl (by decide) rfl (fun ls hl => ?_)
      refine x_iinc (v := 1) (lv' := [(4, .inl (x4 + 1)), (1, .inl (if x1 < q_4 then q_4 else x1)), (5, .inr (.inl v_3)), (2, .inr (.inl r2)), (3, .inl x3)]) C0 hl 4 d_Face_sizeAcross_35 rfl (by decide) (by decide) rfl (fun ls hl => ?_)
      refine x_goto C0 13 d_Face_sizeAcross_38 (by decide) ?_
      exact ih _ _ q ls (x_sub hl [1, 3, 4, 0] rfl) h K
def f_Face_sizeAcross (w : Mp) (h0 : Nat) : Option (Int32) := (gR w (some h0) 3 1).bind fun v_1 => (aL w v_1 3).bind fun v_2 => (f_Face_sizeAcross_L13 w v_1 v_2 100000 (0 : Int32) (0 : Int32)).bind fun q_6 => some q_6.2.1
set_option maxHeartbeats 4000000 in
set_option maxRecDepth 100000 in
theorem c_Face_sizeAcross (l : Launch) (G : Gx) (w : Mp) (sz : Nat) (h0 : Nat) (res : Int32) (hf : f_Face_sizeAcross w h0 = some res) : Met l y_Face_sizeAcross (xws y_Face_sizeAcross b_Face_sizeAcross 6 (some .int)) { frames := 1, cells := 0, slots := 0, locals := 24 } (xPc G vwCl xaty w sz [va_rf (some h0)]) (qP (some (.int res))) 0 0 (fun _ => False) := by
  refine Met.ofW (cc := b_Face_sizeAcross) (maxL := 6) (ret := (some .int)) (by decide) rfl ?_
  intro p e s m args below meth c s₁ B hml hv
  obtain ⟨ha, hE, hH, hz⟩ := hv
  have C0 : CallFix p m c b_Face_sizeAcross 6 s args wA R_Face := ⟨B.exec, B.bytes, hml, findClass_of_methodNamed B.named, fun w hw => atoms_spec (ws := xws y_Face_sizeAcross b_Face_sizeAcross 6 (some .int)) B.pre w (List.mem_cons_of_mem _ hw)⟩
  have hr := B.returns
  have hlocks := B.notSynchronized
  obtain ⟨R, hR⟩ : ∃ R, R = (headSpec (xws y_Face_sizeAcross b_Face_sizeAcross 6 (some .int)) { frames := 1, cells := 0, slots := 0, locals := 24 }).room := ⟨_, rfl⟩
  have hR1 : 1 ≤ R.frames := by rw [hR]; exact Nat.le_of_ble_eq_true rfl
  have hR2 : 24 ≤ R.locals := by rw [hR]; exact Nat.le_of_ble_eq_true rfl
  have hR3 : 0 ≤ R.cells := Nat.zero_le _
  have hR4 : 0 ≤ R.slots := Nat.zero_le _
  rw [← hR]
  obtain ⟨Q, hQ⟩ : ∃ Q, Q = MQ below (qP (some (.int res))) args s 0 0 (fun _ => False) := ⟨_, rfl⟩
  rw [← hQ]
  have hS : xS G s s.heap [] := va_S.rf
  obtain ⟨ls, he, hl⟩ := x_entry m [.inr (.inl (some h0))] 6 (Nat.le_of_ble_eq_true rfl)
  rw [show entryFrame m args 6 = F0 m 0 ls [] by rw [ha]; exact he]
  have hl : xL ls 6 [(0, .inr (.inl (some h0)))] := hl
  have h := hf
  unfold f_Face_sizeAcross at h
  suffices hmain : ∀ (H : Heap) (locs : List Loc), xhd G vwCl w H → xS G s H locs → H.size = sz → (H = s.heap ∧ locs = []) → W p l e R s m args below meth c H locs 0 0 Q (F0 m 0 ls []) from hmain _ _ hH hS hz ⟨rfl, rfl⟩
  clear hH hS hz
  intro H locs hH hS hz hP0
  refine lv_iconst (v := 0) C0.1 C0.2.1 d_Face_sizeAcross_0 (by decide) ?_
  refine x_istore_n (lv' := [(1, .inl (0 : Int32)), (0, .inr (.inl (some h0)))]) C0 hl d_Face_sizeAcross_1 rfl (by decide) rfl (fun ls hl => ?_)
  refine x_aload_n C0 hl 1 d_Face_sizeAcross_2 rfl rfl ?_
  refine x_getR C0 hE hH (ci := 3) rfl i_Face 1 (by decide) kw_2_130 d_Face_sizeAcross_3 h (fun v_1 h => ?_)
  refine x_astore_n (lv' := [(2, .inr (.inl v_1)), (1, .inl (0 : Int32)), (0, .inr (.inl (some h0)))]) C0 hl d_Face_sizeAcross_6 rfl (by decide) rfl (fun ls hl => ?_)
  refine x_aload_n C0 hl 0 d_Face_sizeAcross_7 rfl rfl ?_
  refine x_alen C0 hE hH (t := 3) rfl d_Face_sizeAcross_8 h (fun v_2 h => ?_)
  refine x_istore_n (lv' := [(3, .inl v_2), (2, .inr (.inl v_1)), (1, .inl (0 : Int32)), (0, .inr (.inl (some h0)))]) C0 hl d_Face_sizeAcross_9 rfl (by decide) rfl (fun ls hl => ?_)
  refine lv_iconst (v := 0) C0.1 C0.2.1 d_Face_sizeAcross_10 (by decide) ?_
  refine x_istore (lv' := [(4, .inl (0 : Int32)), (3, .inl v_2), (2, .inr (.inl v_1)), (1, .inl (0 : Int32)), (0, .inr (.inl (some h0)))]) C0 hl d_Face_sizeAcross_11 (by decide) rfl (fun ls hl => ?_)
  obtain ⟨q_6, e9, h⟩ := Option.bind_eq_some_iff.mp h
  refine w_Face_sizeAcross_L13 C0 hE hR1 hR2 hR3 hR4 hH hS hz 100000 _ _ q_6 ls (x_sub hl [3, 2, 1, 0] rfl) e9 (fun ls hl => ?_)
  refine x_iload_n C0 hl 0 d_Face_sizeAcross_41 rfl rfl ?_
  cases h
  rw [hQ]
  exact x_iretP C0 hr hlocks hP0 d_Face_sizeAcross_42
theorem d_Face_leastTop_0 : decode b_Face_leastTop 0 = .ok (.aload_n 0, 1) := by decide +kernel
theorem d_Face_leastTop_1 : decode b_Face_leastTop 1 = .ok (.getfield 17, 3) := by decide +kernel
theorem d_Face_leastTop_4 : decode b_Face_leastTop 4 = .ok (.iconst 0, 1) := by decide +kernel
theorem d_Face_leastTop_5 : decode b_Face_leastTop 5 = .ok (.aaload, 1) := by decide +kernel
theorem d_Face_leastTop_6 : decode b_Face_leastTop 6 = .ok (.getfield 48, 3) := by decide +kernel
theorem d_Face_leastTop_9 : decode b_Face_leastTop 9 = .ok (.istore_n 1, 1) := by decide +kernel
theorem d_Face_leastTop_10 : decode b_Face_leastTop 10 = .ok (.aload_n 0, 1) := by decide +kernel
theorem d_Face_leastTop_11 : decode b_Face_leastTop 11 = .ok (.getfield 17, 3) := by decide +kernel
theorem d_Face_leastTop_14 : decode b_Face_leastTop 14 = .ok (.astore_n 2, 1) := by decide +kernel
theorem d_Face_leastTop_15 : decode b_Face_leastTop 15 = .ok (.aload_n 2, 1) := by decide +kernel
theorem d_Face_leastTop_16 : decode b_Face_leastTop 16 = .ok (.arraylength, 1) := by decide +kernel
theorem d_Face_leastTop_17 : decode b_Face_leastTop 17 = .ok (.istore_n 3, 1) := by decide +kernel
theorem d_Face_leastTop_18 : decode b_Face_leastTop 18 = .ok (.iconst 0, 1) := by decide +kernel
theorem d_Face_leastTop_19 : decode b_Face_leastTop 19 = .ok (.istore 4, 2) := by decide +kernel
theorem d_Face_leastTop_21 : decode b_Face_leastTop 21 = .ok (.iload 4, 2) := by decide +kernel
theorem d_Face_leastTop_23 : decode b_Face_leastTop 23 = .ok (.iload_n 3, 1) := by decide +kernel
theorem d_Face_leastTop_24 : decode b_Face_leastTop 24 = .ok (.if_icmp .ge 25, 3) := by decide +kernel
theorem d_Face_leastTop_27 : decode b_Face_leastTop 27 = .ok (.aload_n 2, 1) := by decide +kernel
theorem d_Face_leastTop_28 : decode b_Face_leastTop 28 = .ok (.iload 4, 2) := by decide +kernel
theorem d_Face_leastTop_30 : decode b_Face_leastTop 30 = .ok (.aaload, 1) := by decide +kernel
theorem d_Face_leastTop_31 : decode b_Face_leastTop 31 = .ok (.astore 5, 2) := by decide +kernel
theorem d_Face_leastTop_33 : decode b_Face_leastTop 33 = .ok (.iload_n 1, 1) := by decide +kernel
theorem d_Face_leastTop_34 : decode b_Face_leastTop 34 = .ok (.aload 5, 2) := by decide +kernel
theorem d_Face_leastTop_36 : decode b_Face_leastTop 36 = .ok (.getfield 48, 3) := by decide +kernel
theorem d_Face_leastTop_39 : decode b_Face_leastTop 39 = .ok (.invokestatic 80, 3) := by decide +kernel
theorem d_Face_leastTop_42 : decode b_Face_leastTop 42 = .ok (.istore_n 1, 1) := by decide +kernel
theorem d_Face_leastTop_43 : decode b_Face_leastTop 43 = .ok (.iinc 4 1, 3) := by decide +kernel
theorem d_Face_leastTop_46 : decode b_Face_leastTop 46 = .ok (.goto (-25), 3) := by decide +kernel
theorem d_Face_leastTop_49 : decode b_Face_leastTop 49 = .ok (.iload_n 1, 1) := by decide +kernel
theorem d_Face_leastTop_50 : decode b_Face_leastTop 50 = .ok (.ireturn, 1) := by decide +kernel
def f_Face_leastTop_L21 (w : Mp) (r2 : Option Nat) (x3 : Int32) : Nat → Int32 → Int32 → Option (Nat × Int32 × Int32)
  | 0, _, _ => none
  | n + 1, x1, x4 => if x3 ≤ x4 then (some (0, x1, x4)) else ((aR w r2 3 x4).bind fun v_6 => (gI w v_6 2 4).bind fun v_7 => f_Face_leastTop_L21 w r2 x3 n (if v_7 < x1 then v_7 else x1) (x4 + 1))
set_option maxHeartbeats 4000000 in
set_option maxRecDepth 100000 in
theorem w_Face_leastTop_L21 {p : Program} {l : Launch} {e : Env} {R : Room} {s : State} {m : MethodId} {args : Array Value} {below : List Frame} {meth : Method} {c : Code} {Q : State → Prop} {cells slots sz : Nat} {G : Gx} {r2 : Option Nat} {x3 : Int32} (C0 : CallFix p m c b_Face_leastTop 6 s args wA R_Face) (hE : xE G vwCl xaty s) (hR1 : 1 ≤ R.frames) (hR2 : 24 ≤ R.locals) (hR3 : cells ≤ R.cells) (hR4 : slots ≤ R.slots) {w : Mp} {H : Heap} {locs : List Loc} (hH : xhd G vwCl w H) (hS : xS G s H locs) (hz : H.size = sz) : ∀ (n : Nat) (x1 : Int32) (x4 : Int32) (q : Nat × Int32 × Int32) (ls : Array Slot), xL ls 6 [(1, .inl x1), (2, .inr (.inl r2)), (3, .inl x3), (4, .inl x4)] → f_Face_leastTop_L21 w r2 x3 n x1 x4 = some q → (∀ (ls : Array Slot), xL ls 6 [(1, .inl q.2.1), (2, .inr (.inl r2)), (3, .inl x3), (4, .inl q.2.2)] → W p l e R s m args below meth c H locs cells slots Q (F0 m 49 ls [])) → W p l e R s m args below meth c H locs cells slots Q (F0 m 21 ls []) := by
  intro n
  induction n with
  | zero => intro _ _ q ls hl h; cases h
  | succ n ih =>
    intro x1 x4 q ls hl h K
    rw [f_Face_leastTop_L21] at h
    refine x_iload C0 hl 3 d_Face_leastTop_21 rfl ?_
    refine x_iload_n C0 hl 2 d_Face_leastTop_23 rfl rfl ?_
    refine x_icmp_ge C0 49 d_Face_leastTop_24 (by decide) h (fun h => ?_) (fun h => ?_)
    · cases h
      exact K ls (x_sub hl [0, 1, 2, 3] rfl)
    · refine x_aload_n C0 hl 1 d_Face_leastTop_27 rfl rfl ?_
      refine x_iload C0 hl 3 d_Face_leastTop_28 rfl ?_
      refine x_aald C0 hE hH (t := 3) rfl d_Face_leastTop_30 h (fun v_6 h => ?_)
      refine x_astore (lv' := [(5, .inr (.inl v_6)), (1, .inl x1), (2, .inr (.inl r2)), (3, .inl x3), (4, .inl x4)]) C0 hl d_Face_leastTop_31 (by decide) rfl (fun ls hl => ?_)
      refine x_iload_n C0 hl 1 d_Face_leastTop_33 rfl rfl ?_
      refine x_aload C0 hl 0 d_Face_leastTop_34 rfl ?_
      refine x_getI C0 hE hH (ci := 2) rfl i_Piece 4 (by decide) kw_2_115 d_Face_leastTop_36 h (fun v_7 h => ?_)
      refine va_mmin C0.1 C0.2.1 (C0.2.2.1.trans hl.1.symm) C0.2.2.2.1 (C0.2.2.2.2 _ kw_2_216) (C0.2.2.2.2 _ kw_2_217) (C0.2.2.2.2 _ kw_1_13) (C0.2.2.2.2 _ kw_2_218) (Nat.le_trans (by decide) hR1) (Nat.le_trans (by simp only [List.map_cons, List.map_nil, List.sum_cons, List.sum_nil, va_rf_cat, x_catI, x_catL, x_catA] <;> decide) hR2) hR3 hR4 d_Face_leastTop_39 ?_
      refine x_istore_n (lv' := [(1, .inl (if v_7 < x1 then v_7 else x1)), (5, .inr (.inl v_6)), (2, .inr (.inl r2)), (3, .inl x3), (4, .inl x4)]) C0 hl d_Face_leastTop_42 rfl (by decide) rfl (fun ls hl => ?_)
      refine x_iinc (v := 1) (lv' := [(4, .inl (x4 + 1)), (1, .inl (if v_7 < x1 then v_7 else x1)), (5, .inr (.inl v_6)), (2, .inr (.inl r2)), (3, .inl x3)]) C0 hl 4 d_Face_leastTop_43 rfl (by decide) (by decide) rfl (fun ls hl => ?_)
      refine x_goto C0 21 d_Face_leastTop_46 (by decide) ?_
      exact ih _ _ q ls (x_sub hl [1, 3, 4, 0] rfl) h K
def f_Face_leastTop (w : Mp) (h0 : Nat) : Option (Int32) := (gR w (some h0) 3 1).bind fun v_1 => (aR w v_1 3 (0 : Int32)).bind fun v_2 => (gI w v_2 2 4).bind fun v_3 => (gR w (some h0) 3 1).bind fun v_4 => (aL w v_4 3).bind fun v_5 => (f_Face_leastTop_L21 w v_4 v_5 100000 v_3 (0 : Int32)).bind fun q_8 => some q_8.2.1
set_option maxHeartbeats 4000000 in
set_option maxRecDepth 100000 in
theorem c_Face_leastTop (l : Launch) (G : Gx) (w : Mp) (sz : Nat) (h0 : Nat) (res : Int32) (hf : f_Face_leastTop w h0 = some res) : Met l y_Face_leastTop (xws y_Face_leastTop b_Face_leastTop 6 (some .int)) { frames := 1, cells := 0, slots := 0, locals := 24 } (xPc G vwCl xaty w sz [va_rf (some h0)]) (qP (some (.int res))) 0 0 (fun _ => False) := by
  refine Met.ofW (cc := b_Face_leastTop) (maxL := 6) (ret := (some .int)) (by decide) rfl ?_
  intro p e s m args below meth c s₁ B hml hv
  obtain ⟨ha, hE, hH, hz⟩ := hv
  have C0 : CallFix p m c b_Face_leastTop 6 s args wA R_Face := ⟨B.exec, B.bytes, hml, findClass_of_methodNamed B.named, fun w hw => atoms_spec (ws := xws y_Face_leastTop b_Face_leastTop 6 (some .int)) B.pre w (List.mem_cons_of_mem _ hw)⟩
  have hr := B.returns
  have hlocks := B.notSynchronized
  obtain ⟨R, hR⟩ : ∃ R, R = (headSpec (xws y_Face_leastTop b_Face_leastTop 6 (some .int)) { frames := 1, cells := 0, slots := 0, locals := 24 }).room := ⟨_, rfl⟩
  have hR1 : 1 ≤ R.frames := by rw [hR]; exact Nat.le_of_ble_eq_true rfl
  have hR2 : 24 ≤ R.locals := by rw [hR]; exact Nat.le_of_ble_eq_true rfl
  have hR3 : 0 ≤ R.cells := Nat.zero_le _
  have hR4 : 0 ≤ R.slots := Nat.zero_le _
  rw [← hR]
  obtain ⟨Q, hQ⟩ : ∃ Q, Q = MQ below (qP (some (.int res))) args s 0 0 (fun _ => False) := ⟨_, rfl⟩
  rw [← hQ]
  have hS : xS G s s.heap [] := va_S.rf
  obtain ⟨ls, he, hl⟩ := x_entry m [.inr (.inl (some h0))] 6 (Nat.le_of_ble_eq_true rfl)
  rw [show entryFrame m args 6 = F0 m 0 ls [] by rw [ha]; exact he]
  have hl : xL ls 6 [(0, .inr (.inl (some h0)))] := hl
  have h := hf
  unfold f_Face_leastTop at h
  suffices hmain : ∀ (H : Heap) (locs : List Loc), xhd G vwCl w H → xS G s H locs → H.size = sz → (H = s.heap ∧ locs = []) → W p l e R s m args below meth c H locs 0 0 Q (F0 m 0 ls []) from hmain _ _ hH hS hz ⟨rfl, rfl⟩
  clear hH hS hz
  intro H locs hH hS hz hP0
  refine x_aload_n C0 hl 0 d_Face_leastTop_0 rfl rfl ?_
  refine x_getR C0 hE hH (ci := 3) rfl i_Face 1 (by decide) kw_2_130 d_Face_leastTop_1 h (fun v_1 h => ?_)
  refine lv_iconst (v := 0) C0.1 C0.2.1 d_Face_leastTop_4 (by decide) ?_
  refine x_aald C0 hE hH (t := 3) rfl d_Face_leastTop_5 h (fun v_2 h => ?_)
  refine x_getI C0 hE hH (ci := 2) rfl i_Piece 4 (by decide) kw_2_115 d_Face_leastTop_6 h (fun v_3 h => ?_)
  refine x_istore_n (lv' := [(1, .inl v_3), (0, .inr (.inl (some h0)))]) C0 hl d_Face_leastTop_9 rfl (by decide) rfl (fun ls hl => ?_)
  refine x_aload_n C0 hl 1 d_Face_leastTop_10 rfl rfl ?_
  refine x_getR C0 hE hH (ci := 3) rfl i_Face 1 (by decide) kw_2_130 d_Face_leastTop_11 h (fun v_4 h => ?_)
  refine x_astore_n (lv' := [(2, .inr (.inl v_4)), (1, .inl v_3), (0, .inr (.inl (some h0)))]) C0 hl d_Face_leastTop_14 rfl (by decide) rfl (fun ls hl => ?_)
  refine x_aload_n C0 hl 0 d_Face_leastTop_15 rfl rfl ?_
  refine x_alen C0 hE hH (t := 3) rfl d_Face_leastTop_16 h (fun v_5 h => ?_)
  refine x_istore_n (lv' := [(3, .inl v_5), (2, .inr (.inl v_4)), (1, .inl v_3), (0, .inr (.inl (some h0)))]) C0 hl d_Face_leastTop_17 rfl (by decide) rfl (fun ls hl => ?_)
  refine lv_iconst (v := 0) C0.1 C0.2.1 d_Face_leastTop_18 (by decide) ?_
  refine x_istore (lv' := [(4, .inl (0 : Int32)), (3, .inl v_5), (2, .inr (.inl v_4)), (1, .inl v_3), (0, .inr (.inl (some h0)))]) C0 hl d_Face_leastTop_19 (by decide) rfl (fun ls hl => ?_)
  obtain ⟨q_8, e9, h⟩ := Option.bind_eq_some_iff.mp h
  refine w_Face_leastTop_L21 C0 hE hR1 hR2 hR3 hR4 hH hS hz 100000 _ _ q_8 ls (x_sub hl [3, 2, 1, 0] rfl) e9 (fun ls hl => ?_)
  refine x_iload_n C0 hl 0 d_Face_leastTop_49 rfl rfl ?_
  cases h
  rw [hQ]
  exact x_iretP C0 hr hlocks hP0 d_Face_leastTop_50
theorem d_Face_greatestBottom_0 : decode b_Face_greatestBottom 0 = .ok (.aload_n 0, 1) := by decide +kernel
theorem d_Face_greatestBottom_1 : decode b_Face_greatestBottom 1 = .ok (.getfield 17, 3) := by decide +kernel
theorem d_Face_greatestBottom_4 : decode b_Face_greatestBottom 4 = .ok (.iconst 0, 1) := by decide +kernel
theorem d_Face_greatestBottom_5 : decode b_Face_greatestBottom 5 = .ok (.aaload, 1) := by decide +kernel
theorem d_Face_greatestBottom_6 : decode b_Face_greatestBottom 6 = .ok (.invokevirtual 45, 3) := by decide +kernel
theorem d_Face_greatestBottom_9 : decode b_Face_greatestBottom 9 = .ok (.istore_n 1, 1) := by decide +kernel
theorem d_Face_greatestBottom_10 : decode b_Face_greatestBottom 10 = .ok (.aload_n 0, 1) := by decide +kernel
theorem d_Face_greatestBottom_11 : decode b_Face_greatestBottom 11 = .ok (.getfield 17, 3) := by decide +kernel
theorem d_Face_greatestBottom_14 : decode b_Face_greatestBottom 14 = .ok (.astore_n 2, 1) := by decide +kernel
theorem d_Face_greatestBottom_15 : decode b_Face_greatestBottom 15 = .ok (.aload_n 2, 1) := by decide +kernel
theorem d_Face_greatestBottom_16 : decode b_Face_greatestBottom 16 = .ok (.arraylength, 1) := by decide +kernel
theorem d_Face_greatestBottom_17 : decode b_Face_greatestBottom 17 = .ok (.istore_n 3, 1) := by decide +kernel
theorem d_Face_greatestBottom_18 : decode b_Face_greatestBottom 18 = .ok (.iconst 0, 1) := by decide +kernel
theorem d_Face_greatestBottom_19 : decode b_Face_greatestBottom 19 = .ok (.istore 4, 2) := by decide +kernel
theorem d_Face_greatestBottom_21 : decode b_Face_greatestBottom 21 = .ok (.iload 4, 2) := by decide +kernel
theorem d_Face_greatestBottom_23 : decode b_Face_greatestBottom 23 = .ok (.iload_n 3, 1) := by decide +kernel
theorem d_Face_greatestBottom_24 : decode b_Face_greatestBottom 24 = .ok (.if_icmp .ge 25, 3) := by decide +kernel
theorem d_Face_greatestBottom_27 : decode b_Face_greatestBottom 27 = .ok (.aload_n 2, 1) := by decide +kernel
theorem d_Face_greatestBottom_28 : decode b_Face_greatestBottom 28 = .ok (.iload 4, 2) := by decide +kernel
theorem d_Face_greatestBottom_30 : decode b_Face_greatestBottom 30 = .ok (.aaload, 1) := by decide +kernel
theorem d_Face_greatestBottom_31 : decode b_Face_greatestBottom 31 = .ok (.astore 5, 2) := by decide +kernel
theorem d_Face_greatestBottom_33 : decode b_Face_greatestBottom 33 = .ok (.iload_n 1, 1) := by decide +kernel
theorem d_Face_greatestBottom_34 : decode b_Face_greatestBottom 34 = .ok (.aload 5, 2) := by decide +kernel
theorem d_Face_greatestBottom_36 : decode b_Face_greatestBottom 36 = .ok (.invokevirtual 45, 3) := by decide +kernel
theorem d_Face_greatestBottom_39 : decode b_Face_greatestBottom 39 = .ok (.invokestatic 77, 3) := by decide +kernel
theorem d_Face_greatestBottom_42 : decode b_Face_greatestBottom 42 = .ok (.istore_n 1, 1) := by decide +kernel
theorem d_Face_greatestBottom_43 : decode b_Face_greatestBottom 43 = .ok (.iinc 4 1, 3) := by decide +kernel
theorem d_Face_greatestBottom_46 : decode b_Face_greatestBottom 46 = .ok (.goto (-25), 3) := by decide +kernel
theorem d_Face_greatestBottom_49 : decode b_Face_greatestBottom 49 = .ok (.iload_n 1, 1) := by decide +kernel
theorem d_Face_greatestBottom_50 : decode b_Face_greatestBottom 50 = .ok (.ireturn, 1) := by decide +kernel
def f_Face_greatestBottom_L21 (w : Mp) (r2 : Option Nat) (x3 : Int32) : Nat → Int32 → Int32 → Option (Nat × Int32 × Int32)
  | 0, _, _ => none
  | n + 1, x1, x4 => if x3 ≤ x4 then (some (0, x1, x4)) else ((aR w r2 3 x4).bind fun v_7 => (xo w v_7 2).bind fun b_9 => (f_Piece_bottom w b_9).bind fun q_8 => f_Face_greatestBottom_L21 w r2 x3 n (if x1 < q_8 then q_8 else x1) (x4 + 1))
set_option maxHeartbeats 4000000 in
set_option maxRecDepth 100000 in
theorem w_Face_greatestBottom_L21 {p : Program} {l : Launch} {e : Env} {R : Room} {s : State} {m : MethodId} {args : Array Value} {below : List Frame} {meth : Method} {c : Code} {Q : State → Prop} {cells slots sz : Nat} {G : Gx} {r2 : Option Nat} {x3 : Int32} (C0 : CallFix p m c b_Face_greatestBottom 6 s args wA R_Face) (hE : xE G vwCl xaty s) (hR1 : 1 ≤ R.frames) (hR2 : 24 ≤ R.locals) (hR3 : cells ≤ R.cells) (hR4 : slots ≤ R.slots) {w : Mp} {H : Heap} {locs : List Loc} (hH : xhd G vwCl w H) (hS : xS G s H locs) (hz : H.size = sz) : ∀ (n : Nat) (x1 : Int32) (x4 : Int32) (q : Nat × Int32 × Int32) (ls : Array Slot), xL ls 6 [(1, .inl x1), (2, .inr (.inl r2)), (3, .inl x3), (4, .inl x4)] → f_Face_greatestBottom_L21 w r2 x3 n x1 x4 = some q → (∀ (ls : Array Slot), xL ls 6 [(1, .inl q.2.1), (2, .inr (.inl r2)), (3, .inl x3), (4, .inl q.2.2)] → W p l e R s m args below meth c H locs cells slots Q (F0 m 49 ls [])) → W p l e R s m args below meth c H locs cells slots Q (F0 m 21 ls []) := by
  intro n
  induction n with
  | zero => intro _ _ q ls hl h; cases h
  | succ n ih =>
    intro x1 x4 q ls hl h K
    rw [f_Face_greatestBottom_L21] at h
    refine x_iload C0 hl 3 d_Face_greatestBottom_21 rfl ?_
    refine x_iload_n C0 hl 2 d_Face_greatestBottom_23 rfl rfl ?_
    refine x_icmp_ge C0 49 d_Face_greatestBottom_24 (by decide) h (fun h => ?_) (fun h => ?_)
    · cases h
      exact K ls (x_sub hl [0, 1, 2, 3] rfl)
    · refine x_aload_n C0 hl 1 d_Face_greatestBottom_27 rfl rfl ?_
      refine x_iload C0 hl 3 d_Face_greatestBottom_28 rfl ?_
      refine x_aald C0 hE hH (t := 3) rfl d_Face_greatestBottom_30 h (fun v_7 h => ?_)
      refine x_astore (lv' := [(5, .inr (.inl v_7)), (1, .inl x1), (2, .inr (.inl r2)), (3, .inl x3), (4, .inl x4)]) C0 hl d_Face_greatestBottom_31 (by decide) rfl (fun ls hl => ?_)
      refine x_iload_n C0 hl 1 d_Face_greatestBottom_33 rfl rfl ?_
      refine x_aload C0 hl 0 d_Face_greatestBottom_34 rfl ?_
      obtain ⟨b_9, e9, h⟩ := Option.bind_eq_some_iff.mp h
      obtain ⟨e8, fs9, hb9⟩ := xo_inv e9
      obtain ⟨q_8, e9, h⟩ := Option.bind_eq_some_iff.mp h
      refine x_callP (va_runV (As := []) (rest := [.int x1]) C0 (c_Piece_bottom l G w _ b_9 q_8 e9) (x_cwV 0 C0 kw_2_174 kw_2_177 kw_1_12 kw_2_175 kw_2_176 (by decide +kernel) (x_rm hR1 hR2 (by decide) (by decide))) (x_preV hE hH hS (ci := 2) rfl hb9) rfl rfl hl.1 (by rw [e8]; rfl) (lv_room (by simp only [List.map_cons, List.map_nil, List.sum_cons, List.sum_nil, va_rf_cat, x_catI, x_catL, x_catA] <;> decide)) d_Face_greatestBottom_36 (x_le0 hR3 hR4)) ?_
      refine va_mmax C0.1 C0.2.1 (C0.2.2.1.trans hl.1.symm) C0.2.2.2.1 (C0.2.2.2.2 _ kw_2_230) (C0.2.2.2.2 _ kw_2_231) (C0.2.2.2.2 _ kw_1_13) (C0.2.2.2.2 _ kw_2_232) (Nat.le_trans (by decide) hR1) (Nat.le_trans (by simp only [List.map_cons, List.map_nil, List.sum_cons, List.sum_nil, va_rf_cat, x_catI, x_catL, x_catA] <;> decide) hR2) hR3 hR4 d_Face_greatestBottom_39 ?_
      refine x_istore_n (lv' := [(1, .inl (if x1 < q_8 then q_8 else x1)), (5, .inr (.inl v_7)), (2, .inr (.inl r2)), (3, .inl x3), (4, .inl x4)]) C0 hl d_Face_greatestBottom_42 rfl (by decide) rfl (fun ls hl => ?_)
      refine x_iinc (v := 1) (lv' := [(4, .inl (x4 + 1)), (1, .inl (if x1 < q_8 then q_8 else x1)), (5, .inr (.inl v_7)), (2, .inr (.inl r2)), (3, .inl x3)]) C0 hl 4 d_Face_greatestBottom_43 rfl (by decide) (by decide) rfl (fun ls hl => ?_)
      refine x_goto C0 21 d_Face_greatestBottom_46 (by decide) ?_
      exact ih _ _ q ls (x_sub hl [1, 3, 4, 0] rfl) h K
def f_Face_greatestBottom (w : Mp) (h0 : Nat) : Option (Int32) := (gR w (some h0) 3 1).bind fun v_1 => (aR w v_1 3 (0 : Int32)).bind fun v_2 => (xo w v_2 2).bind fun b_4 => (f_Piece_bottom w b_4).bind fun q_3 => (gR w (some h0) 3 1).bind fun v_5 => (aL w v_5 3).bind fun v_6 => (f_Face_greatestBottom_L21 w v_5 v_6 100000 q_3 (0 : Int32)).bind fun q_10 => some q_10.2.1
set_option maxHeartbeats 4000000 in
set_option maxRecDepth 100000 in
theorem c_Face_greatestBottom (l : Launch) (G : Gx) (w : Mp) (sz : Nat) (h0 : Nat) (res : Int32) (hf : f_Face_greatestBottom w h0 = some res) : Met l y_Face_greatestBottom (xws y_Face_greatestBottom b_Face_greatestBottom 6 (some .int)) { frames := 1, cells := 0, slots := 0, locals := 24 } (xPc G vwCl xaty w sz [va_rf (some h0)]) (qP (some (.int res))) 0 0 (fun _ => False) := by
  refine Met.ofW (cc := b_Face_greatestBottom) (maxL := 6) (ret := (some .int)) (by decide) rfl ?_
  intro p e s m args below meth c s₁ B hml hv
  obtain ⟨ha, hE, hH, hz⟩ := hv
  have C0 : CallFix p m c b_Face_greatestBottom 6 s args wA R_Face := ⟨B.exec, B.bytes, hml, findClass_of_methodNamed B.named, fun w hw => atoms_spec (ws := xws y_Face_greatestBottom b_Face_greatestBottom 6 (some .int)) B.pre w (List.mem_cons_of_mem _ hw)⟩
  have hr := B.returns
  have hlocks := B.notSynchronized
  obtain ⟨R, hR⟩ : ∃ R, R = (headSpec (xws y_Face_greatestBottom b_Face_greatestBottom 6 (some .int)) { frames := 1, cells := 0, slots := 0, locals := 24 }).room := ⟨_, rfl⟩
  have hR1 : 1 ≤ R.frames := by rw [hR]; exact Nat.le_of_ble_eq_true rfl
  have hR2 : 24 ≤ R.locals := by rw [hR]; exact Nat.le_of_ble_eq_true rfl
  have hR3 : 0 ≤ R.cells := Nat.zero_le _
  have hR4 : 0 ≤ R.slots := Nat.zero_le _
  rw [← hR]
  obtain ⟨Q, hQ⟩ : ∃ Q, Q = MQ below (qP (some (.int res))) args s 0 0 (fun _ => False) := ⟨_, rfl⟩
  rw [← hQ]
  have hS : xS G s s.heap [] := va_S.rf
  obtain ⟨ls, he, hl⟩ := x_entry m [.inr (.inl (some h0))] 6 (Nat.le_of_ble_eq_true rfl)
  rw [show entryFrame m args 6 = F0 m 0 ls [] by rw [ha]; exact he]
  have hl : xL ls 6 [(0, .inr (.inl (some h0)))] := hl
  have h := hf
  unfold f_Face_greatestBottom at h
  suffices hmain : ∀ (H : Heap) (locs : List Loc), xhd G vwCl w H → xS G s H locs → H.size = sz → (H = s.heap ∧ locs = []) → W p l e R s m args below meth c H locs 0 0 Q (F0 m 0 ls []) from hmain _ _ hH hS hz ⟨rfl, rfl⟩
  clear hH hS hz
  intro H locs hH hS hz hP0
  refine x_aload_n C0 hl 0 d_Face_greatestBottom_0 rfl rfl ?_
  refine x_getR C0 hE hH (ci := 3) rfl i_Face 1 (by decide) kw_2_130 d_Face_greatestBottom_1 h (fun v_1 h => ?_)
  refine lv_iconst (v := 0) C0.1 C0.2.1 d_Face_greatestBottom_4 (by decide) ?_
  refine x_aald C0 hE hH (t := 3) rfl d_Face_greatestBottom_5 h (fun v_2 h => ?_)
  obtain ⟨b_4, e9, h⟩ := Option.bind_eq_some_iff.mp h
  obtain ⟨e8, fs9, hb9⟩ := xo_inv e9
  obtain ⟨q_3, e9, h⟩ := Option.bind_eq_some_iff.mp h
  refine x_callP (va_runV (As := []) (rest := []) C0 (c_Piece_bottom l G w _ b_4 q_3 e9) (x_cwV 0 C0 kw_2_174 kw_2_177 kw_1_12 kw_2_175 kw_2_176 (by decide +kernel) (x_rm hR1 hR2 (by decide) (by decide))) (x_preV hE hH hS (ci := 2) rfl hb9) rfl rfl hl.1 (by rw [e8]; rfl) (lv_room (by simp only [List.map_cons, List.map_nil, List.sum_cons, List.sum_nil, va_rf_cat, x_catI, x_catL, x_catA] <;> decide)) d_Face_greatestBottom_6 (x_le0 hR3 hR4)) ?_
  refine x_istore_n (lv' := [(1, .inl q_3), (0, .inr (.inl (some h0)))]) C0 hl d_Face_greatestBottom_9 rfl (by decide) rfl (fun ls hl => ?_)
  refine x_aload_n C0 hl 1 d_Face_greatestBottom_10 rfl rfl ?_
  refine x_getR C0 hE hH (ci := 3) rfl i_Face 1 (by decide) kw_2_130 d_Face_greatestBottom_11 h (fun v_5 h => ?_)
  refine x_astore_n (lv' := [(2, .inr (.inl v_5)), (1, .inl q_3), (0, .inr (.inl (some h0)))]) C0 hl d_Face_greatestBottom_14 rfl (by decide) rfl (fun ls hl => ?_)
  refine x_aload_n C0 hl 0 d_Face_greatestBottom_15 rfl rfl ?_
  refine x_alen C0 hE hH (t := 3) rfl d_Face_greatestBottom_16 h (fun v_6 h => ?_)
  refine x_istore_n (lv' := [(3, .inl v_6), (2, .inr (.inl v_5)), (1, .inl q_3), (0, .inr (.inl (some h0)))]) C0 hl d_Face_greatestBottom_17 rfl (by decide) rfl (fun ls hl => ?_)
  refine lv_iconst (v := 0) C0.1 C0.2.1 d_Face_greatestBottom_18 (by decide) ?_
  refine x_istore (lv' := [(4, .inl (0 : Int32)), (3, .inl v_6), (2, .inr (.inl v_5)), (1, .inl q_3), (0, .inr (.inl (some h0)))]) C0 hl d_Face_greatestBottom_19 (by decide) rfl (fun ls hl => ?_)
  obtain ⟨q_10, e9, h⟩ := Option.bind_eq_some_iff.mp h
  refine w_Face_greatestBottom_L21 C0 hE hR1 hR2 hR3 hR4 hH hS hz 100000 _ _ q_10 ls (x_sub hl [3, 2, 1, 0] rfl) e9 (fun ls hl => ?_)
  refine x_iload_n C0 hl 0 d_Face_greatestBottom_49 rfl rfl ?_
  cases h
  rw [hQ]
  exact x_iretP C0 hr hlocks hP0 d_Face_greatestBottom_50
theorem d_Face_greySeen_0 : decode b_Face_greySeen 0 = .ok (.iload_n 1, 1) := by decide +kernel
theorem d_Face_greySeen_1 : decode b_Face_greySeen 1 = .ok (.ifCond .lt 7, 3) := by decide +kernel
theorem d_Face_greySeen_4 : decode b_Face_greySeen 4 = .ok (.iload_n 2, 1) := by decide +kernel
theorem d_Face_greySeen_5 : decode b_Face_greySeen 5 = .ok (.ifCond .ge 5, 3) := by decide +kernel
theorem d_Face_greySeen_8 : decode b_Face_greySeen 8 = .ok (.iconst (-1), 1) := by decide +kernel
theorem d_Face_greySeen_9 : decode b_Face_greySeen 9 = .ok (.ireturn, 1) := by decide +kernel
theorem d_Face_greySeen_10 : decode b_Face_greySeen 10 = .ok (.iload_n 2, 1) := by decide +kernel
theorem d_Face_greySeen_11 : decode b_Face_greySeen 11 = .ok (.aload_n 0, 1) := by decide +kernel
theorem d_Face_greySeen_12 : decode b_Face_greySeen 12 = .ok (.invokevirtual 83, 3) := by decide +kernel
theorem d_Face_greySeen_15 : decode b_Face_greySeen 15 = .ok (.iadd, 1) := by decide +kernel
theorem d_Face_greySeen_16 : decode b_Face_greySeen 16 = .ok (.istore_n 3, 1) := by decide +kernel
theorem d_Face_greySeen_17 : decode b_Face_greySeen 17 = .ok (.aload_n 0, 1) := by decide +kernel
theorem d_Face_greySeen_18 : decode b_Face_greySeen 18 = .ok (.getfield 17, 3) := by decide +kernel
theorem d_Face_greySeen_21 : decode b_Face_greySeen 21 = .ok (.astore 4, 2) := by decide +kernel
theorem d_Face_greySeen_23 : decode b_Face_greySeen 23 = .ok (.aload 4, 2) := by decide +kernel
theorem d_Face_greySeen_25 : decode b_Face_greySeen 25 = .ok (.arraylength, 1) := by decide +kernel
theorem d_Face_greySeen_26 : decode b_Face_greySeen 26 = .ok (.istore 5, 2) := by decide +kernel
theorem d_Face_greySeen_28 : decode b_Face_greySeen 28 = .ok (.iconst 0, 1) := by decide +kernel
theorem d_Face_greySeen_29 : decode b_Face_greySeen 29 = .ok (.istore 6, 2) := by decide +kernel
theorem d_Face_greySeen_31 : decode b_Face_greySeen 31 = .ok (.iload 6, 2) := by decide +kernel
theorem d_Face_greySeen_33 : decode b_Face_greySeen 33 = .ok (.iload 5, 2) := by decide +kernel
theorem d_Face_greySeen_35 : decode b_Face_greySeen 35 = .ok (.if_icmp .ge 46, 3) := by decide +kernel
theorem d_Face_greySeen_38 : decode b_Face_greySeen 38 = .ok (.aload 4, 2) := by decide +kernel
theorem d_Face_greySeen_40 : decode b_Face_greySeen 40 = .ok (.iload 6, 2) := by decide +kernel
theorem d_Face_greySeen_42 : decode b_Face_greySeen 42 = .ok (.aaload, 1) := by decide +kernel
theorem d_Face_greySeen_43 : decode b_Face_greySeen 43 = .ok (.astore 7, 2) := by decide +kernel
theorem d_Face_greySeen_45 : decode b_Face_greySeen 45 = .ok (.aload 7, 2) := by decide +kernel
theorem d_Face_greySeen_47 : decode b_Face_greySeen 47 = .ok (.iload_n 1, 1) := by decide +kernel
theorem d_Face_greySeen_48 : decode b_Face_greySeen 48 = .ok (.aload 7, 2) := by decide +kernel
theorem d_Face_greySeen_50 : decode b_Face_greySeen 50 = .ok (.getfield 42, 3) := by decide +kernel
theorem d_Face_greySeen_53 : decode b_Face_greySeen 53 = .ok (.isub, 1) := by decide +kernel
theorem d_Face_greySeen_54 : decode b_Face_greySeen 54 = .ok (.iload_n 3, 1) := by decide +kernel
theorem d_Face_greySeen_55 : decode b_Face_greySeen 55 = .ok (.aload 7, 2) := by decide +kernel
theorem d_Face_greySeen_57 : decode b_Face_greySeen 57 = .ok (.getfield 48, 3) := by decide +kernel
theorem d_Face_greySeen_60 : decode b_Face_greySeen 60 = .ok (.isub, 1) := by decide +kernel
theorem d_Face_greySeen_61 : decode b_Face_greySeen 61 = .ok (.invokevirtual 61, 3) := by decide +kernel
theorem d_Face_greySeen_64 : decode b_Face_greySeen 64 = .ok (.istore 8, 2) := by decide +kernel
theorem d_Face_greySeen_66 : decode b_Face_greySeen 66 = .ok (.iload 8, 2) := by decide +kernel
theorem d_Face_greySeen_68 : decode b_Face_greySeen 68 = .ok (.iconst (-1), 1) := by decide +kernel
theorem d_Face_greySeen_69 : decode b_Face_greySeen 69 = .ok (.if_icmp .eq 6, 3) := by decide +kernel
theorem d_Face_greySeen_72 : decode b_Face_greySeen 72 = .ok (.iload 8, 2) := by decide +kernel
theorem d_Face_greySeen_74 : decode b_Face_greySeen 74 = .ok (.ireturn, 1) := by decide +kernel
theorem d_Face_greySeen_75 : decode b_Face_greySeen 75 = .ok (.iinc 6 1, 3) := by decide +kernel
theorem d_Face_greySeen_78 : decode b_Face_greySeen 78 = .ok (.goto (-47), 3) := by decide +kernel
theorem d_Face_greySeen_81 : decode b_Face_greySeen 81 = .ok (.iconst (-1), 1) := by decide +kernel
theorem d_Face_greySeen_82 : decode b_Face_greySeen 82 = .ok (.ireturn, 1) := by decide +kernel
def f_Face_greySeen_L31 (w : Mp) (x1 : Int32) (x3 : Int32) (r4 : Option Nat) (x5 : Int32) : Nat → Int32 → Option (Nat × Int32 × Int32)
  | 0, _ => none
  | n + 1, x6 => if x5 ≤ x6 then (some (0, x6, 0)) else ((aR w r4 3 x6).bind fun v_5 => (gI w v_5 2 3).bind fun v_6 => (gI w v_5 2 4).bind fun v_7 => (xo w v_5 2).bind fun b_9 => (f_Piece_greyShown w b_9 (x1 - v_6) (x3 - v_7)).bind fun q_8 => if q_8 = (-1 : Int32) then (f_Face_greySeen_L31 w x1 x3 r4 x5 n (x6 + 1)) else (some (1, x6, q_8)))
set_option maxHeartbeats 4000000 in
set_option maxRecDepth 100000 in
theorem w_Face_greySeen_L31 {p : Program} {l : Launch} {e : Env} {R : Room} {s : State} {m : MethodId} {args : Array Value} {below : List Frame} {meth : Method} {c : Code} {Q : State → Prop} {cells slots sz : Nat} {G : Gx} {x1 : Int32} {x3 : Int32} {r4 : Option Nat} {x5 : Int32} (C0 : CallFix p m c b_Face_greySeen 9 s args wA R_Face) (hE : xE G vwCl xaty s) (hR1 : 3 ≤ R.frames) (hR2 : 68 ≤ R.locals) (hR3 : cells ≤ R.cells) (hR4 : slots ≤ R.slots) {w : Mp} {H : Heap} {locs : List Loc} (hH : xhd G vwCl w H) (hS : xS G s H locs) (hz : H.size = sz) : ∀ (n : Nat) (x6 : Int32) (q : Nat × Int32 × Int32) (ls : Array Slot), xL ls 9 [(1, .inl x1), (3, .inl x3), (4, .inr (.inl r4)), (5, .inl x5), (6, .inl x6)] → f_Face_greySeen_L31 w x1 x3 r4 x5 n x6 = some q → ((q.1 = 0 → ∀ (ls : Array Slot), xL ls 9 [(1, .inl x1), (3, .inl x3), (4, .inr (.inl r4)), (5, .inl x5), (6, .inl q.2.1)] → W p l e R s m args below meth c H locs cells slots Q (F0 m 81 ls [])) ∧ (q.1 = 1 → ∀ (ls : Array Slot), xL ls 9 [(1, .inl x1), (3, .inl x3), (4, .inr (.inl r4)), (5, .inl x5), (6, .inl q.2.1), (8, .inl q.2.2)] → W p l e R s m args below meth c H locs cells slots Q (F0 m 72 ls []))) → W p l e R s m args below meth c H locs cells slots Q (F0 m 31 ls []) := by
  intro n
  induction n with
  | zero => intro _ q ls hl h; cases h
  | succ n ih =>
    intro x6 q ls hl h K
    rw [f_Face_greySeen_L31] at h
    refine x_iload C0 hl 4 d_Face_greySeen_31 rfl ?_
    refine x_iload C0 hl 3 d_Face_greySeen_33 rfl ?_
    refine x_icmp_ge C0 81 d_Face_greySeen_35 (by decide) h (fun h => ?_) (fun h => ?_)
    · cases h
      exact K.1 rfl ls (x_sub hl [0, 1, 2, 3, 4] rfl)
    · refine x_aload C0 hl 2 d_Face_greySeen_38 rfl ?_
      refine x_iload C0 hl 4 d_Face_greySeen_40 rfl ?_
      refine x_aald C0 hE hH (t := 3) rfl d_Face_greySeen_42 h (fun v_5 h => ?_)
      refine x_astore (lv' := [(7, .inr (.inl v_5)), (1, .inl x1), (3, .inl x3), (4, .inr (.inl r4)), (5, .inl x5), (6, .inl x6)]) C0 hl d_Face_greySeen_43 (by decide) rfl (fun ls hl => ?_)
      refine x_aload C0 hl 0 d_Face_greySeen_45 rfl ?_
      refine x_iload_n C0 hl 1 d_Face_greySeen_47 rfl rfl ?_
      refine x_aload C0 hl 0 d_Face_greySeen_48 rfl ?_
      refine x_getI C0 hE hH (ci := 2) rfl i_Piece 3 (by decide) kw_2_112 d_Face_greySeen_50 h (fun v_6 h => ?_)
      refine lv_isub C0.1 C0.2.1 d_Face_greySeen_53 ?_
      refine x_iload_n C0 hl 2 d_Face_greySeen_54 rfl rfl ?_
      refine x_aload C0 hl 0 d_Face_greySeen_55 rfl ?_
      refine x_getI C0 hE hH (ci := 2) rfl i_Piece 4 (by decide) kw_2_115 d_Face_greySeen_57 h (fun v_7 h => ?_)
      refine lv_isub C0.1 C0.2.1 d_Face_greySeen_60 ?_
      obtain ⟨b_9, e9, h⟩ := Option.bind_eq_some_iff.mp h
      obtain ⟨e8, fs9, hb9⟩ := xo_inv e9
      obtain ⟨q_8, e9, h⟩ := Option.bind_eq_some_iff.mp h
      refine x_callP (va_runV (As := [.int (x1 - v_6), .int (x3 - v_7)]) (rest := []) C0 (c_Piece_greyShown l G w _ b_9 (x1 - v_6) (x3 - v_7) q_8 e9) (x_cwV 2 C0 kw_2_188 kw_2_191 kw_1_12 kw_2_189 kw_2_190 (by decide +kernel) (x_rm hR1 hR2 (by decide) (by decide))) (x_preV hE hH hS (ci := 2) rfl hb9) rfl rfl hl.1 (by rw [e8]; rfl) (lv_room (by simp only [List.map_cons, List.map_nil, List.sum_cons, List.sum_nil, va_rf_cat, x_catI, x_catL, x_catA] <;> decide)) d_Face_greySeen_61 (x_le0 hR3 hR4)) ?_
      refine x_istore (lv' := [(8, .inl q_8), (7, .inr (.inl v_5)), (1, .inl x1), (3, .inl x3), (4, .inr (.inl r4)), (5, .inl x5), (6, .inl x6)]) C0 hl d_Face_greySeen_64 (by decide) rfl (fun ls hl => ?_)
      refine x_iload C0 hl 0 d_Face_greySeen_66 rfl ?_
      refine lv_iconst (v := -1) C0.1 C0.2.1 d_Face_greySeen_68 (by decide) ?_
      refine x_icmp_eq C0 75 d_Face_greySeen_69 (by decide) h (fun h => ?_) (fun h => ?_)
      · refine x_iinc (v := 1) (lv' := [(6, .inl (x6 + 1)), (8, .inl q_8), (7, .inr (.inl v_5)), (1, .inl x1), (3, .inl x3), (4, .inr (.inl r4)), (5, .inl x5)]) C0 hl 6 d_Face_greySeen_75 rfl (by decide) (by decide) rfl (fun ls hl => ?_)
        refine x_goto C0 31 d_Face_greySeen_78 (by decide) ?_
        exact ih _ q ls (x_sub hl [3, 4, 5, 6, 0] rfl) h K
      · cases h
        exact K.2 rfl ls (x_sub hl [2, 3, 4, 5, 6, 0] rfl)
def f_Face_greySeen (w : Mp) (h0 : Nat) (x1 : Int32) (x2 : Int32) : Option (Int32) := if x1 < 0 then (some (-1 : Int32)) else (if 0 ≤ x2 then ((xo w (some h0) 3).bind fun b_2 => (f_Face_leastTop w b_2).bind fun q_1 => (gR w (some h0) 3 1).bind fun v_3 => (aL w v_3 3).bind fun v_4 => (f_Face_greySeen_L31 w x1 (x2 + q_1) v_3 v_4 100000 (0 : Int32)).bind fun q_10 => if q_10.1 = 0 then (some (-1 : Int32)) else (if q_10.1 = 1 then (some q_10.2.2) else (none))) else (some (-1 : Int32)))
set_option maxHeartbeats 4000000 in
set_option maxRecDepth 100000 in
theorem c_Face_greySeen (l : Launch) (G : Gx) (w : Mp) (sz : Nat) (h0 : Nat) (x1 : Int32) (x2 : Int32) (res : Int32) (hf : f_Face_greySeen w h0 x1 x2 = some res) : Met l y_Face_greySeen (xws y_Face_greySeen b_Face_greySeen 9 (some .int)) { frames := 3, cells := 0, slots := 0, locals := 68 } (xPc G vwCl xaty w sz [va_rf (some h0), .int x1, .int x2]) (qP (some (.int res))) 0 0 (fun _ => False) := by
  refine Met.ofW (cc := b_Face_greySeen) (maxL := 9) (ret := (some .int)) (by decide) rfl ?_
  intro p e s m args below meth c s₁ B hml hv
  obtain ⟨ha, hE, hH, hz⟩ := hv
  have C0 : CallFix p m c b_Face_greySeen 9 s args wA R_Face := ⟨B.exec, B.bytes, hml, findClass_of_methodNamed B.named, fun w hw => atoms_spec (ws := xws y_Face_greySeen b_Face_greySeen 9 (some .int)) B.pre w (List.mem_cons_of_mem _ hw)⟩
  have hr := B.returns
  have hlocks := B.notSynchronized
  obtain ⟨R, hR⟩ : ∃ R, R = (headSpec (xws y_Face_greySeen b_Face_greySeen 9 (some .int)) { frames := 3, cells := 0, slots := 0, locals := 68 }).room := ⟨_, rfl⟩
  have hR1 : 3 ≤ R.frames := by rw [hR]; exact Nat.le_of_ble_eq_true rfl
  have hR2 : 68 ≤ R.locals := by rw [hR]; exact Nat.le_of_ble_eq_true rfl
  have hR3 : 0 ≤ R.cells := Nat.zero_le _
  have hR4 : 0 ≤ R.slots := Nat.zero_le _
  rw [← hR]
  obtain ⟨Q, hQ⟩ : ∃ Q, Q = MQ below (qP (some (.int res))) args s 0 0 (fun _ => False) := ⟨_, rfl⟩
  rw [← hQ]
  have hS : xS G s s.heap [] := va_S.rf
  obtain ⟨ls, he, hl⟩ := x_entry m [.inr (.inl (some h0)), .inl x1, .inl x2] 9 (Nat.le_of_ble_eq_true rfl)
  rw [show entryFrame m args 9 = F0 m 0 ls [] by rw [ha]; exact he]
  have hl : xL ls 9 [(0, .inr (.inl (some h0))), (1, .inl x1), (2, .inl x2)] := hl
  have h := hf
  unfold f_Face_greySeen at h
  suffices hmain : ∀ (H : Heap) (locs : List Loc), xhd G vwCl w H → xS G s H locs → H.size = sz → (H = s.heap ∧ locs = []) → W p l e R s m args below meth c H locs 0 0 Q (F0 m 0 ls []) from hmain _ _ hH hS hz ⟨rfl, rfl⟩
  clear hH hS hz
  intro H locs hH hS hz hP0
  refine x_iload_n C0 hl 1 d_Face_greySeen_0 rfl rfl ?_
  refine x_if_lt C0 8 d_Face_greySeen_1 (by decide) h (fun h => ?_) (fun h => ?_)
  · refine lv_iconst (v := -1) C0.1 C0.2.1 d_Face_greySeen_8 (by decide) ?_
    cases h
    rw [hQ]
    exact x_iretP C0 hr hlocks hP0 d_Face_greySeen_9
  · refine x_iload_n C0 hl 2 d_Face_greySeen_4 rfl rfl ?_
    refine x_if_ge C0 10 d_Face_greySeen_5 (by decide) h (fun h => ?_) (fun h => ?_)
    · refine x_iload_n C0 hl 2 d_Face_greySeen_10 rfl rfl ?_
      refine x_aload_n C0 hl 0 d_Face_greySeen_11 rfl rfl ?_
      obtain ⟨b_2, e9, h⟩ := Option.bind_eq_some_iff.mp h
      obtain ⟨e8, fs9, hb9⟩ := xo_inv e9
      obtain ⟨q_1, e9, h⟩ := Option.bind_eq_some_iff.mp h
      refine x_callP (va_runV (As := []) (rest := [.int x2]) C0 (c_Face_leastTop l G w _ b_2 q_1 e9) (x_cwV 0 C0 kw_2_212 kw_2_215 kw_1_11 kw_2_213 kw_2_214 (by decide +kernel) (x_rm hR1 hR2 (by decide) (by decide))) (x_preV hE hH hS (ci := 3) rfl hb9) rfl rfl hl.1 (by rw [e8]; rfl) (lv_room (by simp only [List.map_cons, List.map_nil, List.sum_cons, List.sum_nil, va_rf_cat, x_catI, x_catL, x_catA] <;> decide)) d_Face_greySeen_12 (x_le0 hR3 hR4)) ?_
      refine lv_iadd C0.1 C0.2.1 d_Face_greySeen_15 ?_
      refine x_istore_n (lv' := [(3, .inl (x2 + q_1)), (0, .inr (.inl (some h0))), (1, .inl x1), (2, .inl x2)]) C0 hl d_Face_greySeen_16 rfl (by decide) rfl (fun ls hl => ?_)
      refine x_aload_n C0 hl 1 d_Face_greySeen_17 rfl rfl ?_
      refine x_getR C0 hE hH (ci := 3) rfl i_Face 1 (by decide) kw_2_130 d_Face_greySeen_18 h (fun v_3 h => ?_)
      refine x_astore (lv' := [(4, .inr (.inl v_3)), (3, .inl (x2 + q_1)), (0, .inr (.inl (some h0))), (1, .inl x1), (2, .inl x2)]) C0 hl d_Face_greySeen_21 (by decide) rfl (fun ls hl => ?_)
      refine x_aload C0 hl 0 d_Face_greySeen_23 rfl ?_
      refine x_alen C0 hE hH (t := 3) rfl d_Face_greySeen_25 h (fun v_4 h => ?_)
      refine x_istore (lv' := [(5, .inl v_4), (4, .inr (.inl v_3)), (3, .inl (x2 + q_1)), (0, .inr (.inl (some h0))), (1, .inl x1), (2, .inl x2)]) C0 hl d_Face_greySeen_26 (by decide) rfl (fun ls hl => ?_)
      refine lv_iconst (v := 0) C0.1 C0.2.1 d_Face_greySeen_28 (by decide) ?_
      refine x_istore (lv' := [(6, .inl (0 : Int32)), (5, .inl v_4), (4, .inr (.inl v_3)), (3, .inl (x2 + q_1)), (0, .inr (.inl (some h0))), (1, .inl x1), (2, .inl x2)]) C0 hl d_Face_greySeen_29 (by decide) rfl (fun ls hl => ?_)
      obtain ⟨q_10, e9, h⟩ := Option.bind_eq_some_iff.mp h
      refine w_Face_greySeen_L31 C0 hE hR1 hR2 hR3 hR4 hH hS hz 100000 _ q_10 ls (x_sub hl [5, 3, 2, 1, 0] rfl) e9 ⟨fun z9 ls hl => ?_, fun z9 ls hl => ?_⟩
      · rw [if_pos z9] at h
        refine lv_iconst (v := -1) C0.1 C0.2.1 d_Face_greySeen_81 (by decide) ?_
        cases h
        rw [hQ]
        exact x_iretP C0 hr hlocks hP0 d_Face_greySeen_82
      · rw [if_neg (by rw [z9]; decide), if_pos z9] at h
        refine x_iload C0 hl 5 d_Face_greySeen_72 rfl ?_
        cases h
        rw [hQ]
        exact x_iretP C0 hr hlocks hP0 d_Face_greySeen_74
    · refine lv_iconst (v := -1) C0.1 C0.2.1 d_Face_greySeen_8 (by decide) ?_
      cases h
      rw [hQ]
      exact x_iretP C0 hr hlocks hP0 d_Face_greySeen_9
theorem d_Face_isBalanced_0 : decode b_Face_isBalanced 0 = .ok (.aload_n 0, 1) := by decide +kernel
theorem d_Face_isBalanced_1 : decode b_Face_isBalanced 1 = .ok (.invokevirtual 86, 3) := by decide +kernel
theorem d_Face_isBalanced_4 : decode b_Face_isBalanced 4 = .ok (.istore_n 1, 1) := by decide +kernel
theorem d_Face_isBalanced_5 : decode b_Face_isBalanced 5 = .ok (.aload_n 0, 1) := by decide +kernel
theorem d_Face_isBalanced_6 : decode b_Face_isBalanced 6 = .ok (.getfield 17, 3) := by decide +kernel
theorem d_Face_isBalanced_9 : decode b_Face_isBalanced 9 = .ok (.astore_n 2, 1) := by decide +kernel
theorem d_Face_isBalanced_10 : decode b_Face_isBalanced 10 = .ok (.aload_n 2, 1) := by decide +kernel
theorem d_Face_isBalanced_11 : decode b_Face_isBalanced 11 = .ok (.arraylength, 1) := by decide +kernel
theorem d_Face_isBalanced_12 : decode b_Face_isBalanced 12 = .ok (.istore_n 3, 1) := by decide +kernel
theorem d_Face_isBalanced_13 : decode b_Face_isBalanced 13 = .ok (.iconst 0, 1) := by decide +kernel
theorem d_Face_isBalanced_14 : decode b_Face_isBalanced 14 = .ok (.istore 4, 2) := by decide +kernel
theorem d_Face_isBalanced_16 : decode b_Face_isBalanced 16 = .ok (.iload 4, 2) := by decide +kernel
theorem d_Face_isBalanced_18 : decode b_Face_isBalanced 18 = .ok (.iload_n 3, 1) := by decide +kernel
theorem d_Face_isBalanced_19 : decode b_Face_isBalanced 19 = .ok (.if_icmp .ge 43, 3) := by decide +kernel
theorem d_Face_isBalanced_22 : decode b_Face_isBalanced 22 = .ok (.aload_n 2, 1) := by decide +kernel
theorem d_Face_isBalanced_23 : decode b_Face_isBalanced 23 = .ok (.iload 4, 2) := by decide +kernel
theorem d_Face_isBalanced_25 : decode b_Face_isBalanced 25 = .ok (.aaload, 1) := by decide +kernel
theorem d_Face_isBalanced_26 : decode b_Face_isBalanced 26 = .ok (.astore 5, 2) := by decide +kernel
theorem d_Face_isBalanced_28 : decode b_Face_isBalanced 28 = .ok (.iconst 2, 1) := by decide +kernel
theorem d_Face_isBalanced_29 : decode b_Face_isBalanced 29 = .ok (.aload 5, 2) := by decide +kernel
theorem d_Face_isBalanced_31 : decode b_Face_isBalanced 31 = .ok (.getfield 42, 3) := by decide +kernel
theorem d_Face_isBalanced_34 : decode b_Face_isBalanced 34 = .ok (.imul, 1) := by decide +kernel
theorem d_Face_isBalanced_35 : decode b_Face_isBalanced 35 = .ok (.iload_n 1, 1) := by decide +kernel
theorem d_Face_isBalanced_36 : decode b_Face_isBalanced 36 = .ok (.if_icmp .eq 18, 3) := by decide +kernel
theorem d_Face_isBalanced_39 : decode b_Face_isBalanced 39 = .ok (.aload 5, 2) := by decide +kernel
theorem d_Face_isBalanced_41 : decode b_Face_isBalanced 41 = .ok (.getfield 42, 3) := by decide +kernel
theorem d_Face_isBalanced_44 : decode b_Face_isBalanced 44 = .ok (.aload 5, 2) := by decide +kernel
theorem d_Face_isBalanced_46 : decode b_Face_isBalanced 46 = .ok (.invokevirtual 38, 3) := by decide +kernel
theorem d_Face_isBalanced_49 : decode b_Face_isBalanced 49 = .ok (.iadd, 1) := by decide +kernel
theorem d_Face_isBalanced_50 : decode b_Face_isBalanced 50 = .ok (.iload_n 1, 1) := by decide +kernel
theorem d_Face_isBalanced_51 : decode b_Face_isBalanced 51 = .ok (.if_icmp .ne 5, 3) := by decide +kernel
theorem d_Face_isBalanced_54 : decode b_Face_isBalanced 54 = .ok (.iconst 1, 1) := by decide +kernel
theorem d_Face_isBalanced_55 : decode b_Face_isBalanced 55 = .ok (.ireturn, 1) := by decide +kernel
theorem d_Face_isBalanced_56 : decode b_Face_isBalanced 56 = .ok (.iinc 4 1, 3) := by decide +kernel
theorem d_Face_isBalanced_59 : decode b_Face_isBalanced 59 = .ok (.goto (-43), 3) := by decide +kernel
theorem d_Face_isBalanced_62 : decode b_Face_isBalanced 62 = .ok (.iconst 0, 1) := by decide +kernel
theorem d_Face_isBalanced_63 : decode b_Face_isBalanced 63 = .ok (.ireturn, 1) := by decide +kernel
def f_Face_isBalanced_L16 (w : Mp) (x1 : Int32) (r2 : Option Nat) (x3 : Int32) : Nat → Int32 → Option (Nat × Int32)
  | 0, _ => none
  | n + 1, x4 => if x3 ≤ x4 then (some (0, x4)) else ((aR w r2 3 x4).bind fun v_5 => (gI w v_5 2 3).bind fun v_6 => if ((2 : Int32) * v_6) = x1 then (some (1, x4)) else ((gI w v_5 2 3).bind fun v_7 => (xo w v_5 2).bind fun b_9 => (f_Piece_end w b_9).bind fun q_8 => if (v_7 + q_8) = x1 then (some (1, x4)) else (f_Face_isBalanced_L16 w x1 r2 x3 n (x4 + 1))))
set_option maxHeartbeats 4000000 in
set_option maxRecDepth 100000 in
theorem w_Face_isBalanced_L16 {p : Program} {l : Launch} {e : Env} {R : Room} {s : State} {m : MethodId} {args : Array Value} {below : List Frame} {meth : Method} {c : Code} {Q : State → Prop} {cells slots sz : Nat} {G : Gx} {x1 : Int32} {r2 : Option Nat} {x3 : Int32} (C0 : CallFix p m c b_Face_isBalanced 6 s args wA R_Face) (hE : xE G vwCl xaty s) (hR1 : 2 ≤ R.frames) (hR2 : 49 ≤ R.locals) (hR3 : cells ≤ R.cells) (hR4 : slots ≤ R.slots) {w : Mp} {H : Heap} {locs : List Loc} (hH : xhd G vwCl w H) (hS : xS G s H locs) (hz : H.size = sz) : ∀ (n : Nat) (x4 : Int32) (q : Nat × Int32) (ls : Array Slot), xL ls 6 [(1, .inl x1), (2, .inr (.inl r2)), (3, .inl x3), (4, .inl x4)] → f_Face_isBalanced_L16 w x1 r2 x3 n x4 = some q → ((q.1 = 0 → ∀ (ls : Array Slot), xL ls 6 [(1, .inl x1), (2, .inr (.inl r2)), (3, .inl x3), (4, .inl q.2)] → W p l e R s m args below meth c H locs cells slots Q (F0 m 62 ls [])) ∧ (q.1 = 1 → ∀ (ls : Array Slot), xL ls 6 [(1, .inl x1), (2, .inr (.inl r2)), (3, .inl x3), (4, .inl q.2)] → W p l e R s m args below meth c H locs cells slots Q (F0 m 54 ls []))) → W p l e R s m args below meth c H locs cells slots Q (F0 m 16 ls []) := by
  intro n
  induction n with
  | zero => intro _ q ls hl h; cases h
  | succ n ih =>
    intro x4 q ls hl h K
    rw [f_Face_isBalanced_L16] at h
    refine x_iload C0 hl 3 d_Face_isBalanced_16 rfl ?_
    refine x_iload_n C0 hl 2 d_Face_isBalanced_18 rfl rfl ?_
    refine x_icmp_ge C0 62 d_Face_isBalanced_19 (by decide) h (fun h => ?_) (fun h => ?_)
    · cases h
      exact K.1 rfl ls (x_sub hl [0, 1, 2, 3] rfl)
    · refine x_aload_n C0 hl 1 d_Face_isBalanced_22 rfl rfl ?_
      refine x_iload C0 hl 3 d_Face_isBalanced_23 rfl ?_
      refine x_aald C0 hE hH (t := 3) rfl d_Face_isBalanced_25 h (fun v_5 h => ?_)
      refine x_astore (lv' := [(5, .inr (.inl v_5)), (1, .inl x1), (2, .inr (.inl r2)), (3, .inl x3), (4, .inl x4)]) C0 hl d_Face_isBalanced_26 (by decide) rfl (fun ls hl => ?_)
      refine lv_iconst (v := 2) C0.1 C0.2.1 d_Face_isBalanced_28 (by decide) ?_
      refine x_aload C0 hl 0 d_Face_isBalanced_29 rfl ?_
      refine x_getI C0 hE hH (ci := 2) rfl i_Piece 3 (by decide) kw_2_112 d_Face_isBalanced_31 h (fun v_6 h => ?_)
      refine lv_imul C0.1 C0.2.1 d_Face_isBalanced_34 ?_
      refine x_iload_n C0 hl 1 d_Face_isBalanced_35 rfl rfl ?_
      refine x_icmp_eq C0 54 d_Face_isBalanced_36 (by decide) h (fun h => ?_) (fun h => ?_)
      · cases h
        exact K.2 rfl ls (x_sub hl [1, 2, 3, 4] rfl)
      · refine x_aload C0 hl 0 d_Face_isBalanced_39 rfl ?_
        refine x_getI C0 hE hH (ci := 2) rfl i_Piece 3 (by decide) kw_2_112 d_Face_isBalanced_41 h (fun v_7 h => ?_)
        refine x_aload C0 hl 0 d_Face_isBalanced_44 rfl ?_
        obtain ⟨b_9, e9, h⟩ := Option.bind_eq_some_iff.mp h
        obtain ⟨e8, fs9, hb9⟩ := xo_inv e9
        obtain ⟨q_8, e9, h⟩ := Option.bind_eq_some_iff.mp h
        refine x_callP (va_runV (As := []) (rest := [.int v_7]) C0 (c_Piece_end l G w _ b_9 q_8 e9) (x_cwV 0 C0 kw_2_170 kw_2_173 kw_1_12 kw_2_171 kw_2_172 (by decide +kernel) (x_rm hR1 hR2 (by decide) (by decide))) (x_preV hE hH hS (ci := 2) rfl hb9) rfl rfl hl.1 (by rw [e8]; rfl) (lv_room (by simp only [List.map_cons, List.map_nil, List.sum_cons, List.sum_nil, va_rf_cat, x_catI, x_catL, x_catA] <;> decide)) d_Face_isBalanced_46 (x_le0 hR3 hR4)) ?_
        refine lv_iadd C0.1 C0.2.1 d_Face_isBalanced_49 ?_
        refine x_iload_n C0 hl 1 d_Face_isBalanced_50 rfl rfl ?_
        refine x_icmp_ne C0 56 d_Face_isBalanced_51 (by decide) h (fun h => ?_) (fun h => ?_)
        · refine x_iinc (v := 1) (lv' := [(4, .inl (x4 + 1)), (5, .inr (.inl v_5)), (1, .inl x1), (2, .inr (.inl r2)), (3, .inl x3)]) C0 hl 4 d_Face_isBalanced_56 rfl (by decide) (by decide) rfl (fun ls hl => ?_)
          refine x_goto C0 16 d_Face_isBalanced_59 (by decide) ?_
          exact ih _ q ls (x_sub hl [2, 3, 4, 0] rfl) h K
        · cases h
          exact K.2 rfl ls (x_sub hl [1, 2, 3, 4] rfl)
def f_Face_isBalanced (w : Mp) (h0 : Nat) : Option (Int32) := (xo w (some h0) 3).bind fun b_2 => (f_Face_sizeAcross w b_2).bind fun q_1 => (gR w (some h0) 3 1).bind fun v_3 => (aL w v_3 3).bind fun v_4 => (f_Face_isBalanced_L16 w q_1 v_3 v_4 100000 (0 : Int32)).bind fun q_10 => if q_10.1 = 0 then (some (0 : Int32)) else (if q_10.1 = 1 then (some (1 : Int32)) else (none))
set_option maxHeartbeats 4000000 in
set_option maxRecDepth 100000 in
theorem c_Face_isBalanced (l : Launch) (G : Gx) (w : Mp) (sz : Nat) (h0 : Nat) (res : Int32) (hf : f_Face_isBalanced w h0 = some res) : Met l y_Face_isBalanced (xws y_Face_isBalanced b_Face_isBalanced 6 (some .boolean)) { frames := 2, cells := 0, slots := 0, locals := 49 } (xPc G vwCl xaty w sz [va_rf (some h0)]) (qP (some (.int res))) 0 0 (fun _ => False) := by
  refine Met.ofW (cc := b_Face_isBalanced) (maxL := 6) (ret := (some .boolean)) (by decide) rfl ?_
  intro p e s m args below meth c s₁ B hml hv
  obtain ⟨ha, hE, hH, hz⟩ := hv
  have C0 : CallFix p m c b_Face_isBalanced 6 s args wA R_Face := ⟨B.exec, B.bytes, hml, findClass_of_methodNamed B.named, fun w hw => atoms_spec (ws := xws y_Face_isBalanced b_Face_isBalanced 6 (some .boolean)) B.pre w (List.mem_cons_of_mem _ hw)⟩
  have hr := B.returns
  have hlocks := B.notSynchronized
  obtain ⟨R, hR⟩ : ∃ R, R = (headSpec (xws y_Face_isBalanced b_Face_isBalanced 6 (some .boolean)) { frames := 2, cells := 0, slots := 0, locals := 49 }).room := ⟨_, rfl⟩
  have hR1 : 2 ≤ R.frames := by rw [hR]; exact Nat.le_of_ble_eq_true rfl
  have hR2 : 49 ≤ R.locals := by rw [hR]; exact Nat.le_of_ble_eq_true rfl
  have hR3 : 0 ≤ R.cells := Nat.zero_le _
  have hR4 : 0 ≤ R.slots := Nat.zero_le _
  rw [← hR]
  obtain ⟨Q, hQ⟩ : ∃ Q, Q = MQ below (qP (some (.int res))) args s 0 0 (fun _ => False) := ⟨_, rfl⟩
  rw [← hQ]
  have hS : xS G s s.heap [] := va_S.rf
  obtain ⟨ls, he, hl⟩ := x_entry m [.inr (.inl (some h0))] 6 (Nat.le_of_ble_eq_true rfl)
  rw [show entryFrame m args 6 = F0 m 0 ls [] by rw [ha]; exact he]
  have hl : xL ls 6 [(0, .inr (.inl (some h0)))] := hl
  have h := hf
  unfold f_Face_isBalanced at h
  suffices hmain : ∀ (H : Heap) (locs : List Loc), xhd G vwCl w H → xS G s H locs → H.size = sz → (H = s.heap ∧ locs = []) → W p l e R s m args below meth c H locs 0 0 Q (F0 m 0 ls []) from hmain _ _ hH hS hz ⟨rfl, rfl⟩
  clear hH hS hz
  intro H locs hH hS hz hP0
  refine x_aload_n C0 hl 0 d_Face_isBalanced_0 rfl rfl ?_
  obtain ⟨b_2, e9, h⟩ := Option.bind_eq_some_iff.mp h
  obtain ⟨e8, fs9, hb9⟩ := xo_inv e9
  obtain ⟨q_1, e9, h⟩ := Option.bind_eq_some_iff.mp h
  refine x_callP (va_runV (As := []) (rest := []) C0 (c_Face_sizeAcross l G w _ b_2 q_1 e9) (x_cwV 0 C0 kw_3_39 kw_2_229 kw_1_11 kw_2_227 kw_2_228 (by decide +kernel) (x_rm hR1 hR2 (by decide) (by decide))) (x_preV hE hH hS (ci := 3) rfl hb9) rfl rfl hl.1 (by rw [e8]; rfl) (lv_room (by simp only [List.map_cons, List.map_nil, List.sum_cons, List.sum_nil, va_rf_cat, x_catI, x_catL, x_catA] <;> decide)) d_Face_isBalanced_1 (x_le0 hR3 hR4)) ?_
  refine x_istore_n (lv' := [(1, .inl q_1), (0, .inr (.inl (some h0)))]) C0 hl d_Face_isBalanced_4 rfl (by decide) rfl (fun ls hl => ?_)
  refine x_aload_n C0 hl 1 d_Face_isBalanced_5 rfl rfl ?_
  refine x_getR C0 hE hH (ci := 3) rfl i_Face 1 (by decide) kw_2_130 d_Face_isBalanced_6 h (fun v_3 h => ?_)
  refine x_astore_n (lv' := [(2, .inr (.inl v_3)), (1, .inl q_1), (0, .inr (.inl (some h0)))]) C0 hl d_Face_isBalanced_9 rfl (by decide) rfl (fun ls hl => ?_)
  refine x_aload_n C0 hl 0 d_Face_isBalanced_10 rfl rfl ?_
  refine x_alen C0 hE hH (t := 3) rfl d_Face_isBalanced_11 h (fun v_4 h => ?_)
  refine x_istore_n (lv' := [(3, .inl v_4), (2, .inr (.inl v_3)), (1, .inl q_1), (0, .inr (.inl (some h0)))]) C0 hl d_Face_isBalanced_12 rfl (by decide) rfl (fun ls hl => ?_)
  refine lv_iconst (v := 0) C0.1 C0.2.1 d_Face_isBalanced_13 (by decide) ?_
  refine x_istore (lv' := [(4, .inl (0 : Int32)), (3, .inl v_4), (2, .inr (.inl v_3)), (1, .inl q_1), (0, .inr (.inl (some h0)))]) C0 hl d_Face_isBalanced_14 (by decide) rfl (fun ls hl => ?_)
  obtain ⟨q_10, e9, h⟩ := Option.bind_eq_some_iff.mp h
  refine w_Face_isBalanced_L16 C0 hE hR1 hR2 hR3 hR4 hH hS hz 100000 _ q_10 ls (x_sub hl [3, 2, 1, 0] rfl) e9 ⟨fun z9 ls hl => ?_, fun z9 ls hl => ?_⟩
  · rw [if_pos z9] at h
    refine lv_iconst (v := 0) C0.1 C0.2.1 d_Face_isBalanced_62 (by decide) ?_
    cases h
    rw [hQ]
    exact x_zretP C0 hr hlocks hP0 rfl d_Face_isBalanced_63
  · rw [if_neg (by rw [z9]; decide), if_pos z9] at h
    refine lv_iconst (v := 1) C0.1 C0.2.1 d_Face_isBalanced_54 (by decide) ?_
    cases h
    rw [hQ]
    exact x_zretP C0 hr hlocks hP0 rfl d_Face_isBalanced_55
end
section
theorem kw_1_43 : (Jvm.Cond.fieldLink "LeafMatches$Planner" (15 : Nat) "LeafMatches$Planner" "wantedCount" "I") ∈ wA := ku_1 43 rfl rfl
theorem kw_1_51 : (Jvm.Cond.fieldLink "LeafMatches$Planner" (29 : Nat) "LeafMatches$Planner" "rowEnd" "[I") ∈ wA := ku_1 51 rfl rfl
theorem kw_1_52 : (Jvm.Cond.fieldLink "LeafMatches$Planner" (32 : Nat) "LeafMatches$Planner" "rowLoss" "[I") ∈ wA := ku_1 52 rfl rfl
theorem kw_1_53 : (Jvm.Cond.fieldLink "LeafMatches$Planner" (35 : Nat) "LeafMatches$Planner" "leastLoss" "[I") ∈ wA := ku_1 53 rfl rfl
theorem kw_1_54 : (Jvm.Cond.fieldLink "LeafMatches$Planner" (38 : Nat) "LeafMatches$Planner" "sets" "I") ∈ wA := ku_1 54 rfl rfl
theorem d_Plan_faceBegunAt_0 : decode b_Plan_faceBegunAt 0 = .ok (.iconst 0, 1) := by decide +kernel
theorem d_Plan_faceBegunAt_1 : decode b_Plan_faceBegunAt 1 = .ok (.istore_n 3, 1) := by decide +kernel
theorem d_Plan_faceBegunAt_2 : decode b_Plan_faceBegunAt 2 = .ok (.iload_n 3, 1) := by decide +kernel
theorem d_Plan_faceBegunAt_3 : decode b_Plan_faceBegunAt 3 = .ok (.aload_n 0, 1) := by decide +kernel
theorem d_Plan_faceBegunAt_4 : decode b_Plan_faceBegunAt 4 = .ok (.getfield 15, 3) := by decide +kernel
theorem d_Plan_faceBegunAt_7 : decode b_Plan_faceBegunAt 7 = .ok (.if_icmp .ge 90, 3) := by decide +kernel
theorem d_Plan_faceBegunAt_10 : decode b_Plan_faceBegunAt 10 = .ok (.iconst 1, 1) := by decide +kernel
theorem d_Plan_faceBegunAt_11 : decode b_Plan_faceBegunAt 11 = .ok (.iload_n 3, 1) := by decide +kernel
theorem d_Plan_faceBegunAt_12 : decode b_Plan_faceBegunAt 12 = .ok (.ishl, 1) := by decide +kernel
theorem d_Plan_faceBegunAt_13 : decode b_Plan_faceBegunAt 13 = .ok (.istore 4, 2) := by decide +kernel
theorem d_Plan_faceBegunAt_15 : decode b_Plan_faceBegunAt 15 = .ok (.aload_n 0, 1) := by decide +kernel
theorem d_Plan_faceBegunAt_16 : decode b_Plan_faceBegunAt 16 = .ok (.getfield 29, 3) := by decide +kernel
theorem d_Plan_faceBegunAt_19 : decode b_Plan_faceBegunAt 19 = .ok (.iload_n 1, 1) := by decide +kernel
theorem d_Plan_faceBegunAt_20 : decode b_Plan_faceBegunAt 20 = .ok (.bipush 8, 2) := by decide +kernel
theorem d_Plan_faceBegunAt_22 : decode b_Plan_faceBegunAt 22 = .ok (.imul, 1) := by decide +kernel
theorem d_Plan_faceBegunAt_23 : decode b_Plan_faceBegunAt 23 = .ok (.iload_n 3, 1) := by decide +kernel
theorem d_Plan_faceBegunAt_24 : decode b_Plan_faceBegunAt 24 = .ok (.iadd, 1) := by decide +kernel
theorem d_Plan_faceBegunAt_25 : decode b_Plan_faceBegunAt 25 = .ok (.iaload, 1) := by decide +kernel
theorem d_Plan_faceBegunAt_26 : decode b_Plan_faceBegunAt 26 = .ok (.istore 5, 2) := by decide +kernel
theorem d_Plan_faceBegunAt_28 : decode b_Plan_faceBegunAt 28 = .ok (.aload_n 0, 1) := by decide +kernel
theorem d_Plan_faceBegunAt_29 : decode b_Plan_faceBegunAt 29 = .ok (.getfield 32, 3) := by decide +kernel
theorem d_Plan_faceBegunAt_32 : decode b_Plan_faceBegunAt 32 = .ok (.iload_n 1, 1) := by decide +kernel
theorem d_Plan_faceBegunAt_33 : decode b_Plan_faceBegunAt 33 = .ok (.bipush 8, 2) := by decide +kernel
theorem d_Plan_faceBegunAt_35 : decode b_Plan_faceBegunAt 35 = .ok (.imul, 1) := by decide +kernel
theorem d_Plan_faceBegunAt_36 : decode b_Plan_faceBegunAt 36 = .ok (.iload_n 3, 1) := by decide +kernel
theorem d_Plan_faceBegunAt_37 : decode b_Plan_faceBegunAt 37 = .ok (.iadd, 1) := by decide +kernel
theorem d_Plan_faceBegunAt_38 : decode b_Plan_faceBegunAt 38 = .ok (.iaload, 1) := by decide +kernel
theorem d_Plan_faceBegunAt_39 : decode b_Plan_faceBegunAt 39 = .ok (.istore 6, 2) := by decide +kernel
theorem d_Plan_faceBegunAt_41 : decode b_Plan_faceBegunAt 41 = .ok (.iload_n 2, 1) := by decide +kernel
theorem d_Plan_faceBegunAt_42 : decode b_Plan_faceBegunAt 42 = .ok (.iload 4, 2) := by decide +kernel
theorem d_Plan_faceBegunAt_44 : decode b_Plan_faceBegunAt 44 = .ok (.iand, 1) := by decide +kernel
theorem d_Plan_faceBegunAt_45 : decode b_Plan_faceBegunAt 45 = .ok (.ifCond .ne 46, 3) := by decide +kernel
theorem d_Plan_faceBegunAt_48 : decode b_Plan_faceBegunAt 48 = .ok (.iload 5, 2) := by decide +kernel
theorem d_Plan_faceBegunAt_50 : decode b_Plan_faceBegunAt 50 = .ok (.ifCond .eq 41, 3) := by decide +kernel
theorem d_Plan_faceBegunAt_53 : decode b_Plan_faceBegunAt 53 = .ok (.iload 6, 2) := by decide +kernel
theorem d_Plan_faceBegunAt_55 : decode b_Plan_faceBegunAt 55 = .ok (.aload_n 0, 1) := by decide +kernel
theorem d_Plan_faceBegunAt_56 : decode b_Plan_faceBegunAt 56 = .ok (.getfield 35, 3) := by decide +kernel
theorem d_Plan_faceBegunAt_59 : decode b_Plan_faceBegunAt 59 = .ok (.iload 5, 2) := by decide +kernel
theorem d_Plan_faceBegunAt_61 : decode b_Plan_faceBegunAt 61 = .ok (.aload_n 0, 1) := by decide +kernel
theorem d_Plan_faceBegunAt_62 : decode b_Plan_faceBegunAt 62 = .ok (.getfield 38, 3) := by decide +kernel
theorem d_Plan_faceBegunAt_65 : decode b_Plan_faceBegunAt 65 = .ok (.imul, 1) := by decide +kernel
theorem d_Plan_faceBegunAt_66 : decode b_Plan_faceBegunAt 66 = .ok (.iload_n 2, 1) := by decide +kernel
theorem d_Plan_faceBegunAt_67 : decode b_Plan_faceBegunAt 67 = .ok (.iload 4, 2) := by decide +kernel
theorem d_Plan_faceBegunAt_69 : decode b_Plan_faceBegunAt 69 = .ok (.ior, 1) := by decide +kernel
theorem d_Plan_faceBegunAt_70 : decode b_Plan_faceBegunAt 70 = .ok (.iadd, 1) := by decide +kernel
theorem d_Plan_faceBegunAt_71 : decode b_Plan_faceBegunAt 71 = .ok (.iaload, 1) := by decide +kernel
theorem d_Plan_faceBegunAt_72 : decode b_Plan_faceBegunAt 72 = .ok (.iadd, 1) := by decide +kernel
theorem d_Plan_faceBegunAt_73 : decode b_Plan_faceBegunAt 73 = .ok (.aload_n 0, 1) := by decide +kernel
theorem d_Plan_faceBegunAt_74 : decode b_Plan_faceBegunAt 74 = .ok (.getfield 35, 3) := by decide +kernel
theorem d_Plan_faceBegunAt_77 : decode b_Plan_faceBegunAt 77 = .ok (.iload_n 1, 1) := by decide +kernel
theorem d_Plan_faceBegunAt_78 : decode b_Plan_faceBegunAt 78 = .ok (.aload_n 0, 1) := by decide +kernel
theorem d_Plan_faceBegunAt_79 : decode b_Plan_faceBegunAt 79 = .ok (.getfield 38, 3) := by decide +kernel
theorem d_Plan_faceBegunAt_82 : decode b_Plan_faceBegunAt 82 = .ok (.imul, 1) := by decide +kernel
theorem d_Plan_faceBegunAt_83 : decode b_Plan_faceBegunAt 83 = .ok (.iload_n 2, 1) := by decide +kernel
theorem d_Plan_faceBegunAt_84 : decode b_Plan_faceBegunAt 84 = .ok (.iadd, 1) := by decide +kernel
theorem d_Plan_faceBegunAt_85 : decode b_Plan_faceBegunAt 85 = .ok (.iaload, 1) := by decide +kernel
theorem d_Plan_faceBegunAt_86 : decode b_Plan_faceBegunAt 86 = .ok (.if_icmp .ne 5, 3) := by decide +kernel
theorem d_Plan_faceBegunAt_89 : decode b_Plan_faceBegunAt 89 = .ok (.iload_n 3, 1) := by decide +kernel
theorem d_Plan_faceBegunAt_90 : decode b_Plan_faceBegunAt 90 = .ok (.ireturn, 1) := by decide +kernel
theorem d_Plan_faceBegunAt_91 : decode b_Plan_faceBegunAt 91 = .ok (.iinc 3 1, 3) := by decide +kernel
theorem d_Plan_faceBegunAt_94 : decode b_Plan_faceBegunAt 94 = .ok (.goto (-92), 3) := by decide +kernel
theorem d_Plan_faceBegunAt_97 : decode b_Plan_faceBegunAt 97 = .ok (.iconst (-1), 1) := by decide +kernel
theorem d_Plan_faceBegunAt_98 : decode b_Plan_faceBegunAt 98 = .ok (.ireturn, 1) := by decide +kernel
def f_Plan_faceBegunAt_L2 (w : Mp) (h0 : Nat) (x1 : Int32) (x2 : Int32) : Nat → Int32 → Option (Nat × Int32)
  | 0, _ => none
  | n + 1, x3 => (gI w (some h0) 4 1).bind fun v_1 => if v_1 ≤ x3 then (some (0, x3)) else ((gR w (some h0) 4 5).bind fun v_2 => (aI w v_2 0 ((x1 * (8 : Int32)) + x3)).bind fun v_3 => (gR w (some h0) 4 6).bind fun v_4 => (aI w v_4 0 ((x1 * (8 : Int32)) + x3)).bind fun v_5 => if (x2 &&& ((1 : Int32) <<< (x3 &&& 31))) = 0 then (if v_3 = 0 then (f_Plan_faceBegunAt_L2 w h0 x1 x2 n (x3 + 1)) else ((gR w (some h0) 4 7).bind fun v_6 => (gI w (some h0) 4 8).bind fun v_7 => (aI w v_6 0 ((v_3 * v_7) + (x2 ||| ((1 : Int32) <<< (x3 &&& 31))))).bind fun v_8 => (gR w (some h0) 4 7).bind fun v_9 => (gI w (some h0) 4 8).bind fun v_10 => (aI w v_9 0 ((x1 * v_10) + x2)).bind fun v_11 => if (v_5 + v_8) = v_11 then (some (1, x3)) else (f_Plan_faceBegunAt_L2 w h0 x1 x2 n (x3 + 1)))) else (f_Plan_faceBegunAt_L2 w h0 x1 x2 n (x3 + 1)))
set_option maxHeartbeats 4000000 in
set_option maxRecDepth 100000 in
theorem w_Plan_faceBegunAt_L2 {p : Program} {l : Launch} {e : Env} {R : Room} {s : State} {m : MethodId} {args : Array Value} {below : List Frame} {meth : Method} {c : Code} {Q : State → Prop} {cells slots sz : Nat} {G : Gx} {h0 : Nat} {x1 : Int32} {x2 : Int32} (C0 : CallFix p m c b_Plan_faceBegunAt 7 s args wA R_Plan) (hE : xE G vwCl xaty s) (hR1 : 0 ≤ R.frames) (hR2 : 0 ≤ R.locals) (hR3 : cells ≤ R.cells) (hR4 : slots ≤ R.slots) {w : Mp} {H : Heap} {locs : List Loc} (hH : xhd G vwCl w H) (hS : xS G s H locs) (hz : H.size = sz) : ∀ (n : Nat) (x3 : Int32) (q : Nat × Int32) (ls : Array Slot), xL ls 7 [(0, .inr (.inl (some h0))), (1, .inl x1), (2, .inl x2), (3, .inl x3)] → f_Plan_faceBegunAt_L2 w h0 x1 x2 n x3 = some q → ((q.1 = 0 → ∀ (ls : Array Slot), xL ls 7 [(0, .inr (.inl (some h0))), (1, .inl x1), (2, .inl x2), (3, .inl q.2)] → W p l e R s m args below meth c H locs cells slots Q (F0 m 97 ls [])) ∧ (q.1 = 1 → ∀ (ls : Array Slot), xL ls 7 [(0, .inr (.inl (some h0))), (1, .inl x1), (2, .inl x2), (3, .inl q.2)] → W p l e R s m args below meth c H locs cells slots Q (F0 m 89 ls []))) → W p l e R s m args below meth c H locs cells slots Q (F0 m 2 ls []) := by
  intro n
  induction n with
  | zero => intro _ q ls hl h; cases h
  | succ n ih =>
    intro x3 q ls hl h K
    rw [f_Plan_faceBegunAt_L2] at h
    refine x_iload_n C0 hl 3 d_Plan_faceBegunAt_2 rfl rfl ?_
    refine x_aload_n C0 hl 0 d_Plan_faceBegunAt_3 rfl rfl ?_
    refine x_getI C0 hE hH (ci := 4) rfl i_Plan 1 (by decide) kw_1_43 d_Plan_faceBegunAt_4 h (fun v_1 h => ?_)
    refine x_icmp_ge C0 97 d_Plan_faceBegunAt_7 (by decide) h (fun h => ?_) (fun h => ?_)
    · cases h
      exact K.1 rfl ls (x_sub hl [0, 1, 2, 3] rfl)
    · refine lv_iconst (v := 1) C0.1 C0.2.1 d_Plan_faceBegunAt_10 (by decide) ?_
      refine x_iload_n C0 hl 3 d_Plan_faceBegunAt_11 rfl rfl ?_
      refine lv_ishl C0.1 C0.2.1 d_Plan_faceBegunAt_12 ?_
      refine x_istore (lv' := [(4, .inl ((1 : Int32) <<< (x3 &&& 31))), (0, .inr (.inl (some h0))), (1, .inl x1), (2, .inl x2), (3, .inl x3)]) C0 hl d_Plan_faceBegunAt_13 (by decide) rfl (fun ls hl => ?_)
      refine x_aload_n C0 hl 1 d_Plan_faceBegunAt_15 rfl rfl ?_
      refine x_getR C0 hE hH (ci := 4) rfl i_Plan 5 (by decide) kw_1_51 d_Plan_faceBegunAt_16 h (fun v_2 h => ?_)
      refine x_iload_n C0 hl 2 d_Plan_faceBegunAt_19 rfl rfl ?_
      refine lv_bipush (v := 8) C0.1 C0.2.1 d_Plan_faceBegunAt_20 (by decide) ?_
      refine lv_imul C0.1 C0.2.1 d_Plan_faceBegunAt_22 ?_
      refine x_iload_n C0 hl 4 d_Plan_faceBegunAt_23 rfl rfl ?_
      refine lv_iadd C0.1 C0.2.1 d_Plan_faceBegunAt_24 ?_
      refine x_iald C0 hE hH (t := 0) rfl d_Plan_faceBegunAt_25 h (fun v_3 h => ?_)
      refine x_istore (lv' := [(5, .inl v_3), (4, .inl ((1 : Int32) <<< (x3 &&& 31))), (0, .inr (.inl (some h0))), (1, .inl x1), (2, .inl x2), (3, .inl x3)]) C0 hl d_Plan_faceBegunAt_26 (by decide) rfl (fun ls hl => ?_)
      refine x_aload_n C0 hl 2 d_Plan_faceBegunAt_28 rfl rfl ?_
      refine x_getR C0 hE hH (ci := 4) rfl i_Plan 6 (by decide) kw_1_52 d_Plan_faceBegunAt_29 h (fun v_4 h => ?_)
      refine x_iload_n C0 hl 3 d_Plan_faceBegunAt_32 rfl rfl ?_
      refine lv_bipush (v := 8) C0.1 C0.2.1 d_Plan_faceBegunAt_33 (by decide) ?_
      refine lv_imul C0.1 C0.2.1 d_Plan_faceBegunAt_35 ?_
      refine x_iload_n C0 hl 5 d_Plan_faceBegunAt_36 rfl rfl ?_
      refine lv_iadd C0.1 C0.2.1 d_Plan_faceBegunAt_37 ?_
      refine x_iald C0 hE hH (t := 0) rfl d_Plan_faceBegunAt_38 h (fun v_5 h => ?_)
      refine x_istore (lv' := [(6, .inl v_5), (5, .inl v_3), (4, .inl ((1 : Int32) <<< (x3 &&& 31))), (0, .inr (.inl (some h0))), (1, .inl x1), (2, .inl x2), (3, .inl x3)]) C0 hl d_Plan_faceBegunAt_39 (by decide) rfl (fun ls hl => ?_)
      refine x_iload_n C0 hl 5 d_Plan_faceBegunAt_41 rfl rfl ?_
      refine x_iload C0 hl 2 d_Plan_faceBegunAt_42 rfl ?_
      refine lv_iand C0.1 C0.2.1 d_Plan_faceBegunAt_44 ?_
      refine x_if_ne C0 91 d_Plan_faceBegunAt_45 (by decide) h (fun h => ?_) (fun h => ?_)
      · refine x_iinc (v := 1) (lv' := [(3, .inl (x3 + 1)), (6, .inl v_5), (5, .inl v_3), (4, .inl ((1 : Int32) <<< (x3 &&& 31))), (0, .inr (.inl (some h0))), (1, .inl x1), (2, .inl x2)]) C0 hl 6 d_Plan_faceBegunAt_91 rfl (by decide) (by decide) rfl (fun ls hl => ?_)
        refine x_goto C0 2 d_Plan_faceBegunAt_94 (by decide) ?_
        exact ih _ q ls (x_sub hl [4, 5, 6, 0] rfl) h K
      · refine x_iload C0 hl 1 d_Plan_faceBegunAt_48 rfl ?_
        refine x_if_eq C0 91 d_Plan_faceBegunAt_50 (by decide) h (fun h => ?_) (fun h => ?_)
        · refine x_iinc (v := 1) (lv' := [(3, .inl (x3 + 1)), (6, .inl v_5), (5, .inl v_3), (4, .inl ((1 : Int32) <<< (x3 &&& 31))), (0, .inr (.inl (some h0))), (1, .inl x1), (2, .inl x2)]) C0 hl 6 d_Plan_faceBegunAt_91 rfl (by decide) (by decide) rfl (fun ls hl => ?_)
          refine x_goto C0 2 d_Plan_faceBegunAt_94 (by decide) ?_
          exact ih _ q ls (x_sub hl [4, 5, 6, 0] rfl) h K
        · refine x_iload C0 hl 0 d_Plan_faceBegunAt_53 rfl ?_
          refine x_aload_n C0 hl 3 d_Plan_faceBegunAt_55 rfl rfl ?_
          refine x_getR C0 hE hH (ci := 4) rfl i_Plan 7 (by decide) kw_1_53 d_Plan_faceBegunAt_56 h (fun v_6 h => ?_)
          refine x_iload C0 hl 1 d_Plan_faceBegunAt_59 rfl ?_
          refine x_aload_n C0 hl 3 d_Plan_faceBegunAt_61 rfl rfl ?_
          refine x_getI C0 hE hH (ci := 4) rfl i_Plan 8 (by decide) kw_1_54 d_Plan_faceBegunAt_62 h (fun v_7 h => ?_)
          refine lv_imul C0.1 C0.2.1 d_Plan_faceBegunAt_65 ?_
          refine x_iload_n C0 hl 5 d_Plan_faceBegunAt_66 rfl rfl ?_
          refine x_iload C0 hl 2 d_Plan_faceBegunAt_67 rfl ?_
          refine lv_ior C0.1 C0.2.1 d_Plan_faceBegunAt_69 ?_
          refine lv_iadd C0.1 C0.2.1 d_Plan_faceBegunAt_70 ?_
          refine x_iald C0 hE hH (t := 0) rfl d_Plan_faceBegunAt_71 h (fun v_8 h => ?_)
          refine lv_iadd C0.1 C0.2.1 d_Plan_faceBegunAt_72 ?_
          refine x_aload_n C0 hl 3 d_Plan_faceBegunAt_73 rfl rfl ?_
          refine x_getR C0 hE hH (ci := 4) rfl i_Plan 7 (by decide) kw_1_53 d_Plan_faceBegunAt_74 h (fun v_9 h => ?_)
          refine x_iload_n C0 hl 4 d_Plan_faceBegunAt_77 rfl rfl ?_
          refine x_aload_n C0 hl 3 d_Plan_faceBegunAt_78 rfl rfl ?_
          refine x_getI C0 hE hH (ci := 4) rfl i_Plan 8 (by decide) kw_1_54 d_Plan_faceBegunAt_79 h (fun v_10 h => ?_)
          refine lv_imul C0.1 C0.2.1 d_Plan_faceBegunAt_82 ?_
          refine x_iload_n C0 hl 5 d_Plan_faceBegunAt_83 rfl rfl ?_
          refine lv_iadd C0.1 C0.2.1 d_Plan_faceBegunAt_84 ?_
          refine x_iald C0 hE hH (t := 0) rfl d_Plan_faceBegunAt_85 h (fun v_11 h => ?_)
          refine x_icmp_ne C0 91 d_Plan_faceBegunAt_86 (by decide) h (fun h => ?_) (fun h => ?_)
          · refine x_iinc (v := 1) (lv' := [(3, .inl (x3 + 1)), (6, .inl v_5), (5, .inl v_3), (4, .inl ((1 : Int32) <<< (x3 &&& 31))), (0, .inr (.inl (some h0))), (1, .inl x1), (2, .inl x2)]) C0 hl 6 d_Plan_faceBegunAt_91 rfl (by decide) (by decide) rfl (fun ls hl => ?_)
            refine x_goto C0 2 d_Plan_faceBegunAt_94 (by decide) ?_
            exact ih _ q ls (x_sub hl [4, 5, 6, 0] rfl) h K
          · cases h
            exact K.2 rfl ls (x_sub hl [3, 4, 5, 6] rfl)
def f_Plan_faceBegunAt (w : Mp) (h0 : Nat) (x1 : Int32) (x2 : Int32) : Option (Int32) := (f_Plan_faceBegunAt_L2 w h0 x1 x2 100000 (0 : Int32)).bind fun q_12 => if q_12.1 = 0 then (some (-1 : Int32)) else (if q_12.1 = 1 then (some q_12.2) else (none))
set_option maxHeartbeats 4000000 in
set_option maxRecDepth 100000 in
theorem c_Plan_faceBegunAt (l : Launch) (G : Gx) (w : Mp) (sz : Nat) (h0 : Nat) (x1 : Int32) (x2 : Int32) (res : Int32) (hf : f_Plan_faceBegunAt w h0 x1 x2 = some res) : Met l y_Plan_faceBegunAt (xws y_Plan_faceBegunAt b_Plan_faceBegunAt 7 (some .int)) { frames := 0, cells := 0, slots := 0, locals := 0 } (xPc G vwCl xaty w sz [va_rf (some h0), .int x1, .int x2]) (qP (some (.int res))) 0 0 (fun _ => False) := by
  refine Met.ofW (cc := b_Plan_faceBegunAt) (maxL := 7) (ret := (some .int)) (by decide) rfl ?_
  intro p e s m args below meth c s₁ B hml hv
  obtain ⟨ha, hE, hH, hz⟩ := hv
  have C0 : CallFix p m c b_Plan_faceBegunAt 7 s args wA R_Plan := ⟨B.exec, B.bytes, hml, findClass_of_methodNamed B.named, fun w hw => atoms_spec (ws := xws y_Plan_faceBegunAt b_Plan_faceBegunAt 7 (some .int)) B.pre w (List.mem_cons_of_mem _ hw)⟩
  have hr := B.returns
  have hlocks := B.notSynchronized
  obtain ⟨R, hR⟩ : ∃ R, R = (headSpec (xws y_Plan_faceBegunAt b_Plan_faceBegunAt 7 (some .int)) { frames := 0, cells := 0, slots := 0, locals := 0 }).room := ⟨_, rfl⟩
  have hR1 : 0 ≤ R.frames := by rw [hR]; exact Nat.le_of_ble_eq_true rfl
  have hR2 : 0 ≤ R.locals := by rw [hR]; exact Nat.le_of_ble_eq_true rfl
  have hR3 : 0 ≤ R.cells := Nat.zero_le _
  have hR4 : 0 ≤ R.slots := Nat.zero_le _
  rw [← hR]
  obtain ⟨Q, hQ⟩ : ∃ Q, Q = MQ below (qP (some (.int res))) args s 0 0 (fun _ => False) := ⟨_, rfl⟩
  rw [← hQ]
  have hS : xS G s s.heap [] := va_S.rf
  obtain ⟨ls, he, hl⟩ := x_entry m [.inr (.inl (some h0)), .inl x1, .inl x2] 7 (Nat.le_of_ble_eq_true rfl)
  rw [show entryFrame m args 7 = F0 m 0 ls [] by rw [ha]; exact he]
  have hl : xL ls 7 [(0, .inr (.inl (some h0))), (1, .inl x1), (2, .inl x2)] := hl
  have h := hf
  unfold f_Plan_faceBegunAt at h
  suffices hmain : ∀ (H : Heap) (locs : List Loc), xhd G vwCl w H → xS G s H locs → H.size = sz → (H = s.heap ∧ locs = []) → W p l e R s m args below meth c H locs 0 0 Q (F0 m 0 ls []) from hmain _ _ hH hS hz ⟨rfl, rfl⟩
  clear hH hS hz
  intro H locs hH hS hz hP0
  refine lv_iconst (v := 0) C0.1 C0.2.1 d_Plan_faceBegunAt_0 (by decide) ?_
  refine x_istore_n (lv' := [(3, .inl (0 : Int32)), (0, .inr (.inl (some h0))), (1, .inl x1), (2, .inl x2)]) C0 hl d_Plan_faceBegunAt_1 rfl (by decide) rfl (fun ls hl => ?_)
  obtain ⟨q_12, e9, h⟩ := Option.bind_eq_some_iff.mp h
  refine w_Plan_faceBegunAt_L2 C0 hE hR1 hR2 hR3 hR4 hH hS hz 100000 _ q_12 ls (x_sub hl [1, 2, 3, 0] rfl) e9 ⟨fun z9 ls hl => ?_, fun z9 ls hl => ?_⟩
  · rw [if_pos z9] at h
    refine lv_iconst (v := -1) C0.1 C0.2.1 d_Plan_faceBegunAt_97 (by decide) ?_
    cases h
    rw [hQ]
    exact x_iretP C0 hr hlocks hP0 d_Plan_faceBegunAt_98
  · rw [if_neg (by rw [z9]; decide), if_pos z9] at h
    refine x_iload_n C0 hl 3 d_Plan_faceBegunAt_89 rfl rfl ?_
    cases h
    rw [hQ]
    exact x_iretP C0 hr hlocks hP0 d_Plan_faceBegunAt_90
end
section
theorem kw_0_18 : (Jvm.Cond.selects "LeafMatchesModel" ({ cls := "LeafMatchesModel", name := "isMirrored", desc := "(II)Z" } : Jvm.MethodName) ({ cls := "LeafMatchesModel", name := "isMirrored", desc := "(II)Z" } : Jvm.MethodName)) ∈ wA := ku_0 18 rfl rfl
theorem kw_0_19 : (Jvm.Cond.selects "LeafMatchesModel" ({ cls := "LeafMatchesModel", name := "isTurned", desc := "(II)Z" } : Jvm.MethodName) ({ cls := "LeafMatchesModel", name := "isTurned", desc := "(II)Z" } : Jvm.MethodName)) ∈ wA := ku_0 19 rfl rfl
theorem kw_0_20 : (Jvm.Cond.selects "LeafMatchesModel" ({ cls := "LeafMatchesModel", name := "across", desc := "(II)I" } : Jvm.MethodName) ({ cls := "LeafMatchesModel", name := "across", desc := "(II)I" } : Jvm.MethodName)) ∈ wA := ku_0 20 rfl rfl
theorem kw_0_21 : (Jvm.Cond.selects "LeafMatchesModel" ({ cls := "LeafMatchesModel", name := "wide", desc := "(II)I" } : Jvm.MethodName) ({ cls := "LeafMatchesModel", name := "wide", desc := "(II)I" } : Jvm.MethodName)) ∈ wA := ku_0 21 rfl rfl
theorem kw_0_22 : (Jvm.Cond.selects "LeafMatchesModel" ({ cls := "LeafMatchesModel", name := "topOf", desc := "(II)I" } : Jvm.MethodName) ({ cls := "LeafMatchesModel", name := "topOf", desc := "(II)I" } : Jvm.MethodName)) ∈ wA := ku_0 22 rfl rfl
theorem kw_0_23 : (Jvm.Cond.selects "LeafMatchesModel" ({ cls := "LeafMatchesModel", name := "high", desc := "(II)I" } : Jvm.MethodName) ({ cls := "LeafMatchesModel", name := "high", desc := "(II)I" } : Jvm.MethodName)) ∈ wA := ku_0 23 rfl rfl
theorem kw_0_24 : (Jvm.Cond.selects "LeafMatchesModel" ({ cls := "LeafMatchesModel", name := "shiftOf", desc := "(II)I" } : Jvm.MethodName) ({ cls := "LeafMatchesModel", name := "shiftOf", desc := "(II)I" } : Jvm.MethodName)) ∈ wA := ku_0 24 rfl rfl
theorem kw_0_25 : (Jvm.Cond.selects "LeafMatchesModel" ({ cls := "LeafMatchesModel", name := "sumAt", desc := "(III)I" } : Jvm.MethodName) ({ cls := "LeafMatchesModel", name := "sumAt", desc := "(III)I" } : Jvm.MethodName)) ∈ wA := ku_0 25 rfl rfl
theorem kw_0_26 : (Jvm.Cond.selects "LeafMatchesModel" ({ cls := "LeafMatchesModel", name := "leftOf", desc := "(II)I" } : Jvm.MethodName) ({ cls := "LeafMatchesModel", name := "leftOf", desc := "(II)I" } : Jvm.MethodName)) ∈ wA := ku_0 26 rfl rfl
theorem kw_0_27 : (Jvm.Cond.selects "LeafMatchesModel" ({ cls := "LeafMatchesModel", name := "grey", desc := "(IIII)I" } : Jvm.MethodName) ({ cls := "LeafMatchesModel", name := "grey", desc := "(IIII)I" } : Jvm.MethodName)) ∈ wA := ku_0 27 rfl rfl
theorem kw_0_34 : (Jvm.Cond.selects "LeafMatchesModel" ({ cls := "LeafMatchesModel", name := "manyFrom", desc := "(II)I" } : Jvm.MethodName) ({ cls := "LeafMatchesModel", name := "manyFrom", desc := "(II)I" } : Jvm.MethodName)) ∈ wA := ku_0 34 rfl rfl
theorem kw_0_35 : (Jvm.Cond.selects "LeafMatchesModel" ({ cls := "LeafMatchesModel", name := "lossFrom", desc := "(III)I" } : Jvm.MethodName) ({ cls := "LeafMatchesModel", name := "lossFrom", desc := "(III)I" } : Jvm.MethodName)) ∈ wA := ku_0 35 rfl rfl
theorem kw_1_3 : (Jvm.Cond.initialized "LeafMatchesModel") ∈ wA := ku_1 3 rfl rfl
theorem kw_4_79 : (Jvm.Cond.fieldLink "LeafMatchesModel" (59 : Nat) "LeafMatchesModel" "code" "I") ∈ wA := ku_4 79 rfl rfl
theorem kw_4_82 : (Jvm.Cond.fieldLink "LeafMatchesModel" (13 : Nat) "LeafMatchesModel" "numbers" "[I") ∈ wA := ku_4 82 rfl rfl
theorem kw_4_83 : (Jvm.Cond.fieldLink "LeafMatchesModel" (16 : Nat) "LeafMatchesModel" "wides" "[I") ∈ wA := ku_4 83 rfl rfl
theorem kw_4_84 : (Jvm.Cond.fieldLink "LeafMatchesModel" (19 : Nat) "LeafMatchesModel" "highs" "[I") ∈ wA := ku_4 84 rfl rfl
theorem kw_4_87 : (Jvm.Cond.fieldLink "LeafMatchesModel" (29 : Nat) "LeafMatchesModel" "greys" "[I") ∈ wA := ku_4 87 rfl rfl
theorem kw_4_89 : (Jvm.Cond.fieldLink "LeafMatchesModel" (32 : Nat) "LeafMatchesModel" "kinds" "[I") ∈ wA := ku_4 89 rfl rfl
theorem kw_4_90 : (Jvm.Cond.fieldLink "LeafMatchesModel" (35 : Nat) "LeafMatchesModel" "sizes" "[I") ∈ wA := ku_4 90 rfl rfl
theorem kw_4_91 : (Jvm.Cond.fieldLink "LeafMatchesModel" (38 : Nat) "LeafMatchesModel" "pieces" "[I") ∈ wA := ku_4 91 rfl rfl
theorem kw_4_93 : (Jvm.Cond.fieldLink "LeafMatchesModel" (41 : Nat) "LeafMatchesModel" "wanted" "[I") ∈ wA := ku_4 93 rfl rfl
theorem kw_4_97 : (Jvm.Cond.fieldLink "LeafMatchesModel" (74 : Nat) "LeafMatchesModel" "rowSize" "I") ∈ wA := ku_4 97 rfl rfl
theorem kw_4_98 : (Jvm.Cond.fieldLink "LeafMatchesModel" (50 : Nat) "LeafMatchesModel" "row" "[I") ∈ wA := ku_4 98 rfl rfl
theorem kw_4_99 : (Jvm.Cond.fieldLink "LeafMatchesModel" (53 : Nat) "LeafMatchesModel" "least" "[I") ∈ wA := ku_4 99 rfl rfl
theorem kw_4_190 : (Jvm.Cond.methodLink "LeafMatchesModel" (88 : Nat) ({ cls := "LeafMatchesModel", name := "isMirrored", desc := "(II)Z" } : Jvm.MethodName)) ∈ wA := ku_4 190 rfl rfl
theorem kw_4_192 : (Jvm.Cond.instanceMethod ({ cls := "LeafMatchesModel", name := "isMirrored", desc := "(II)Z" } : Jvm.MethodName)) ∈ wA := ku_4 192 rfl rfl
theorem kw_4_193 : (Jvm.Cond.code ({ cls := "LeafMatchesModel", name := "isMirrored", desc := "(II)Z" } : Jvm.MethodName) prog_7_method_11_code (3 : Nat) (Option.some Jvm.ClassFile.FieldType.boolean)) ∈ wA := ku_4 193 rfl rfl
theorem kw_4_194 : (Jvm.Cond.methodLink "LeafMatchesModel" (92 : Nat) ({ cls := "LeafMatchesModel", name := "isTurned", desc := "(II)Z" } : Jvm.MethodName)) ∈ wA := ku_4 194 rfl rfl
theorem kw_4_196 : (Jvm.Cond.instanceMethod ({ cls := "LeafMatchesModel", name := "isTurned", desc := "(II)Z" } : Jvm.MethodName)) ∈ wA := ku_4 196 rfl rfl
theorem kw_4_197 : (Jvm.Cond.code ({ cls := "LeafMatchesModel", name := "isTurned", desc := "(II)Z" } : Jvm.MethodName) prog_7_method_12_code (3 : Nat) (Option.some Jvm.ClassFile.FieldType.boolean)) ∈ wA := ku_4 197 rfl rfl
theorem kw_4_198 : (Jvm.Cond.methodLink "LeafMatchesModel" (122 : Nat) ({ cls := "LeafMatchesModel", name := "across", desc := "(II)I" } : Jvm.MethodName)) ∈ wA := ku_4 198 rfl rfl
theorem kw_4_200 : (Jvm.Cond.instanceMethod ({ cls := "LeafMatchesModel", name := "across", desc := "(II)I" } : Jvm.MethodName)) ∈ wA := ku_4 200 rfl rfl
theorem kw_4_201 : (Jvm.Cond.code ({ cls := "LeafMatchesModel", name := "across", desc := "(II)I" } : Jvm.MethodName) prog_7_method_20_code (5 : Nat) (Option.some Jvm.ClassFile.FieldType.int)) ∈ wA := ku_4 201 rfl rfl
theorem kw_4_202 : (Jvm.Cond.methodLink "LeafMatchesModel" (102 : Nat) ({ cls := "LeafMatchesModel", name := "wide", desc := "(II)I" } : Jvm.MethodName)) ∈ wA := ku_4 202 rfl rfl
theorem kw_4_204 : (Jvm.Cond.instanceMethod ({ cls := "LeafMatchesModel", name := "wide", desc := "(II)I" } : Jvm.MethodName)) ∈ wA := ku_4 204 rfl rfl
theorem kw_4_205 : (Jvm.Cond.code ({ cls := "LeafMatchesModel", name := "wide", desc := "(II)I" } : Jvm.MethodName) prog_7_method_14_code (3 : Nat) (Option.some Jvm.ClassFile.FieldType.int)) ∈ wA := ku_4 205 rfl rfl
theorem kw_4_206 : (Jvm.Cond.methodLink "LeafMatchesModel" (116 : Nat) ({ cls := "LeafMatchesModel", name := "topOf", desc := "(II)I" } : Jvm.MethodName)) ∈ wA := ku_4 206 rfl rfl
theorem kw_4_208 : (Jvm.Cond.instanceMethod ({ cls := "LeafMatchesModel", name := "topOf", desc := "(II)I" } : Jvm.MethodName)) ∈ wA := ku_4 208 rfl rfl
theorem kw_4_209 : (Jvm.Cond.code ({ cls := "LeafMatchesModel", name := "topOf", desc := "(II)I" } : Jvm.MethodName) prog_7_method_21_code (5 : Nat) (Option.some Jvm.ClassFile.FieldType.int)) ∈ wA := ku_4 209 rfl rfl
theorem kw_4_210 : (Jvm.Cond.methodLink "LeafMatchesModel" (99 : Nat) ({ cls := "LeafMatchesModel", name := "high", desc := "(II)I" } : Jvm.MethodName)) ∈ wA := ku_4 210 rfl rfl
theorem kw_4_212 : (Jvm.Cond.instanceMethod ({ cls := "LeafMatchesModel", name := "high", desc := "(II)I" } : Jvm.MethodName)) ∈ wA := ku_4 212 rfl rfl
theorem kw_4_213 : (Jvm.Cond.code ({ cls := "LeafMatchesModel", name := "high", desc := "(II)I" } : Jvm.MethodName) prog_7_method_15_code (3 : Nat) (Option.some Jvm.ClassFile.FieldType.int)) ∈ wA := ku_4 213 rfl rfl
theorem kw_4_214 : (Jvm.Cond.methodLink "LeafMatchesModel" (113 : Nat) ({ cls := "LeafMatchesModel", name := "shiftOf", desc := "(II)I" } : Jvm.MethodName)) ∈ wA := ku_4 214 rfl rfl
theorem kw_4_216 : (Jvm.Cond.instanceMethod ({ cls := "LeafMatchesModel", name := "shiftOf", desc := "(II)I" } : Jvm.MethodName)) ∈ wA := ku_4 216 rfl rfl
theorem kw_4_217 : (Jvm.Cond.code ({ cls := "LeafMatchesModel", name := "shiftOf", desc := "(II)I" } : Jvm.MethodName) prog_7_method_19_code (9 : Nat) (Option.some Jvm.ClassFile.FieldType.int)) ∈ wA := ku_4 217 rfl rfl
theorem kw_4_218 : (Jvm.Cond.methodLink "LeafMatchesModel" (109 : Nat) ({ cls := "LeafMatchesModel", name := "sumAt", desc := "(III)I" } : Jvm.MethodName)) ∈ wA := ku_4 218 rfl rfl
theorem kw_4_220 : (Jvm.Cond.instanceMethod ({ cls := "LeafMatchesModel", name := "sumAt", desc := "(III)I" } : Jvm.MethodName)) ∈ wA := ku_4 220 rfl rfl
theorem kw_4_221 : (Jvm.Cond.code ({ cls := "LeafMatchesModel", name := "sumAt", desc := "(III)I" } : Jvm.MethodName) prog_7_method_18_code (9 : Nat) (Option.some Jvm.ClassFile.FieldType.int)) ∈ wA := ku_4 221 rfl rfl
theorem kw_4_222 : (Jvm.Cond.methodLink "LeafMatchesModel" (95 : Nat) ({ cls := "LeafMatchesModel", name := "leftOf", desc := "(II)I" } : Jvm.MethodName)) ∈ wA := ku_4 222 rfl rfl
theorem kw_4_224 : (Jvm.Cond.instanceMethod ({ cls := "LeafMatchesModel", name := "leftOf", desc := "(II)I" } : Jvm.MethodName)) ∈ wA := ku_4 224 rfl rfl
theorem kw_4_225 : (Jvm.Cond.code ({ cls := "LeafMatchesModel", name := "leftOf", desc := "(II)I" } : Jvm.MethodName) prog_7_method_17_code (3 : Nat) (Option.some Jvm.ClassFile.FieldType.int)) ∈ wA := ku_4 225 rfl rfl
theorem kw_4_226 : (Jvm.Cond.methodLink "LeafMatchesModel" (105 : Nat) ({ cls := "LeafMatchesModel", name := "grey", desc := "(IIII)I" } : Jvm.MethodName)) ∈ wA := ku_4 226 rfl rfl
theorem kw_4_228 : (Jvm.Cond.instanceMethod ({ cls := "LeafMatchesModel", name := "grey", desc := "(IIII)I" } : Jvm.MethodName)) ∈ wA := ku_4 228 rfl rfl
theorem kw_4_229 : (Jvm.Cond.code ({ cls := "LeafMatchesModel", name := "grey", desc := "(IIII)I" } : Jvm.MethodName) prog_7_method_13_code (8 : Nat) (Option.some Jvm.ClassFile.FieldType.int)) ∈ wA := ku_4 229 rfl rfl
theorem kw_5_51 : (Jvm.Cond.constant "LeafMatchesModel" (148 : Nat) (1000000 : Int32)) ∈ wA := ku_5 51 rfl rfl
theorem kw_5_56 : (Jvm.Cond.methodLink "LeafMatchesModel" (145 : Nat) ({ cls := "LeafMatchesModel", name := "manyFrom", desc := "(II)I" } : Jvm.MethodName)) ∈ wA := ku_5 56 rfl rfl
theorem kw_5_58 : (Jvm.Cond.instanceMethod ({ cls := "LeafMatchesModel", name := "manyFrom", desc := "(II)I" } : Jvm.MethodName)) ∈ wA := ku_5 58 rfl rfl
theorem kw_5_59 : (Jvm.Cond.code ({ cls := "LeafMatchesModel", name := "manyFrom", desc := "(II)I" } : Jvm.MethodName) prog_7_method_37_code (6 : Nat) (Option.some Jvm.ClassFile.FieldType.int)) ∈ wA := ku_5 59 rfl rfl
theorem kw_5_60 : (Jvm.Cond.methodLink "LeafMatchesModel" (149 : Nat) ({ cls := "LeafMatchesModel", name := "lossFrom", desc := "(III)I" } : Jvm.MethodName)) ∈ wA := ku_5 60 rfl rfl
theorem kw_5_62 : (Jvm.Cond.instanceMethod ({ cls := "LeafMatchesModel", name := "lossFrom", desc := "(III)I" } : Jvm.MethodName)) ∈ wA := ku_5 62 rfl rfl
theorem kw_5_63 : (Jvm.Cond.code ({ cls := "LeafMatchesModel", name := "lossFrom", desc := "(III)I" } : Jvm.MethodName) prog_7_method_38_code (6 : Nat) (Option.some Jvm.ClassFile.FieldType.int)) ∈ wA := ku_5 63 rfl rfl
theorem d_Mod_thrown_0 : decode b_Mod_thrown 0 = .ok (.aload_n 0, 1) := by decide +kernel
theorem d_Mod_thrown_1 : decode b_Mod_thrown 1 = .ok (.getfield 59, 3) := by decide +kernel
theorem d_Mod_thrown_4 : decode b_Mod_thrown 4 = .ok (.ireturn, 1) := by decide +kernel
def f_Mod_thrown (w : Mp) (h0 : Nat) : Option (Int32) := (gI w (some h0) 5 0).bind fun v_1 => some v_1
set_option maxHeartbeats 4000000 in
set_option maxRecDepth 100000 in
theorem c_Mod_thrown (l : Launch) (G : Gx) (w : Mp) (sz : Nat) (h0 : Nat) (res : Int32) (hf : f_Mod_thrown w h0 = some res) : Met l y_Mod_thrown (xws y_Mod_thrown b_Mod_thrown 1 (some .int)) { frames := 0, cells := 0, slots := 0, locals := 0 } (xPc G vwCl xaty w sz [va_rf (some h0)]) (qP (some (.int res))) 0 0 (fun _ => False) := by
  refine Met.ofW (cc := b_Mod_thrown) (maxL := 1) (ret := (some .int)) (by decide) rfl ?_
  intro p e s m args below meth c s₁ B hml hv
  obtain ⟨ha, hE, hH, hz⟩ := hv
  have C0 : CallFix p m c b_Mod_thrown 1 s args wA R_Mod := ⟨B.exec, B.bytes, hml, findClass_of_methodNamed B.named, fun w hw => atoms_spec (ws := xws y_Mod_thrown b_Mod_thrown 1 (some .int)) B.pre w (List.mem_cons_of_mem _ hw)⟩
  have hr := B.returns
  have hlocks := B.notSynchronized
  obtain ⟨R, hR⟩ : ∃ R, R = (headSpec (xws y_Mod_thrown b_Mod_thrown 1 (some .int)) { frames := 0, cells := 0, slots := 0, locals := 0 }).room := ⟨_, rfl⟩
  have hR1 : 0 ≤ R.frames := by rw [hR]; exact Nat.le_of_ble_eq_true rfl
  have hR2 : 0 ≤ R.locals := by rw [hR]; exact Nat.le_of_ble_eq_true rfl
  have hR3 : 0 ≤ R.cells := Nat.zero_le _
  have hR4 : 0 ≤ R.slots := Nat.zero_le _
  rw [← hR]
  obtain ⟨Q, hQ⟩ : ∃ Q, Q = MQ below (qP (some (.int res))) args s 0 0 (fun _ => False) := ⟨_, rfl⟩
  rw [← hQ]
  have hS : xS G s s.heap [] := va_S.rf
  obtain ⟨ls, he, hl⟩ := x_entry m [.inr (.inl (some h0))] 1 (Nat.le_of_ble_eq_true rfl)
  rw [show entryFrame m args 1 = F0 m 0 ls [] by rw [ha]; exact he]
  have hl : xL ls 1 [(0, .inr (.inl (some h0)))] := hl
  have h := hf
  unfold f_Mod_thrown at h
  suffices hmain : ∀ (H : Heap) (locs : List Loc), xhd G vwCl w H → xS G s H locs → H.size = sz → (H = s.heap ∧ locs = []) → W p l e R s m args below meth c H locs 0 0 Q (F0 m 0 ls []) from hmain _ _ hH hS hz ⟨rfl, rfl⟩
  clear hH hS hz
  intro H locs hH hS hz hP0
  refine x_aload_n C0 hl 0 d_Mod_thrown_0 rfl rfl ?_
  refine x_getI C0 hE hH (ci := 5) rfl i_Mod 0 (by decide) kw_4_79 d_Mod_thrown_1 h (fun v_1 h => ?_)
  cases h
  rw [hQ]
  exact x_iretP C0 hr hlocks hP0 d_Mod_thrown_4
theorem d_Mod_isIn_0 : decode b_Mod_isIn 0 = .ok (.iload_n 0, 1) := by decide +kernel
theorem d_Mod_isIn_1 : decode b_Mod_isIn 1 = .ok (.iload_n 1, 1) := by decide +kernel
theorem d_Mod_isIn_2 : decode b_Mod_isIn 2 = .ok (.if_icmp .lt 12, 3) := by decide +kernel
theorem d_Mod_isIn_5 : decode b_Mod_isIn 5 = .ok (.iload_n 0, 1) := by decide +kernel
theorem d_Mod_isIn_6 : decode b_Mod_isIn 6 = .ok (.iload_n 2, 1) := by decide +kernel
theorem d_Mod_isIn_7 : decode b_Mod_isIn 7 = .ok (.if_icmp .gt 7, 3) := by decide +kernel
theorem d_Mod_isIn_10 : decode b_Mod_isIn 10 = .ok (.iconst 1, 1) := by decide +kernel
theorem d_Mod_isIn_11 : decode b_Mod_isIn 11 = .ok (.goto 4, 3) := by decide +kernel
theorem d_Mod_isIn_14 : decode b_Mod_isIn 14 = .ok (.iconst 0, 1) := by decide +kernel
theorem d_Mod_isIn_15 : decode b_Mod_isIn 15 = .ok (.ireturn, 1) := by decide +kernel
def f_Mod_isIn (w : Mp) (x0 : Int32) (x1 : Int32) (x2 : Int32) : Option (Int32) := if x0 < x1 then (some (0 : Int32)) else (if x2 < x0 then (some (0 : Int32)) else (some (1 : Int32)))
set_option maxHeartbeats 4000000 in
set_option maxRecDepth 100000 in
theorem c_Mod_isIn (l : Launch) (G : Gx) (w : Mp) (sz : Nat) (x0 : Int32) (x1 : Int32) (x2 : Int32) (res : Int32) (hf : f_Mod_isIn w x0 x1 x2 = some res) : Met l y_Mod_isIn (xws y_Mod_isIn b_Mod_isIn 3 (some .boolean)) { frames := 0, cells := 0, slots := 0, locals := 0 } (xPc G vwCl xaty w sz [.int x0, .int x1, .int x2]) (qP (some (.int res))) 0 0 (fun _ => False) := by
  refine Met.ofW (cc := b_Mod_isIn) (maxL := 3) (ret := (some .boolean)) (by decide) rfl ?_
  intro p e s m args below meth c s₁ B hml hv
  obtain ⟨ha, hE, hH, hz⟩ := hv
  have C0 : CallFix p m c b_Mod_isIn 3 s args wA R_Mod := ⟨B.exec, B.bytes, hml, findClass_of_methodNamed B.named, fun w hw => atoms_spec (ws := xws y_Mod_isIn b_Mod_isIn 3 (some .boolean)) B.pre w (List.mem_cons_of_mem _ hw)⟩
  have hr := B.returns
  have hlocks := B.notSynchronized
  obtain ⟨R, hR⟩ : ∃ R, R = (headSpec (xws y_Mod_isIn b_Mod_isIn 3 (some .boolean)) { frames := 0, cells := 0, slots := 0, locals := 0 }).room := ⟨_, rfl⟩
  have hR1 : 0 ≤ R.frames := by rw [hR]; exact Nat.le_of_ble_eq_true rfl
  have hR2 : 0 ≤ R.locals := by rw [hR]; exact Nat.le_of_ble_eq_true rfl
  have hR3 : 0 ≤ R.cells := Nat.zero_le _
  have hR4 : 0 ≤ R.slots := Nat.zero_le _
  rw [← hR]
  obtain ⟨Q, hQ⟩ : ∃ Q, Q = MQ below (qP (some (.int res))) args s 0 0 (fun _ => False) := ⟨_, rfl⟩
  rw [← hQ]
  have hS : xS G s s.heap [] := va_S.rf
  obtain ⟨ls, he, hl⟩ := x_entry m [.inl x0, .inl x1, .inl x2] 3 (Nat.le_of_ble_eq_true rfl)
  rw [show entryFrame m args 3 = F0 m 0 ls [] by rw [ha]; exact he]
  have hl : xL ls 3 [(0, .inl x0), (1, .inl x1), (2, .inl x2)] := hl
  have h := hf
  unfold f_Mod_isIn at h
  suffices hmain : ∀ (H : Heap) (locs : List Loc), xhd G vwCl w H → xS G s H locs → H.size = sz → (H = s.heap ∧ locs = []) → W p l e R s m args below meth c H locs 0 0 Q (F0 m 0 ls []) from hmain _ _ hH hS hz ⟨rfl, rfl⟩
  clear hH hS hz
  intro H locs hH hS hz hP0
  refine x_iload_n C0 hl 0 d_Mod_isIn_0 rfl rfl ?_
  refine x_iload_n C0 hl 1 d_Mod_isIn_1 rfl rfl ?_
  refine x_icmp_lt C0 14 d_Mod_isIn_2 (by decide) h (fun h => ?_) (fun h => ?_)
  · refine lv_iconst (v := 0) C0.1 C0.2.1 d_Mod_isIn_14 (by decide) ?_
    cases h
    rw [hQ]
    exact x_zretP C0 hr hlocks hP0 rfl d_Mod_isIn_15
  · refine x_iload_n C0 hl 0 d_Mod_isIn_5 rfl rfl ?_
    refine x_iload_n C0 hl 2 d_Mod_isIn_6 rfl rfl ?_
    refine x_icmp_gt C0 14 d_Mod_isIn_7 (by decide) h (fun h => ?_) (fun h => ?_)
    · refine lv_iconst (v := 0) C0.1 C0.2.1 d_Mod_isIn_14 (by decide) ?_
      cases h
      rw [hQ]
      exact x_zretP C0 hr hlocks hP0 rfl d_Mod_isIn_15
    · refine lv_iconst (v := 1) C0.1 C0.2.1 d_Mod_isIn_10 (by decide) ?_
      refine x_goto C0 15 d_Mod_isIn_11 (by decide) ?_
      cases h
      rw [hQ]
      exact x_zretP C0 hr hlocks hP0 rfl d_Mod_isIn_15
theorem d_Mod_isMirrored_0 : decode b_Mod_isMirrored 0 = .ok (.iload_n 2, 1) := by decide +kernel
theorem d_Mod_isMirrored_1 : decode b_Mod_isMirrored 1 = .ok (.iconst 2, 1) := by decide +kernel
theorem d_Mod_isMirrored_2 : decode b_Mod_isMirrored 2 = .ok (.irem, 1) := by decide +kernel
theorem d_Mod_isMirrored_3 : decode b_Mod_isMirrored 3 = .ok (.iconst 1, 1) := by decide +kernel
theorem d_Mod_isMirrored_4 : decode b_Mod_isMirrored 4 = .ok (.if_icmp .ne 26, 3) := by decide +kernel
theorem d_Mod_isMirrored_7 : decode b_Mod_isMirrored 7 = .ok (.aload_n 0, 1) := by decide +kernel
theorem d_Mod_isMirrored_8 : decode b_Mod_isMirrored 8 = .ok (.getfield 32, 3) := by decide +kernel
theorem d_Mod_isMirrored_11 : decode b_Mod_isMirrored 11 = .ok (.iload_n 1, 1) := by decide +kernel
theorem d_Mod_isMirrored_12 : decode b_Mod_isMirrored 12 = .ok (.iaload, 1) := by decide +kernel
theorem d_Mod_isMirrored_13 : decode b_Mod_isMirrored 13 = .ok (.ifCond .eq 13, 3) := by decide +kernel
theorem d_Mod_isMirrored_16 : decode b_Mod_isMirrored 16 = .ok (.aload_n 0, 1) := by decide +kernel
theorem d_Mod_isMirrored_17 : decode b_Mod_isMirrored 17 = .ok (.getfield 32, 3) := by decide +kernel
theorem d_Mod_isMirrored_20 : decode b_Mod_isMirrored 20 = .ok (.iload_n 1, 1) := by decide +kernel
theorem d_Mod_isMirrored_21 : decode b_Mod_isMirrored 21 = .ok (.iaload, 1) := by decide +kernel
theorem d_Mod_isMirrored_22 : decode b_Mod_isMirrored 22 = .ok (.iconst 3, 1) := by decide +kernel
theorem d_Mod_isMirrored_23 : decode b_Mod_isMirrored 23 = .ok (.if_icmp .ne 7, 3) := by decide +kernel
theorem d_Mod_isMirrored_26 : decode b_Mod_isMirrored 26 = .ok (.iconst 1, 1) := by decide +kernel
theorem d_Mod_isMirrored_27 : decode b_Mod_isMirrored 27 = .ok (.goto 4, 3) := by decide +kernel
theorem d_Mod_isMirrored_30 : decode b_Mod_isMirrored 30 = .ok (.iconst 0, 1) := by decide +kernel
theorem d_Mod_isMirrored_31 : decode b_Mod_isMirrored 31 = .ok (.ireturn, 1) := by decide +kernel
def f_Mod_isMirrored (w : Mp) (h0 : Nat) (x1 : Int32) (x2 : Int32) : Option (Int32) := if (x2 - x2 / (2 : Int32) * (2 : Int32)) = (1 : Int32) then ((gR w (some h0) 5 10).bind fun v_1 => (aI w v_1 0 x1).bind fun v_2 => if v_2 = 0 then (some (1 : Int32)) else ((gR w (some h0) 5 10).bind fun v_3 => (aI w v_3 0 x1).bind fun v_4 => if v_4 = (3 : Int32) then (some (1 : Int32)) else (some (0 : Int32)))) else (some (0 : Int32))
set_option maxHeartbeats 4000000 in
set_option maxRecDepth 100000 in
theorem c_Mod_isMirrored (l : Launch) (G : Gx) (w : Mp) (sz : Nat) (h0 : Nat) (x1 : Int32) (x2 : Int32) (res : Int32) (hf : f_Mod_isMirrored w h0 x1 x2 = some res) : Met l y_Mod_isMirrored (xws y_Mod_isMirrored b_Mod_isMirrored 3 (some .boolean)) { frames := 0, cells := 0, slots := 0, locals := 0 } (xPc G vwCl xaty w sz [va_rf (some h0), .int x1, .int x2]) (qP (some (.int res))) 0 0 (fun _ => False) := by
  refine Met.ofW (cc := b_Mod_isMirrored) (maxL := 3) (ret := (some .boolean)) (by decide) rfl ?_
  intro p e s m args below meth c s₁ B hml hv
  obtain ⟨ha, hE, hH, hz⟩ := hv
  have C0 : CallFix p m c b_Mod_isMirrored 3 s args wA R_Mod := ⟨B.exec, B.bytes, hml, findClass_of_methodNamed B.named, fun w hw => atoms_spec (ws := xws y_Mod_isMirrored b_Mod_isMirrored 3 (some .boolean)) B.pre w (List.mem_cons_of_mem _ hw)⟩
  have hr := B.returns
  have hlocks := B.notSynchronized
  obtain ⟨R, hR⟩ : ∃ R, R = (headSpec (xws y_Mod_isMirrored b_Mod_isMirrored 3 (some .boolean)) { frames := 0, cells := 0, slots := 0, locals := 0 }).room := ⟨_, rfl⟩
  have hR1 : 0 ≤ R.frames := by rw [hR]; exact Nat.le_of_ble_eq_true rfl
  have hR2 : 0 ≤ R.locals := by rw [hR]; exact Nat.le_of_ble_eq_true rfl
  have hR3 : 0 ≤ R.cells := Nat.zero_le _
  have hR4 : 0 ≤ R.slots := Nat.zero_le _
  rw [← hR]
  obtain ⟨Q, hQ⟩ : ∃ Q, Q = MQ below (qP (some (.int res))) args s 0 0 (fun _ => False) := ⟨_, rfl⟩
  rw [← hQ]
  have hS : xS G s s.heap [] := va_S.rf
  obtain ⟨ls, he, hl⟩ := x_entry m [.inr (.inl (some h0)), .inl x1, .inl x2] 3 (Nat.le_of_ble_eq_true rfl)
  rw [show entryFrame m args 3 = F0 m 0 ls [] by rw [ha]; exact he]
  have hl : xL ls 3 [(0, .inr (.inl (some h0))), (1, .inl x1), (2, .inl x2)] := hl
  have h := hf
  unfold f_Mod_isMirrored at h
  suffices hmain : ∀ (H : Heap) (locs : List Loc), xhd G vwCl w H → xS G s H locs → H.size = sz → (H = s.heap ∧ locs = []) → W p l e R s m args below meth c H locs 0 0 Q (F0 m 0 ls []) from hmain _ _ hH hS hz ⟨rfl, rfl⟩
  clear hH hS hz
  intro H locs hH hS hz hP0
  refine x_iload_n C0 hl 2 d_Mod_isMirrored_0 rfl rfl ?_
  refine lv_iconst (v := 2) C0.1 C0.2.1 d_Mod_isMirrored_1 (by decide) ?_
  refine lv_irem C0.1 C0.2.1 d_Mod_isMirrored_2 (by decide) ?_
  refine lv_iconst (v := 1) C0.1 C0.2.1 d_Mod_isMirrored_3 (by decide) ?_
  refine x_icmp_ne C0 30 d_Mod_isMirrored_4 (by decide) h (fun h => ?_) (fun h => ?_)
  · refine lv_iconst (v := 0) C0.1 C0.2.1 d_Mod_isMirrored_30 (by decide) ?_
    cases h
    rw [hQ]
    exact x_zretP C0 hr hlocks hP0 rfl d_Mod_isMirrored_31
  · refine x_aload_n C0 hl 0 d_Mod_isMirrored_7 rfl rfl ?_
    refine x_getR C0 hE hH (ci := 5) rfl i_Mod 10 (by decide) kw_4_89 d_Mod_isMirrored_8 h (fun v_1 h => ?_)
    refine x_iload_n C0 hl 1 d_Mod_isMirrored_11 rfl rfl ?_
    refine x_iald C0 hE hH (t := 0) rfl d_Mod_isMirrored_12 h (fun v_2 h => ?_)
    refine x_if_eq C0 26 d_Mod_isMirrored_13 (by decide) h (fun h => ?_) (fun h => ?_)
    · refine lv_iconst (v := 1) C0.1 C0.2.1 d_Mod_isMirrored_26 (by decide) ?_
      refine x_goto C0 31 d_Mod_isMirrored_27 (by decide) ?_
      cases h
      rw [hQ]
      exact x_zretP C0 hr hlocks hP0 rfl d_Mod_isMirrored_31
    · refine x_aload_n C0 hl 0 d_Mod_isMirrored_16 rfl rfl ?_
      refine x_getR C0 hE hH (ci := 5) rfl i_Mod 10 (by decide) kw_4_89 d_Mod_isMirrored_17 h (fun v_3 h => ?_)
      refine x_iload_n C0 hl 1 d_Mod_isMirrored_20 rfl rfl ?_
      refine x_iald C0 hE hH (t := 0) rfl d_Mod_isMirrored_21 h (fun v_4 h => ?_)
      refine lv_iconst (v := 3) C0.1 C0.2.1 d_Mod_isMirrored_22 (by decide) ?_
      refine x_icmp_ne C0 30 d_Mod_isMirrored_23 (by decide) h (fun h => ?_) (fun h => ?_)
      · refine lv_iconst (v := 0) C0.1 C0.2.1 d_Mod_isMirrored_30 (by decide) ?_
        cases h
        rw [hQ]
        exact x_zretP C0 hr hlocks hP0 rfl d_Mod_isMirrored_31
      · refine lv_iconst (v := 1) C0.1 C0.2.1 d_Mod_isMirrored_26 (by decide) ?_
        refine x_goto C0 31 d_Mod_isMirrored_27 (by decide) ?_
        cases h
        rw [hQ]
        exact x_zretP C0 hr hlocks hP0 rfl d_Mod_isMirrored_31
theorem d_Mod_isTurned_0 : decode b_Mod_isTurned 0 = .ok (.aload_n 0, 1) := by decide +kernel
theorem d_Mod_isTurned_1 : decode b_Mod_isTurned 1 = .ok (.getfield 32, 3) := by decide +kernel
theorem d_Mod_isTurned_4 : decode b_Mod_isTurned 4 = .ok (.iload_n 1, 1) := by decide +kernel
theorem d_Mod_isTurned_5 : decode b_Mod_isTurned 5 = .ok (.iaload, 1) := by decide +kernel
theorem d_Mod_isTurned_6 : decode b_Mod_isTurned 6 = .ok (.iconst 2, 1) := by decide +kernel
theorem d_Mod_isTurned_7 : decode b_Mod_isTurned 7 = .ok (.if_icmp .ne 18, 3) := by decide +kernel
theorem d_Mod_isTurned_10 : decode b_Mod_isTurned 10 = .ok (.iload_n 2, 1) := by decide +kernel
theorem d_Mod_isTurned_11 : decode b_Mod_isTurned 11 = .ok (.iconst 2, 1) := by decide +kernel
theorem d_Mod_isTurned_12 : decode b_Mod_isTurned 12 = .ok (.irem, 1) := by decide +kernel
theorem d_Mod_isTurned_13 : decode b_Mod_isTurned 13 = .ok (.iconst 1, 1) := by decide +kernel
theorem d_Mod_isTurned_14 : decode b_Mod_isTurned 14 = .ok (.if_icmp .ne 7, 3) := by decide +kernel
theorem d_Mod_isTurned_17 : decode b_Mod_isTurned 17 = .ok (.iconst 1, 1) := by decide +kernel
theorem d_Mod_isTurned_18 : decode b_Mod_isTurned 18 = .ok (.goto 27, 3) := by decide +kernel
theorem d_Mod_isTurned_21 : decode b_Mod_isTurned 21 = .ok (.iconst 0, 1) := by decide +kernel
theorem d_Mod_isTurned_22 : decode b_Mod_isTurned 22 = .ok (.goto 23, 3) := by decide +kernel
theorem d_Mod_isTurned_25 : decode b_Mod_isTurned 25 = .ok (.aload_n 0, 1) := by decide +kernel
theorem d_Mod_isTurned_26 : decode b_Mod_isTurned 26 = .ok (.getfield 32, 3) := by decide +kernel
theorem d_Mod_isTurned_29 : decode b_Mod_isTurned 29 = .ok (.iload_n 1, 1) := by decide +kernel
theorem d_Mod_isTurned_30 : decode b_Mod_isTurned 30 = .ok (.iaload, 1) := by decide +kernel
theorem d_Mod_isTurned_31 : decode b_Mod_isTurned 31 = .ok (.iconst 3, 1) := by decide +kernel
theorem d_Mod_isTurned_32 : decode b_Mod_isTurned 32 = .ok (.if_icmp .ne 12, 3) := by decide +kernel
theorem d_Mod_isTurned_35 : decode b_Mod_isTurned 35 = .ok (.iload_n 2, 1) := by decide +kernel
theorem d_Mod_isTurned_36 : decode b_Mod_isTurned 36 = .ok (.iconst 1, 1) := by decide +kernel
theorem d_Mod_isTurned_37 : decode b_Mod_isTurned 37 = .ok (.if_icmp .le 7, 3) := by decide +kernel
theorem d_Mod_isTurned_40 : decode b_Mod_isTurned 40 = .ok (.iconst 1, 1) := by decide +kernel
theorem d_Mod_isTurned_41 : decode b_Mod_isTurned 41 = .ok (.goto 4, 3) := by decide +kernel
theorem d_Mod_isTurned_44 : decode b_Mod_isTurned 44 = .ok (.iconst 0, 1) := by decide +kernel
theorem d_Mod_isTurned_45 : decode b_Mod_isTurned 45 = .ok (.ireturn, 1) := by decide +kernel
def f_Mod_isTurned (w : Mp) (h0 : Nat) (x1 : Int32) (x2 : Int32) : Option (Int32) := (gR w (some h0) 5 10).bind fun v_1 => (aI w v_1 0 x1).bind fun v_2 => if v_2 = (2 : Int32) then (if (x2 - x2 / (2 : Int32) * (2 : Int32)) = (1 : Int32) then (some (1 : Int32)) else (some (0 : Int32))) else ((gR w (some h0) 5 10).bind fun v_3 => (aI w v_3 0 x1).bind fun v_4 => if v_4 = (3 : Int32) then (if x2 ≤ (1 : Int32) then (some (0 : Int32)) else (some (1 : Int32))) else (some (0 : Int32)))
set_option maxHeartbeats 4000000 in
set_option maxRecDepth 100000 in
theorem c_Mod_isTurned (l : Launch) (G : Gx) (w : Mp) (sz : Nat) (h0 : Nat) (x1 : Int32) (x2 : Int32) (res : Int32) (hf : f_Mod_isTurned w h0 x1 x2 = some res) : Met l y_Mod_isTurned (xws y_Mod_isTurned b_Mod_isTurned 3 (some .boolean)) { frames := 0, cells := 0, slots := 0, locals := 0 } (xPc G vwCl xaty w sz [va_rf (some h0), .int x1, .int x2]) (qP (some (.int res))) 0 0 (fun _ => False) := by
  refine Met.ofW (cc := b_Mod_isTurned) (maxL := 3) (ret := (some .boolean)) (by decide) rfl ?_
  intro p e s m args below meth c s₁ B hml hv
  obtain ⟨ha, hE, hH, hz⟩ := hv
  have C0 : CallFix p m c b_Mod_isTurned 3 s args wA R_Mod := ⟨B.exec, B.bytes, hml, findClass_of_methodNamed B.named, fun w hw => atoms_spec (ws := xws y_Mod_isTurned b_Mod_isTurned 3 (some .boolean)) B.pre w (List.mem_cons_of_mem _ hw)⟩
  have hr := B.returns
  have hlocks := B.notSynchronized
  obtain ⟨R, hR⟩ : ∃ R, R = (headSpec (xws y_Mod_isTurned b_Mod_isTurned 3 (some .boolean)) { frames := 0, cells := 0, slots := 0, locals := 0 }).room := ⟨_, rfl⟩
  have hR1 : 0 ≤ R.frames := by rw [hR]; exact Nat.le_of_ble_eq_true rfl
  have hR2 : 0 ≤ R.locals := by rw [hR]; exact Nat.le_of_ble_eq_true rfl
  have hR3 : 0 ≤ R.cells := Nat.zero_le _
  have hR4 : 0 ≤ R.slots := Nat.zero_le _
  rw [← hR]
  obtain ⟨Q, hQ⟩ : ∃ Q, Q = MQ below (qP (some (.int res))) args s 0 0 (fun _ => False) := ⟨_, rfl⟩
  rw [← hQ]
  have hS : xS G s s.heap [] := va_S.rf
  obtain ⟨ls, he, hl⟩ := x_entry m [.inr (.inl (some h0)), .inl x1, .inl x2] 3 (Nat.le_of_ble_eq_true rfl)
  rw [show entryFrame m args 3 = F0 m 0 ls [] by rw [ha]; exact he]
  have hl : xL ls 3 [(0, .inr (.inl (some h0))), (1, .inl x1), (2, .inl x2)] := hl
  have h := hf
  unfold f_Mod_isTurned at h
  suffices hmain : ∀ (H : Heap) (locs : List Loc), xhd G vwCl w H → xS G s H locs → H.size = sz → (H = s.heap ∧ locs = []) → W p l e R s m args below meth c H locs 0 0 Q (F0 m 0 ls []) from hmain _ _ hH hS hz ⟨rfl, rfl⟩
  clear hH hS hz
  intro H locs hH hS hz hP0
  refine x_aload_n C0 hl 0 d_Mod_isTurned_0 rfl rfl ?_
  refine x_getR C0 hE hH (ci := 5) rfl i_Mod 10 (by decide) kw_4_89 d_Mod_isTurned_1 h (fun v_1 h => ?_)
  refine x_iload_n C0 hl 1 d_Mod_isTurned_4 rfl rfl ?_
  refine x_iald C0 hE hH (t := 0) rfl d_Mod_isTurned_5 h (fun v_2 h => ?_)
  refine lv_iconst (v := 2) C0.1 C0.2.1 d_Mod_isTurned_6 (by decide) ?_
  refine x_icmp_ne C0 25 d_Mod_isTurned_7 (by decide) h (fun h => ?_) (fun h => ?_)
  · refine x_aload_n C0 hl 0 d_Mod_isTurned_25 rfl rfl ?_
    refine x_getR C0 hE hH (ci := 5) rfl i_Mod 10 (by decide) kw_4_89 d_Mod_isTurned_26 h (fun v_3 h => ?_)
    refine x_iload_n C0 hl 1 d_Mod_isTurned_29 rfl rfl ?_
    refine x_iald C0 hE hH (t := 0) rfl d_Mod_isTurned_30 h (fun v_4 h => ?_)
    refine lv_iconst (v := 3) C0.1 C0.2.1 d_Mod_isTurned_31 (by decide) ?_
    refine x_icmp_ne C0 44 d_Mod_isTurned_32 (by decide) h (fun h => ?_) (fun h => ?_)
    · refine lv_iconst (v := 0) C0.1 C0.2.1 d_Mod_isTurned_44 (by decide) ?_
      cases h
      rw [hQ]
      exact x_zretP C0 hr hlocks hP0 rfl d_Mod_isTurned_45
    · refine x_iload_n C0 hl 2 d_Mod_isTurned_35 rfl rfl ?_
      refine lv_iconst (v := 1) C0.1 C0.2.1 d_Mod_isTurned_36 (by decide) ?_
      refine x_icmp_le C0 44 d_Mod_isTurned_37 (by decide) h (fun h => ?_) (fun h => ?_)
      · refine lv_iconst (v := 0) C0.1 C0.2.1 d_Mod_isTurned_44 (by decide) ?_
        cases h
        rw [hQ]
        exact x_zretP C0 hr hlocks hP0 rfl d_Mod_isTurned_45
      · refine lv_iconst (v := 1) C0.1 C0.2.1 d_Mod_isTurned_40 (by decide) ?_
        refine x_goto C0 45 d_Mod_isTurned_41 (by decide) ?_
        cases h
        rw [hQ]
        exact x_zretP C0 hr hlocks hP0 rfl d_Mod_isTurned_45
  · refine x_iload_n C0 hl 2 d_Mod_isTurned_10 rfl rfl ?_
    refine lv_iconst (v := 2) C0.1 C0.2.1 d_Mod_isTurned_11 (by decide) ?_
    refine lv_irem C0.1 C0.2.1 d_Mod_isTurned_12 (by decide) ?_
    refine lv_iconst (v := 1) C0.1 C0.2.1 d_Mod_isTurned_13 (by decide) ?_
    refine x_icmp_ne C0 21 d_Mod_isTurned_14 (by decide) h (fun h => ?_) (fun h => ?_)
    · refine lv_iconst (v := 0) C0.1 C0.2.1 d_Mod_isTurned_21 (by decide) ?_
      refine x_goto C0 45 d_Mod_isTurned_22 (by decide) ?_
      cases h
      rw [hQ]
      exact x_zretP C0 hr hlocks hP0 rfl d_Mod_isTurned_45
    · refine lv_iconst (v := 1) C0.1 C0.2.1 d_Mod_isTurned_17 (by decide) ?_
      refine x_goto C0 45 d_Mod_isTurned_18 (by decide) ?_
      cases h
      rw [hQ]
      exact x_zretP C0 hr hlocks hP0 rfl d_Mod_isTurned_45
theorem d_Mod_grey_0 : decode b_Mod_grey 0 = .ok (.aload_n 0, 1) := by decide +kernel
theorem d_Mod_grey_1 : decode b_Mod_grey 1 = .ok (.getfield 38, 3) := by decide +kernel
theorem d_Mod_grey_4 : decode b_Mod_grey 4 = .ok (.bipush 8, 2) := by decide +kernel
theorem d_Mod_grey_6 : decode b_Mod_grey 6 = .ok (.iload_n 1, 1) := by decide +kernel
theorem d_Mod_grey_7 : decode b_Mod_grey 7 = .ok (.imul, 1) := by decide +kernel
theorem d_Mod_grey_8 : decode b_Mod_grey 8 = .ok (.iload_n 2, 1) := by decide +kernel
theorem d_Mod_grey_9 : decode b_Mod_grey 9 = .ok (.iadd, 1) := by decide +kernel
theorem d_Mod_grey_10 : decode b_Mod_grey 10 = .ok (.iaload, 1) := by decide +kernel
theorem d_Mod_grey_11 : decode b_Mod_grey 11 = .ok (.istore 5, 2) := by decide +kernel
theorem d_Mod_grey_13 : decode b_Mod_grey 13 = .ok (.aload_n 0, 1) := by decide +kernel
theorem d_Mod_grey_14 : decode b_Mod_grey 14 = .ok (.iload_n 1, 1) := by decide +kernel
theorem d_Mod_grey_15 : decode b_Mod_grey 15 = .ok (.iload_n 2, 1) := by decide +kernel
theorem d_Mod_grey_16 : decode b_Mod_grey 16 = .ok (.invokevirtual 88, 3) := by decide +kernel
theorem d_Mod_grey_19 : decode b_Mod_grey 19 = .ok (.ifCond .eq 17, 3) := by decide +kernel
theorem d_Mod_grey_22 : decode b_Mod_grey 22 = .ok (.aload_n 0, 1) := by decide +kernel
theorem d_Mod_grey_23 : decode b_Mod_grey 23 = .ok (.getfield 16, 3) := by decide +kernel
theorem d_Mod_grey_26 : decode b_Mod_grey 26 = .ok (.iload 5, 2) := by decide +kernel
theorem d_Mod_grey_28 : decode b_Mod_grey 28 = .ok (.iaload, 1) := by decide +kernel
theorem d_Mod_grey_29 : decode b_Mod_grey 29 = .ok (.iconst 1, 1) := by decide +kernel
theorem d_Mod_grey_30 : decode b_Mod_grey 30 = .ok (.isub, 1) := by decide +kernel
theorem d_Mod_grey_31 : decode b_Mod_grey 31 = .ok (.iload_n 3, 1) := by decide +kernel
theorem d_Mod_grey_32 : decode b_Mod_grey 32 = .ok (.isub, 1) := by decide +kernel
theorem d_Mod_grey_33 : decode b_Mod_grey 33 = .ok (.goto 4, 3) := by decide +kernel
theorem d_Mod_grey_36 : decode b_Mod_grey 36 = .ok (.iload_n 3, 1) := by decide +kernel
theorem d_Mod_grey_37 : decode b_Mod_grey 37 = .ok (.istore 6, 2) := by decide +kernel
theorem d_Mod_grey_39 : decode b_Mod_grey 39 = .ok (.aload_n 0, 1) := by decide +kernel
theorem d_Mod_grey_40 : decode b_Mod_grey 40 = .ok (.iload_n 1, 1) := by decide +kernel
theorem d_Mod_grey_41 : decode b_Mod_grey 41 = .ok (.iload_n 2, 1) := by decide +kernel
theorem d_Mod_grey_42 : decode b_Mod_grey 42 = .ok (.invokevirtual 92, 3) := by decide +kernel
theorem d_Mod_grey_45 : decode b_Mod_grey 45 = .ok (.ifCond .eq 18, 3) := by decide +kernel
theorem d_Mod_grey_48 : decode b_Mod_grey 48 = .ok (.aload_n 0, 1) := by decide +kernel
theorem d_Mod_grey_49 : decode b_Mod_grey 49 = .ok (.getfield 19, 3) := by decide +kernel
theorem d_Mod_grey_52 : decode b_Mod_grey 52 = .ok (.iload 5, 2) := by decide +kernel
theorem d_Mod_grey_54 : decode b_Mod_grey 54 = .ok (.iaload, 1) := by decide +kernel
theorem d_Mod_grey_55 : decode b_Mod_grey 55 = .ok (.iconst 1, 1) := by decide +kernel
theorem d_Mod_grey_56 : decode b_Mod_grey 56 = .ok (.isub, 1) := by decide +kernel
theorem d_Mod_grey_57 : decode b_Mod_grey 57 = .ok (.iload 4, 2) := by decide +kernel
theorem d_Mod_grey_59 : decode b_Mod_grey 59 = .ok (.isub, 1) := by decide +kernel
theorem d_Mod_grey_60 : decode b_Mod_grey 60 = .ok (.goto 5, 3) := by decide +kernel
theorem d_Mod_grey_63 : decode b_Mod_grey 63 = .ok (.iload 4, 2) := by decide +kernel
theorem d_Mod_grey_65 : decode b_Mod_grey 65 = .ok (.istore 7, 2) := by decide +kernel
theorem d_Mod_grey_67 : decode b_Mod_grey 67 = .ok (.aload_n 0, 1) := by decide +kernel
theorem d_Mod_grey_68 : decode b_Mod_grey 68 = .ok (.getfield 29, 3) := by decide +kernel
theorem d_Mod_grey_71 : decode b_Mod_grey 71 = .ok (.sipush 144, 3) := by decide +kernel
theorem d_Mod_grey_74 : decode b_Mod_grey 74 = .ok (.iload 5, 2) := by decide +kernel
theorem d_Mod_grey_76 : decode b_Mod_grey 76 = .ok (.imul, 1) := by decide +kernel
theorem d_Mod_grey_77 : decode b_Mod_grey 77 = .ok (.bipush 12, 2) := by decide +kernel
theorem d_Mod_grey_79 : decode b_Mod_grey 79 = .ok (.iload 7, 2) := by decide +kernel
theorem d_Mod_grey_81 : decode b_Mod_grey 81 = .ok (.imul, 1) := by decide +kernel
theorem d_Mod_grey_82 : decode b_Mod_grey 82 = .ok (.iadd, 1) := by decide +kernel
theorem d_Mod_grey_83 : decode b_Mod_grey 83 = .ok (.iload 6, 2) := by decide +kernel
theorem d_Mod_grey_85 : decode b_Mod_grey 85 = .ok (.iadd, 1) := by decide +kernel
theorem d_Mod_grey_86 : decode b_Mod_grey 86 = .ok (.iaload, 1) := by decide +kernel
theorem d_Mod_grey_87 : decode b_Mod_grey 87 = .ok (.ireturn, 1) := by decide +kernel
def f_Mod_grey (w : Mp) (h0 : Nat) (x1 : Int32) (x2 : Int32) (x3 : Int32) (x4 : Int32) : Option (Int32) := (gR w (some h0) 5 12).bind fun v_1 => (aI w v_1 0 (((8 : Int32) * x1) + x2)).bind fun v_2 => (xo w (some h0) 5).bind fun b_4 => (f_Mod_isMirrored w b_4 x1 x2).bind fun q_3 => xJ1 (fun (x_5 : Int32) => (xo w (some h0) 5).bind fun b_8 => (f_Mod_isTurned w b_8 x1 x2).bind fun q_7 => xJ1 (fun (x_9 : Int32) => (gR w (some h0) 5 8).bind fun v_11 => (aI w v_11 0 ((((144 : Int32) * v_2) + ((12 : Int32) * x_9)) + x_5)).bind fun v_12 => some v_12) fun J_10 => if q_7 = 0 then (J_10 x4) else ((gR w (some h0) 5 5).bind fun v_13 => (aI w v_13 0 v_2).bind fun v_14 => J_10 ((v_14 - (1 : Int32)) - x4))) fun J_6 => if q_3 = 0 then (J_6 x3) else ((gR w (some h0) 5 4).bind fun v_15 => (aI w v_15 0 v_2).bind fun v_16 => J_6 ((v_16 - (1 : Int32)) - x3))
set_option maxHeartbeats 4000000 in
set_option maxRecDepth 100000 in
theorem c_Mod_grey (l : Launch) (G : Gx) (w : Mp) (sz : Nat) (h0 : Nat) (x1 : Int32) (x2 : Int32) (x3 : Int32) (x4 : Int32) (res : Int32) (hf : f_Mod_grey w h0 x1 x2 x3 x4 = some res) : Met l y_Mod_grey (xws y_Mod_grey b_Mod_grey 8 (some .int)) { frames := 1, cells := 0, slots := 0, locals := 22 } (xPc G vwCl xaty w sz [va_rf (some h0), .int x1, .int x2, .int x3, .int x4]) (qP (some (.int res))) 0 0 (fun _ => False) := by
  refine Met.ofW (cc := b_Mod_grey) (maxL := 8) (ret := (some .int)) (by decide) rfl ?_
  intro p e s m args below meth c s₁ B hml hv
  obtain ⟨ha, hE, hH, hz⟩ := hv
  have C0 : CallFix p m c b_Mod_grey 8 s args wA R_Mod := ⟨B.exec, B.bytes, hml, findClass_of_methodNamed B.named, fun w hw => atoms_spec (ws := xws y_Mod_grey b_Mod_grey 8 (some .int)) B.pre w (List.mem_cons_of_mem _ hw)⟩
  have hr := B.returns
  have hlocks := B.notSynchronized
  obtain ⟨R, hR⟩ : ∃ R, R = (headSpec (xws y_Mod_grey b_Mod_grey 8 (some .int)) { frames := 1, cells := 0, slots := 0, locals := 22 }).room := ⟨_, rfl⟩
  have hR1 : 1 ≤ R.frames := by rw [hR]; exact Nat.le_of_ble_eq_true rfl
  have hR2 : 22 ≤ R.locals := by rw [hR]; exact Nat.le_of_ble_eq_true rfl
  have hR3 : 0 ≤ R.cells := Nat.zero_le _
  have hR4 : 0 ≤ R.slots := Nat.zero_le _
  rw [← hR]
  obtain ⟨Q, hQ⟩ : ∃ Q, Q = MQ below (qP (some (.int res))) args s 0 0 (fun _ => False) := ⟨_, rfl⟩
  rw [← hQ]
  have hS : xS G s s.heap [] := va_S.rf
  obtain ⟨ls, he, hl⟩ := x_entry m [.inr (.inl (some h0)), .inl x1, .inl x2, .inl x3, .inl x4] 8 (Nat.le_of_ble_eq_true rfl)
  rw [show entryFrame m args 8 = F0 m 0 ls [] by rw [ha]; exact he]
  have hl : xL ls 8 [(0, .inr (.inl (some h0))), (1, .inl x1), (2, .inl x2), (3, .inl x3), (4, .inl x4)] := hl
  have h := hf
  unfold f_Mod_grey at h
  suffices hmain : ∀ (H : Heap) (locs : List Loc), xhd G vwCl w H → xS G s H locs → H.size = sz → (H = s.heap ∧ locs = []) → W p l e R s m args below meth c H locs 0 0 Q (F0 m 0 ls []) from hmain _ _ hH hS hz ⟨rfl, rfl⟩
  clear hH hS hz
  intro H locs hH hS hz hP0
  refine x_aload_n C0 hl 0 d_Mod_grey_0 rfl rfl ?_
  refine x_getR C0 hE hH (ci := 5) rfl i_Mod 12 (by decide) kw_4_91 d_Mod_grey_1 h (fun v_1 h => ?_)
  refine lv_bipush (v := 8) C0.1 C0.2.1 d_Mod_grey_4 (by decide) ?_
  refine x_iload_n C0 hl 1 d_Mod_grey_6 rfl rfl ?_
  refine lv_imul C0.1 C0.2.1 d_Mod_grey_7 ?_
  refine x_iload_n C0 hl 2 d_Mod_grey_8 rfl rfl ?_
  refine lv_iadd C0.1 C0.2.1 d_Mod_grey_9 ?_
  refine x_iald C0 hE hH (t := 0) rfl d_Mod_grey_10 h (fun v_2 h => ?_)
  refine x_istore (lv' := [(5, .inl v_2), (0, .inr (.inl (some h0))), (1, .inl x1), (2, .inl x2), (3, .inl x3), (4, .inl x4)]) C0 hl d_Mod_grey_11 (by decide) rfl (fun ls hl => ?_)
  refine x_aload_n C0 hl 1 d_Mod_grey_13 rfl rfl ?_
  refine x_iload_n C0 hl 2 d_Mod_grey_14 rfl rfl ?_
  refine x_iload_n C0 hl 3 d_Mod_grey_15 rfl rfl ?_
  obtain ⟨b_4, e9, h⟩ := Option.bind_eq_some_iff.mp h
  obtain ⟨e8, fs9, hb9⟩ := xo_inv e9
  obtain ⟨q_3, e9, h⟩ := Option.bind_eq_some_iff.mp h
  refine x_callP (va_runV (As := [.int x1, .int x2]) (rest := []) C0 (c_Mod_isMirrored l G w _ b_4 x1 x2 q_3 e9) (x_cwV 2 C0 kw_4_190 kw_4_193 kw_1_3 kw_4_192 kw_0_18 (by decide +kernel) (x_rm hR1 hR2 (by decide) (by decide))) (x_preV hE hH hS (ci := 5) rfl hb9) rfl rfl hl.1 (by rw [e8]; rfl) (lv_room (by simp only [List.map_cons, List.map_nil, List.sum_cons, List.sum_nil, va_rf_cat, x_catI, x_catL, x_catA] <;> decide)) d_Mod_grey_16 (x_le0 hR3 hR4)) ?_
  refine xj1 h (fun J_6 eJ_6 h => ?_)
  have kJ_6 : ∀ (x_5 : Int32) (ls : Array Slot), xL ls 8 [(0, .inr (.inl (some h0))), (1, .inl x1), (2, .inl x2), (4, .inl x4), (5, .inl v_2)] → J_6 x_5 = some res → W p l e R s m args below meth c H locs 0 0 Q (F0 m 37 ls [.int x_5]) := by
    intro x_5 ls hl h
    rw [eJ_6] at h
    refine x_istore (lv' := [(6, .inl x_5), (0, .inr (.inl (some h0))), (1, .inl x1), (2, .inl x2), (4, .inl x4), (5, .inl v_2)]) C0 hl d_Mod_grey_37 (by decide) rfl (fun ls hl => ?_)
    refine x_aload_n C0 hl 1 d_Mod_grey_39 rfl rfl ?_
    refine x_iload_n C0 hl 2 d_Mod_grey_40 rfl rfl ?_
    refine x_iload_n C0 hl 3 d_Mod_grey_41 rfl rfl ?_
    obtain ⟨b_8, e9, h⟩ := Option.bind_eq_some_iff.mp h
    obtain ⟨e8, fs9, hb9⟩ := xo_inv e9
    obtain ⟨q_7, e9, h⟩ := Option.bind_eq_some_iff.mp h
    refine x_callP (va_runV (As := [.int x1, .int x2]) (rest := []) C0 (c_Mod_isTurned l G w _ b_8 x1 x2 q_7 e9) (x_cwV 2 C0 kw_4_194 kw_4_197 kw_1_3 kw_4_196 kw_0_19 (by decide +kernel) (x_rm hR1 hR2 (by decide) (by decide))) (x_preV hE hH hS (ci := 5) rfl hb9) rfl rfl hl.1 (by rw [e8]; rfl) (lv_room (by simp only [List.map_cons, List.map_nil, List.sum_cons, List.sum_nil, va_rf_cat, x_catI, x_catL, x_catA] <;> decide)) d_Mod_grey_42 (x_le0 hR3 hR4)) ?_
    refine xj1 h (fun J_10 eJ_10 h => ?_)
    have kJ_10 : ∀ (x_9 : Int32) (ls : Array Slot), xL ls 8 [(0, .inr (.inl (some h0))), (5, .inl v_2), (6, .inl x_5)] → J_10 x_9 = some res → W p l e R s m args below meth c H locs 0 0 Q (F0 m 65 ls [.int x_9]) := by
      intro x_9 ls hl h
      rw [eJ_10] at h
      refine x_istore (lv' := [(7, .inl x_9), (0, .inr (.inl (some h0))), (5, .inl v_2), (6, .inl x_5)]) C0 hl d_Mod_grey_65 (by decide) rfl (fun ls hl => ?_)
      refine x_aload_n C0 hl 1 d_Mod_grey_67 rfl rfl ?_
      refine x_getR C0 hE hH (ci := 5) rfl i_Mod 8 (by decide) kw_4_87 d_Mod_grey_68 h (fun v_11 h => ?_)
      refine lv_sipush (v := 144) C0.1 C0.2.1 d_Mod_grey_71 (by decide) ?_
      refine x_iload C0 hl 2 d_Mod_grey_74 rfl ?_
      refine lv_imul C0.1 C0.2.1 d_Mod_grey_76 ?_
      refine lv_bipush (v := 12) C0.1 C0.2.1 d_Mod_grey_77 (by decide) ?_
      refine x_iload C0 hl 0 d_Mod_grey_79 rfl ?_
      refine lv_imul C0.1 C0.2.1 d_Mod_grey_81 ?_
      refine lv_iadd C0.1 C0.2.1 d_Mod_grey_82 ?_
      refine x_iload C0 hl 3 d_Mod_grey_83 rfl ?_
      refine lv_iadd C0.1 C0.2.1 d_Mod_grey_85 ?_
      refine x_iald C0 hE hH (t := 0) rfl d_Mod_grey_86 h (fun v_12 h => ?_)
      cases h
      rw [hQ]
      exact x_iretP C0 hr hlocks hP0 d_Mod_grey_87
    refine x_if_eq C0 63 d_Mod_grey_45 (by decide) h (fun h => ?_) (fun h => ?_)
    · refine x_iload C0 hl 4 d_Mod_grey_63 rfl ?_
      exact kJ_10 _ ls (x_sub hl [1, 5, 0] rfl) h
    · refine x_aload_n C0 hl 1 d_Mod_grey_48 rfl rfl ?_
      refine x_getR C0 hE hH (ci := 5) rfl i_Mod 5 (by decide) kw_4_84 d_Mod_grey_49 h (fun v_13 h => ?_)
      refine x_iload C0 hl 5 d_Mod_grey_52 rfl ?_
      refine x_iald C0 hE hH (t := 0) rfl d_Mod_grey_54 h (fun v_14 h => ?_)
      refine lv_iconst (v := 1) C0.1 C0.2.1 d_Mod_grey_55 (by decide) ?_
      refine lv_isub C0.1 C0.2.1 d_Mod_grey_56 ?_
      refine x_iload C0 hl 4 d_Mod_grey_57 rfl ?_
      refine lv_isub C0.1 C0.2.1 d_Mod_grey_59 ?_
      refine x_goto C0 65 d_Mod_grey_60 (by decide) ?_
      exact kJ_10 _ ls (x_sub hl [1, 5, 0] rfl) h
  refine x_if_eq C0 36 d_Mod_grey_19 (by decide) h (fun h => ?_) (fun h => ?_)
  · refine x_iload_n C0 hl 4 d_Mod_grey_36 rfl rfl ?_
    exact kJ_6 _ ls (x_sub hl [1, 2, 3, 5, 0] rfl) h
  · refine x_aload_n C0 hl 1 d_Mod_grey_22 rfl rfl ?_
    refine x_getR C0 hE hH (ci := 5) rfl i_Mod 4 (by decide) kw_4_83 d_Mod_grey_23 h (fun v_15 h => ?_)
    refine x_iload C0 hl 0 d_Mod_grey_26 rfl ?_
    refine x_iald C0 hE hH (t := 0) rfl d_Mod_grey_28 h (fun v_16 h => ?_)
    refine lv_iconst (v := 1) C0.1 C0.2.1 d_Mod_grey_29 (by decide) ?_
    refine lv_isub C0.1 C0.2.1 d_Mod_grey_30 ?_
    refine x_iload_n C0 hl 4 d_Mod_grey_31 rfl rfl ?_
    refine lv_isub C0.1 C0.2.1 d_Mod_grey_32 ?_
    refine x_goto C0 37 d_Mod_grey_33 (by decide) ?_
    exact kJ_6 _ ls (x_sub hl [1, 2, 3, 5, 0] rfl) h
theorem d_Mod_wide_0 : decode b_Mod_wide 0 = .ok (.aload_n 0, 1) := by decide +kernel
theorem d_Mod_wide_1 : decode b_Mod_wide 1 = .ok (.getfield 16, 3) := by decide +kernel
theorem d_Mod_wide_4 : decode b_Mod_wide 4 = .ok (.aload_n 0, 1) := by decide +kernel
theorem d_Mod_wide_5 : decode b_Mod_wide 5 = .ok (.getfield 38, 3) := by decide +kernel
theorem d_Mod_wide_8 : decode b_Mod_wide 8 = .ok (.bipush 8, 2) := by decide +kernel
theorem d_Mod_wide_10 : decode b_Mod_wide 10 = .ok (.iload_n 1, 1) := by decide +kernel
theorem d_Mod_wide_11 : decode b_Mod_wide 11 = .ok (.imul, 1) := by decide +kernel
theorem d_Mod_wide_12 : decode b_Mod_wide 12 = .ok (.iload_n 2, 1) := by decide +kernel
theorem d_Mod_wide_13 : decode b_Mod_wide 13 = .ok (.iadd, 1) := by decide +kernel
theorem d_Mod_wide_14 : decode b_Mod_wide 14 = .ok (.iaload, 1) := by decide +kernel
theorem d_Mod_wide_15 : decode b_Mod_wide 15 = .ok (.iaload, 1) := by decide +kernel
theorem d_Mod_wide_16 : decode b_Mod_wide 16 = .ok (.ireturn, 1) := by decide +kernel
def f_Mod_wide (w : Mp) (h0 : Nat) (x1 : Int32) (x2 : Int32) : Option (Int32) := (gR w (some h0) 5 4).bind fun v_1 => (gR w (some h0) 5 12).bind fun v_2 => (aI w v_2 0 (((8 : Int32) * x1) + x2)).bind fun v_3 => (aI w v_1 0 v_3).bind fun v_4 => some v_4
set_option maxHeartbeats 4000000 in
set_option maxRecDepth 100000 in
theorem c_Mod_wide (l : Launch) (G : Gx) (w : Mp) (sz : Nat) (h0 : Nat) (x1 : Int32) (x2 : Int32) (res : Int32) (hf : f_Mod_wide w h0 x1 x2 = some res) : Met l y_Mod_wide (xws y_Mod_wide b_Mod_wide 3 (some .int)) { frames := 0, cells := 0, slots := 0, locals := 0 } (xPc G vwCl xaty w sz [va_rf (some h0), .int x1, .int x2]) (qP (some (.int res))) 0 0 (fun _ => False) := by
  refine Met.ofW (cc := b_Mod_wide) (maxL := 3) (ret := (some .int)) (by decide) rfl ?_
  intro p e s m args below meth c s₁ B hml hv
  obtain ⟨ha, hE, hH, hz⟩ := hv
  have C0 : CallFix p m c b_Mod_wide 3 s args wA R_Mod := ⟨B.exec, B.bytes, hml, findClass_of_methodNamed B.named, fun w hw => atoms_spec (ws := xws y_Mod_wide b_Mod_wide 3 (some .int)) B.pre w (List.mem_cons_of_mem _ hw)⟩
  have hr := B.returns
  have hlocks := B.notSynchronized
  obtain ⟨R, hR⟩ : ∃ R, R = (headSpec (xws y_Mod_wide b_Mod_wide 3 (some .int)) { frames := 0, cells := 0, slots := 0, locals := 0 }).room := ⟨_, rfl⟩
  have hR1 : 0 ≤ R.frames := by rw [hR]; exact Nat.le_of_ble_eq_true rfl
  have hR2 : 0 ≤ R.locals := by rw [hR]; exact Nat.le_of_ble_eq_true rfl
  have hR3 : 0 ≤ R.cells := Nat.zero_le _
  have hR4 : 0 ≤ R.slots := Nat.zero_le _
  rw [← hR]
  obtain ⟨Q, hQ⟩ : ∃ Q, Q = MQ below (qP (some (.int res))) args s 0 0 (fun _ => False) := ⟨_, rfl⟩
  rw [← hQ]
  have hS : xS G s s.heap [] := va_S.rf
  obtain ⟨ls, he, hl⟩ := x_entry m [.inr (.inl (some h0)), .inl x1, .inl x2] 3 (Nat.le_of_ble_eq_true rfl)
  rw [show entryFrame m args 3 = F0 m 0 ls [] by rw [ha]; exact he]
  have hl : xL ls 3 [(0, .inr (.inl (some h0))), (1, .inl x1), (2, .inl x2)] := hl
  have h := hf
  unfold f_Mod_wide at h
  suffices hmain : ∀ (H : Heap) (locs : List Loc), xhd G vwCl w H → xS G s H locs → H.size = sz → (H = s.heap ∧ locs = []) → W p l e R s m args below meth c H locs 0 0 Q (F0 m 0 ls []) from hmain _ _ hH hS hz ⟨rfl, rfl⟩
  clear hH hS hz
  intro H locs hH hS hz hP0
  refine x_aload_n C0 hl 0 d_Mod_wide_0 rfl rfl ?_
  refine x_getR C0 hE hH (ci := 5) rfl i_Mod 4 (by decide) kw_4_83 d_Mod_wide_1 h (fun v_1 h => ?_)
  refine x_aload_n C0 hl 0 d_Mod_wide_4 rfl rfl ?_
  refine x_getR C0 hE hH (ci := 5) rfl i_Mod 12 (by decide) kw_4_91 d_Mod_wide_5 h (fun v_2 h => ?_)
  refine lv_bipush (v := 8) C0.1 C0.2.1 d_Mod_wide_8 (by decide) ?_
  refine x_iload_n C0 hl 1 d_Mod_wide_10 rfl rfl ?_
  refine lv_imul C0.1 C0.2.1 d_Mod_wide_11 ?_
  refine x_iload_n C0 hl 2 d_Mod_wide_12 rfl rfl ?_
  refine lv_iadd C0.1 C0.2.1 d_Mod_wide_13 ?_
  refine x_iald C0 hE hH (t := 0) rfl d_Mod_wide_14 h (fun v_3 h => ?_)
  refine x_iald C0 hE hH (t := 0) rfl d_Mod_wide_15 h (fun v_4 h => ?_)
  cases h
  rw [hQ]
  exact x_iretP C0 hr hlocks hP0 d_Mod_wide_16
theorem d_Mod_high_0 : decode b_Mod_high 0 = .ok (.aload_n 0, 1) := by decide +kernel
theorem d_Mod_high_1 : decode b_Mod_high 1 = .ok (.getfield 19, 3) := by decide +kernel
theorem d_Mod_high_4 : decode b_Mod_high 4 = .ok (.aload_n 0, 1) := by decide +kernel
theorem d_Mod_high_5 : decode b_Mod_high 5 = .ok (.getfield 38, 3) := by decide +kernel
theorem d_Mod_high_8 : decode b_Mod_high 8 = .ok (.bipush 8, 2) := by decide +kernel
theorem d_Mod_high_10 : decode b_Mod_high 10 = .ok (.iload_n 1, 1) := by decide +kernel
theorem d_Mod_high_11 : decode b_Mod_high 11 = .ok (.imul, 1) := by decide +kernel
theorem d_Mod_high_12 : decode b_Mod_high 12 = .ok (.iload_n 2, 1) := by decide +kernel
theorem d_Mod_high_13 : decode b_Mod_high 13 = .ok (.iadd, 1) := by decide +kernel
theorem d_Mod_high_14 : decode b_Mod_high 14 = .ok (.iaload, 1) := by decide +kernel
theorem d_Mod_high_15 : decode b_Mod_high 15 = .ok (.iaload, 1) := by decide +kernel
theorem d_Mod_high_16 : decode b_Mod_high 16 = .ok (.ireturn, 1) := by decide +kernel
def f_Mod_high (w : Mp) (h0 : Nat) (x1 : Int32) (x2 : Int32) : Option (Int32) := (gR w (some h0) 5 5).bind fun v_1 => (gR w (some h0) 5 12).bind fun v_2 => (aI w v_2 0 (((8 : Int32) * x1) + x2)).bind fun v_3 => (aI w v_1 0 v_3).bind fun v_4 => some v_4
set_option maxHeartbeats 4000000 in
set_option maxRecDepth 100000 in
theorem c_Mod_high (l : Launch) (G : Gx) (w : Mp) (sz : Nat) (h0 : Nat) (x1 : Int32) (x2 : Int32) (res : Int32) (hf : f_Mod_high w h0 x1 x2 = some res) : Met l y_Mod_high (xws y_Mod_high b_Mod_high 3 (some .int)) { frames := 0, cells := 0, slots := 0, locals := 0 } (xPc G vwCl xaty w sz [va_rf (some h0), .int x1, .int x2]) (qP (some (.int res))) 0 0 (fun _ => False) := by
  refine Met.ofW (cc := b_Mod_high) (maxL := 3) (ret := (some .int)) (by decide) rfl ?_
  intro p e s m args below meth c s₁ B hml hv
  obtain ⟨ha, hE, hH, hz⟩ := hv
  have C0 : CallFix p m c b_Mod_high 3 s args wA R_Mod := ⟨B.exec, B.bytes, hml, findClass_of_methodNamed B.named, fun w hw => atoms_spec (ws := xws y_Mod_high b_Mod_high 3 (some .int)) B.pre w (List.mem_cons_of_mem _ hw)⟩
  have hr := B.returns
  have hlocks := B.notSynchronized
  obtain ⟨R, hR⟩ : ∃ R, R = (headSpec (xws y_Mod_high b_Mod_high 3 (some .int)) { frames := 0, cells := 0, slots := 0, locals := 0 }).room := ⟨_, rfl⟩
  have hR1 : 0 ≤ R.frames := by rw [hR]; exact Nat.le_of_ble_eq_true rfl
  have hR2 : 0 ≤ R.locals := by rw [hR]; exact Nat.le_of_ble_eq_true rfl
  have hR3 : 0 ≤ R.cells := Nat.zero_le _
  have hR4 : 0 ≤ R.slots := Nat.zero_le _
  rw [← hR]
  obtain ⟨Q, hQ⟩ : ∃ Q, Q = MQ below (qP (some (.int res))) args s 0 0 (fun _ => False) := ⟨_, rfl⟩
  rw [← hQ]
  have hS : xS G s s.heap [] := va_S.rf
  obtain ⟨ls, he, hl⟩ := x_entry m [.inr (.inl (some h0)), .inl x1, .inl x2] 3 (Nat.le_of_ble_eq_true rfl)
  rw [show entryFrame m args 3 = F0 m 0 ls [] by rw [ha]; exact he]
  have hl : xL ls 3 [(0, .inr (.inl (some h0))), (1, .inl x1), (2, .inl x2)] := hl
  have h := hf
  unfold f_Mod_high at h
  suffices hmain : ∀ (H : Heap) (locs : List Loc), xhd G vwCl w H → xS G s H locs → H.size = sz → (H = s.heap ∧ locs = []) → W p l e R s m args below meth c H locs 0 0 Q (F0 m 0 ls []) from hmain _ _ hH hS hz ⟨rfl, rfl⟩
  clear hH hS hz
  intro H locs hH hS hz hP0
  refine x_aload_n C0 hl 0 d_Mod_high_0 rfl rfl ?_
  refine x_getR C0 hE hH (ci := 5) rfl i_Mod 5 (by decide) kw_4_84 d_Mod_high_1 h (fun v_1 h => ?_)
  refine x_aload_n C0 hl 0 d_Mod_high_4 rfl rfl ?_
  refine x_getR C0 hE hH (ci := 5) rfl i_Mod 12 (by decide) kw_4_91 d_Mod_high_5 h (fun v_2 h => ?_)
  refine lv_bipush (v := 8) C0.1 C0.2.1 d_Mod_high_8 (by decide) ?_
  refine x_iload_n C0 hl 1 d_Mod_high_10 rfl rfl ?_
  refine lv_imul C0.1 C0.2.1 d_Mod_high_11 ?_
  refine x_iload_n C0 hl 2 d_Mod_high_12 rfl rfl ?_
  refine lv_iadd C0.1 C0.2.1 d_Mod_high_13 ?_
  refine x_iald C0 hE hH (t := 0) rfl d_Mod_high_14 h (fun v_3 h => ?_)
  refine x_iald C0 hE hH (t := 0) rfl d_Mod_high_15 h (fun v_4 h => ?_)
  cases h
  rw [hQ]
  exact x_iretP C0 hr hlocks hP0 d_Mod_high_16
theorem d_Mod_seams_0 : decode b_Mod_seams 0 = .ok (.aload_n 0, 1) := by decide +kernel
theorem d_Mod_seams_1 : decode b_Mod_seams 1 = .ok (.getfield 32, 3) := by decide +kernel
theorem d_Mod_seams_4 : decode b_Mod_seams 4 = .ok (.iload_n 1, 1) := by decide +kernel
theorem d_Mod_seams_5 : decode b_Mod_seams 5 = .ok (.iaload, 1) := by decide +kernel
theorem d_Mod_seams_6 : decode b_Mod_seams 6 = .ok (.iconst 3, 1) := by decide +kernel
theorem d_Mod_seams_7 : decode b_Mod_seams 7 = .ok (.if_icmp .ne 7, 3) := by decide +kernel
theorem d_Mod_seams_10 : decode b_Mod_seams 10 = .ok (.iconst 2, 1) := by decide +kernel
theorem d_Mod_seams_11 : decode b_Mod_seams 11 = .ok (.goto 11, 3) := by decide +kernel
theorem d_Mod_seams_14 : decode b_Mod_seams 14 = .ok (.aload_n 0, 1) := by decide +kernel
theorem d_Mod_seams_15 : decode b_Mod_seams 15 = .ok (.getfield 35, 3) := by decide +kernel
theorem d_Mod_seams_18 : decode b_Mod_seams 18 = .ok (.iload_n 1, 1) := by decide +kernel
theorem d_Mod_seams_19 : decode b_Mod_seams 19 = .ok (.iaload, 1) := by decide +kernel
theorem d_Mod_seams_20 : decode b_Mod_seams 20 = .ok (.iconst 1, 1) := by decide +kernel
theorem d_Mod_seams_21 : decode b_Mod_seams 21 = .ok (.isub, 1) := by decide +kernel
theorem d_Mod_seams_22 : decode b_Mod_seams 22 = .ok (.ireturn, 1) := by decide +kernel
def f_Mod_seams (w : Mp) (h0 : Nat) (x1 : Int32) : Option (Int32) := (gR w (some h0) 5 10).bind fun v_1 => (aI w v_1 0 x1).bind fun v_2 => if v_2 = (3 : Int32) then (some (2 : Int32)) else ((gR w (some h0) 5 11).bind fun v_3 => (aI w v_3 0 x1).bind fun v_4 => some (v_4 - (1 : Int32)))
set_option maxHeartbeats 4000000 in
set_option maxRecDepth 100000 in
theorem c_Mod_seams (l : Launch) (G : Gx) (w : Mp) (sz : Nat) (h0 : Nat) (x1 : Int32) (res : Int32) (hf : f_Mod_seams w h0 x1 = some res) : Met l y_Mod_seams (xws y_Mod_seams b_Mod_seams 2 (some .int)) { frames := 0, cells := 0, slots := 0, locals := 0 } (xPc G vwCl xaty w sz [va_rf (some h0), .int x1]) (qP (some (.int res))) 0 0 (fun _ => False) := by
  refine Met.ofW (cc := b_Mod_seams) (maxL := 2) (ret := (some .int)) (by decide) rfl ?_
  intro p e s m args below meth c s₁ B hml hv
  obtain ⟨ha, hE, hH, hz⟩ := hv
  have C0 : CallFix p m c b_Mod_seams 2 s args wA R_Mod := ⟨B.exec, B.bytes, hml, findClass_of_methodNamed B.named, fun w hw => atoms_spec (ws := xws y_Mod_seams b_Mod_seams 2 (some .int)) B.pre w (List.mem_cons_of_mem _ hw)⟩
  have hr := B.returns
  have hlocks := B.notSynchronized
  obtain ⟨R, hR⟩ : ∃ R, R = (headSpec (xws y_Mod_seams b_Mod_seams 2 (some .int)) { frames := 0, cells := 0, slots := 0, locals := 0 }).room := ⟨_, rfl⟩
  have hR1 : 0 ≤ R.frames := by rw [hR]; exact Nat.le_of_ble_eq_true rfl
  have hR2 : 0 ≤ R.locals := by rw [hR]; exact Nat.le_of_ble_eq_true rfl
  have hR3 : 0 ≤ R.cells := Nat.zero_le _
  have hR4 : 0 ≤ R.slots := Nat.zero_le _
  rw [← hR]
  obtain ⟨Q, hQ⟩ : ∃ Q, Q = MQ below (qP (some (.int res))) args s 0 0 (fun _ => False) := ⟨_, rfl⟩
  rw [← hQ]
  have hS : xS G s s.heap [] := va_S.rf
  obtain ⟨ls, he, hl⟩ := x_entry m [.inr (.inl (some h0)), .inl x1] 2 (Nat.le_of_ble_eq_true rfl)
  rw [show entryFrame m args 2 = F0 m 0 ls [] by rw [ha]; exact he]
  have hl : xL ls 2 [(0, .inr (.inl (some h0))), (1, .inl x1)] := hl
  have h := hf
  unfold f_Mod_seams at h
  suffices hmain : ∀ (H : Heap) (locs : List Loc), xhd G vwCl w H → xS G s H locs → H.size = sz → (H = s.heap ∧ locs = []) → W p l e R s m args below meth c H locs 0 0 Q (F0 m 0 ls []) from hmain _ _ hH hS hz ⟨rfl, rfl⟩
  clear hH hS hz
  intro H locs hH hS hz hP0
  refine x_aload_n C0 hl 0 d_Mod_seams_0 rfl rfl ?_
  refine x_getR C0 hE hH (ci := 5) rfl i_Mod 10 (by decide) kw_4_89 d_Mod_seams_1 h (fun v_1 h => ?_)
  refine x_iload_n C0 hl 1 d_Mod_seams_4 rfl rfl ?_
  refine x_iald C0 hE hH (t := 0) rfl d_Mod_seams_5 h (fun v_2 h => ?_)
  refine lv_iconst (v := 3) C0.1 C0.2.1 d_Mod_seams_6 (by decide) ?_
  refine x_icmp_ne C0 14 d_Mod_seams_7 (by decide) h (fun h => ?_) (fun h => ?_)
  · refine x_aload_n C0 hl 0 d_Mod_seams_14 rfl rfl ?_
    refine x_getR C0 hE hH (ci := 5) rfl i_Mod 11 (by decide) kw_4_90 d_Mod_seams_15 h (fun v_3 h => ?_)
    refine x_iload_n C0 hl 1 d_Mod_seams_18 rfl rfl ?_
    refine x_iald C0 hE hH (t := 0) rfl d_Mod_seams_19 h (fun v_4 h => ?_)
    refine lv_iconst (v := 1) C0.1 C0.2.1 d_Mod_seams_20 (by decide) ?_
    refine lv_isub C0.1 C0.2.1 d_Mod_seams_21 ?_
    cases h
    rw [hQ]
    exact x_iretP C0 hr hlocks hP0 d_Mod_seams_22
  · refine lv_iconst (v := 2) C0.1 C0.2.1 d_Mod_seams_10 (by decide) ?_
    refine x_goto C0 22 d_Mod_seams_11 (by decide) ?_
    cases h
    rw [hQ]
    exact x_iretP C0 hr hlocks hP0 d_Mod_seams_22
theorem d_Mod_leftOf_0 : decode b_Mod_leftOf 0 = .ok (.aload_n 0, 1) := by decide +kernel
theorem d_Mod_leftOf_1 : decode b_Mod_leftOf 1 = .ok (.getfield 32, 3) := by decide +kernel
theorem d_Mod_leftOf_4 : decode b_Mod_leftOf 4 = .ok (.iload_n 1, 1) := by decide +kernel
theorem d_Mod_leftOf_5 : decode b_Mod_leftOf 5 = .ok (.iaload, 1) := by decide +kernel
theorem d_Mod_leftOf_6 : decode b_Mod_leftOf 6 = .ok (.iconst 3, 1) := by decide +kernel
theorem d_Mod_leftOf_7 : decode b_Mod_leftOf 7 = .ok (.if_icmp .ne 9, 3) := by decide +kernel
theorem d_Mod_leftOf_10 : decode b_Mod_leftOf 10 = .ok (.iconst 2, 1) := by decide +kernel
theorem d_Mod_leftOf_11 : decode b_Mod_leftOf 11 = .ok (.iload_n 2, 1) := by decide +kernel
theorem d_Mod_leftOf_12 : decode b_Mod_leftOf 12 = .ok (.imul, 1) := by decide +kernel
theorem d_Mod_leftOf_13 : decode b_Mod_leftOf 13 = .ok (.goto 4, 3) := by decide +kernel
theorem d_Mod_leftOf_16 : decode b_Mod_leftOf 16 = .ok (.iload_n 2, 1) := by decide +kernel
theorem d_Mod_leftOf_17 : decode b_Mod_leftOf 17 = .ok (.ireturn, 1) := by decide +kernel
def f_Mod_leftOf (w : Mp) (h0 : Nat) (x1 : Int32) (x2 : Int32) : Option (Int32) := (gR w (some h0) 5 10).bind fun v_1 => (aI w v_1 0 x1).bind fun v_2 => if v_2 = (3 : Int32) then (some ((2 : Int32) * x2)) else (some x2)
set_option maxHeartbeats 4000000 in
set_option maxRecDepth 100000 in
theorem c_Mod_leftOf (l : Launch) (G : Gx) (w : Mp) (sz : Nat) (h0 : Nat) (x1 : Int32) (x2 : Int32) (res : Int32) (hf : f_Mod_leftOf w h0 x1 x2 = some res) : Met l y_Mod_leftOf (xws y_Mod_leftOf b_Mod_leftOf 3 (some .int)) { frames := 0, cells := 0, slots := 0, locals := 0 } (xPc G vwCl xaty w sz [va_rf (some h0), .int x1, .int x2]) (qP (some (.int res))) 0 0 (fun _ => False) := by
  refine Met.ofW (cc := b_Mod_leftOf) (maxL := 3) (ret := (some .int)) (by decide) rfl ?_
  intro p e s m args below meth c s₁ B hml hv
  obtain ⟨ha, hE, hH, hz⟩ := hv
  have C0 : CallFix p m c b_Mod_leftOf 3 s args wA R_Mod := ⟨B.exec, B.bytes, hml, findClass_of_methodNamed B.named, fun w hw => atoms_spec (ws := xws y_Mod_leftOf b_Mod_leftOf 3 (some .int)) B.pre w (List.mem_cons_of_mem _ hw)⟩
  have hr := B.returns
  have hlocks := B.notSynchronized
  obtain ⟨R, hR⟩ : ∃ R, R = (headSpec (xws y_Mod_leftOf b_Mod_leftOf 3 (some .int)) { frames := 0, cells := 0, slots := 0, locals := 0 }).room := ⟨_, rfl⟩
  have hR1 : 0 ≤ R.frames := by rw [hR]; exact Nat.le_of_ble_eq_true rfl
  have hR2 : 0 ≤ R.locals := by rw [hR]; exact Nat.le_of_ble_eq_true rfl
  have hR3 : 0 ≤ R.cells := Nat.zero_le _
  have hR4 : 0 ≤ R.slots := Nat.zero_le _
  rw [← hR]
  obtain ⟨Q, hQ⟩ : ∃ Q, Q = MQ below (qP (some (.int res))) args s 0 0 (fun _ => False) := ⟨_, rfl⟩
  rw [← hQ]
  have hS : xS G s s.heap [] := va_S.rf
  obtain ⟨ls, he, hl⟩ := x_entry m [.inr (.inl (some h0)), .inl x1, .inl x2] 3 (Nat.le_of_ble_eq_true rfl)
  rw [show entryFrame m args 3 = F0 m 0 ls [] by rw [ha]; exact he]
  have hl : xL ls 3 [(0, .inr (.inl (some h0))), (1, .inl x1), (2, .inl x2)] := hl
  have h := hf
  unfold f_Mod_leftOf at h
  suffices hmain : ∀ (H : Heap) (locs : List Loc), xhd G vwCl w H → xS G s H locs → H.size = sz → (H = s.heap ∧ locs = []) → W p l e R s m args below meth c H locs 0 0 Q (F0 m 0 ls []) from hmain _ _ hH hS hz ⟨rfl, rfl⟩
  clear hH hS hz
  intro H locs hH hS hz hP0
  refine x_aload_n C0 hl 0 d_Mod_leftOf_0 rfl rfl ?_
  refine x_getR C0 hE hH (ci := 5) rfl i_Mod 10 (by decide) kw_4_89 d_Mod_leftOf_1 h (fun v_1 h => ?_)
  refine x_iload_n C0 hl 1 d_Mod_leftOf_4 rfl rfl ?_
  refine x_iald C0 hE hH (t := 0) rfl d_Mod_leftOf_5 h (fun v_2 h => ?_)
  refine lv_iconst (v := 3) C0.1 C0.2.1 d_Mod_leftOf_6 (by decide) ?_
  refine x_icmp_ne C0 16 d_Mod_leftOf_7 (by decide) h (fun h => ?_) (fun h => ?_)
  · refine x_iload_n C0 hl 2 d_Mod_leftOf_16 rfl rfl ?_
    cases h
    rw [hQ]
    exact x_iretP C0 hr hlocks hP0 d_Mod_leftOf_17
  · refine lv_iconst (v := 2) C0.1 C0.2.1 d_Mod_leftOf_10 (by decide) ?_
    refine x_iload_n C0 hl 2 d_Mod_leftOf_11 rfl rfl ?_
    refine lv_imul C0.1 C0.2.1 d_Mod_leftOf_12 ?_
    refine x_goto C0 17 d_Mod_leftOf_13 (by decide) ?_
    cases h
    rw [hQ]
    exact x_iretP C0 hr hlocks hP0 d_Mod_leftOf_17
theorem d_Mod_sumAt_0 : decode b_Mod_sumAt 0 = .ok (.aload_n 0, 1) := by decide +kernel
theorem d_Mod_sumAt_1 : decode b_Mod_sumAt 1 = .ok (.iload_n 1, 1) := by decide +kernel
theorem d_Mod_sumAt_2 : decode b_Mod_sumAt 2 = .ok (.iload_n 2, 1) := by decide +kernel
theorem d_Mod_sumAt_3 : decode b_Mod_sumAt 3 = .ok (.invokevirtual 95, 3) := by decide +kernel
theorem d_Mod_sumAt_6 : decode b_Mod_sumAt 6 = .ok (.istore 4, 2) := by decide +kernel
theorem d_Mod_sumAt_8 : decode b_Mod_sumAt 8 = .ok (.iconst 0, 1) := by decide +kernel
theorem d_Mod_sumAt_9 : decode b_Mod_sumAt 9 = .ok (.istore 5, 2) := by decide +kernel
theorem d_Mod_sumAt_11 : decode b_Mod_sumAt 11 = .ok (.iconst 0, 1) := by decide +kernel
theorem d_Mod_sumAt_12 : decode b_Mod_sumAt 12 = .ok (.istore 6, 2) := by decide +kernel
theorem d_Mod_sumAt_14 : decode b_Mod_sumAt 14 = .ok (.iload 6, 2) := by decide +kernel
theorem d_Mod_sumAt_16 : decode b_Mod_sumAt 16 = .ok (.aload_n 0, 1) := by decide +kernel
theorem d_Mod_sumAt_17 : decode b_Mod_sumAt 17 = .ok (.iload_n 1, 1) := by decide +kernel
theorem d_Mod_sumAt_18 : decode b_Mod_sumAt 18 = .ok (.iload 4, 2) := by decide +kernel
theorem d_Mod_sumAt_20 : decode b_Mod_sumAt 20 = .ok (.invokevirtual 99, 3) := by decide +kernel
theorem d_Mod_sumAt_23 : decode b_Mod_sumAt 23 = .ok (.if_icmp .ge 94, 3) := by decide +kernel
theorem d_Mod_sumAt_26 : decode b_Mod_sumAt 26 = .ok (.iload 6, 2) := by decide +kernel
theorem d_Mod_sumAt_28 : decode b_Mod_sumAt 28 = .ok (.iload_n 3, 1) := by decide +kernel
theorem d_Mod_sumAt_29 : decode b_Mod_sumAt 29 = .ok (.isub, 1) := by decide +kernel
theorem d_Mod_sumAt_30 : decode b_Mod_sumAt 30 = .ok (.istore 7, 2) := by decide +kernel
theorem d_Mod_sumAt_32 : decode b_Mod_sumAt 32 = .ok (.iload 7, 2) := by decide +kernel
theorem d_Mod_sumAt_34 : decode b_Mod_sumAt 34 = .ok (.ifCond .lt 17, 3) := by decide +kernel
theorem d_Mod_sumAt_37 : decode b_Mod_sumAt 37 = .ok (.iload 7, 2) := by decide +kernel
theorem d_Mod_sumAt_39 : decode b_Mod_sumAt 39 = .ok (.aload_n 0, 1) := by decide +kernel
theorem d_Mod_sumAt_40 : decode b_Mod_sumAt 40 = .ok (.iload_n 1, 1) := by decide +kernel
theorem d_Mod_sumAt_41 : decode b_Mod_sumAt 41 = .ok (.iload 4, 2) := by decide +kernel
theorem d_Mod_sumAt_43 : decode b_Mod_sumAt 43 = .ok (.iconst 1, 1) := by decide +kernel
theorem d_Mod_sumAt_44 : decode b_Mod_sumAt 44 = .ok (.iadd, 1) := by decide +kernel
theorem d_Mod_sumAt_45 : decode b_Mod_sumAt 45 = .ok (.invokevirtual 99, 3) := by decide +kernel
theorem d_Mod_sumAt_48 : decode b_Mod_sumAt 48 = .ok (.if_icmp .lt 12, 3) := by decide +kernel
theorem d_Mod_sumAt_51 : decode b_Mod_sumAt 51 = .ok (.iinc 5 255, 6) := by decide +kernel
theorem d_Mod_sumAt_57 : decode b_Mod_sumAt 57 = .ok (.goto 54, 3) := by decide +kernel
theorem d_Mod_sumAt_60 : decode b_Mod_sumAt 60 = .ok (.aload_n 0, 1) := by decide +kernel
theorem d_Mod_sumAt_61 : decode b_Mod_sumAt 61 = .ok (.iload_n 1, 1) := by decide +kernel
theorem d_Mod_sumAt_62 : decode b_Mod_sumAt 62 = .ok (.iload 4, 2) := by decide +kernel
theorem d_Mod_sumAt_64 : decode b_Mod_sumAt 64 = .ok (.aload_n 0, 1) := by decide +kernel
theorem d_Mod_sumAt_65 : decode b_Mod_sumAt 65 = .ok (.iload_n 1, 1) := by decide +kernel
theorem d_Mod_sumAt_66 : decode b_Mod_sumAt 66 = .ok (.iload 4, 2) := by decide +kernel
theorem d_Mod_sumAt_68 : decode b_Mod_sumAt 68 = .ok (.invokevirtual 102, 3) := by decide +kernel
theorem d_Mod_sumAt_71 : decode b_Mod_sumAt 71 = .ok (.iconst 1, 1) := by decide +kernel
theorem d_Mod_sumAt_72 : decode b_Mod_sumAt 72 = .ok (.isub, 1) := by decide +kernel
theorem d_Mod_sumAt_73 : decode b_Mod_sumAt 73 = .ok (.iload 6, 2) := by decide +kernel
theorem d_Mod_sumAt_75 : decode b_Mod_sumAt 75 = .ok (.invokevirtual 105, 3) := by decide +kernel
theorem d_Mod_sumAt_78 : decode b_Mod_sumAt 78 = .ok (.aload_n 0, 1) := by decide +kernel
theorem d_Mod_sumAt_79 : decode b_Mod_sumAt 79 = .ok (.iload_n 1, 1) := by decide +kernel
theorem d_Mod_sumAt_80 : decode b_Mod_sumAt 80 = .ok (.iload 4, 2) := by decide +kernel
theorem d_Mod_sumAt_82 : decode b_Mod_sumAt 82 = .ok (.iconst 1, 1) := by decide +kernel
theorem d_Mod_sumAt_83 : decode b_Mod_sumAt 83 = .ok (.iadd, 1) := by decide +kernel
theorem d_Mod_sumAt_84 : decode b_Mod_sumAt 84 = .ok (.iconst 0, 1) := by decide +kernel
theorem d_Mod_sumAt_85 : decode b_Mod_sumAt 85 = .ok (.iload 7, 2) := by decide +kernel
theorem d_Mod_sumAt_87 : decode b_Mod_sumAt 87 = .ok (.invokevirtual 105, 3) := by decide +kernel
theorem d_Mod_sumAt_90 : decode b_Mod_sumAt 90 = .ok (.isub, 1) := by decide +kernel
theorem d_Mod_sumAt_91 : decode b_Mod_sumAt 91 = .ok (.istore 8, 2) := by decide +kernel
theorem d_Mod_sumAt_93 : decode b_Mod_sumAt 93 = .ok (.iload 5, 2) := by decide +kernel
theorem d_Mod_sumAt_95 : decode b_Mod_sumAt 95 = .ok (.iload 8, 2) := by decide +kernel
theorem d_Mod_sumAt_97 : decode b_Mod_sumAt 97 = .ok (.ifCond .ge 9, 3) := by decide +kernel
theorem d_Mod_sumAt_100 : decode b_Mod_sumAt 100 = .ok (.iload 8, 2) := by decide +kernel
theorem d_Mod_sumAt_102 : decode b_Mod_sumAt 102 = .ok (.ineg, 1) := by decide +kernel
theorem d_Mod_sumAt_103 : decode b_Mod_sumAt 103 = .ok (.goto 5, 3) := by decide +kernel
theorem d_Mod_sumAt_106 : decode b_Mod_sumAt 106 = .ok (.iload 8, 2) := by decide +kernel
theorem d_Mod_sumAt_108 : decode b_Mod_sumAt 108 = .ok (.iadd, 1) := by decide +kernel
theorem d_Mod_sumAt_109 : decode b_Mod_sumAt 109 = .ok (.istore 5, 2) := by decide +kernel
theorem d_Mod_sumAt_111 : decode b_Mod_sumAt 111 = .ok (.iinc 6 1, 3) := by decide +kernel
theorem d_Mod_sumAt_114 : decode b_Mod_sumAt 114 = .ok (.goto (-100), 3) := by decide +kernel
theorem d_Mod_sumAt_117 : decode b_Mod_sumAt 117 = .ok (.iload 5, 2) := by decide +kernel
theorem d_Mod_sumAt_119 : decode b_Mod_sumAt 119 = .ok (.ireturn, 1) := by decide +kernel
def f_Mod_sumAt_L14 (w : Mp) (h0 : Nat) (x1 : Int32) (x3 : Int32) (x4 : Int32) : Nat → Int32 → Int32 → Option (Nat × Int32 × Int32)
  | 0, _, _ => none
  | n + 1, x5, x6 => (xo w (some h0) 5).bind fun b_4 => (f_Mod_high w b_4 x1 x4).bind fun q_3 => if q_3 ≤ x6 then (some (0, x5, x6)) else (if (x6 - x3) < 0 then (f_Mod_sumAt_L14 w h0 x1 x3 x4 n (x5 + 255) (x6 + 1)) else ((xo w (some h0) 5).bind fun b_6 => (f_Mod_high w b_6 x1 (x4 + (1 : Int32))).bind fun q_5 => if (x6 - x3) < q_5 then ((xo w (some h0) 5).bind fun b_8 => (f_Mod_wide w b_8 x1 x4).bind fun q_7 => (xo w (some h0) 5).bind fun b_10 => (f_Mod_grey w b_10 x1 x4 (q_7 - (1 : Int32)) x6).bind fun q_9 => (xo w (some h0) 5).bind fun b_12 => (f_Mod_grey w b_12 x1 (x4 + (1 : Int32)) (0 : Int32) (x6 - x3)).bind fun q_11 => if 0 ≤ (q_9 - q_11) then (f_Mod_sumAt_L14 w h0 x1 x3 x4 n (x5 + (q_9 - q_11)) (x6 + 1)) else (f_Mod_sumAt_L14 w h0 x1 x3 x4 n (x5 + (-(q_9 - q_11))) (x6 + 1))) else (f_Mod_sumAt_L14 w h0 x1 x3 x4 n (x5 + 255) (x6 + 1))))
set_option maxHeartbeats 4000000 in
set_option maxRecDepth 100000 in
theorem w_Mod_sumAt_L14 {p : Program} {l : Launch} {e : Env} {R : Room} {s : State} {m : MethodId} {args : Array Value} {below : List Frame} {meth : Method} {c : Code} {Q : State → Prop} {cells slots sz : Nat} {G : Gx} {h0 : Nat} {x1 : Int32} {x3 : Int32} {x4 : Int32} (C0 : CallFix p m c b_Mod_sumAt 9 s args wA R_Mod) (hE : xE G vwCl xaty s) (hR1 : 2 ≤ R.frames) (hR2 : 49 ≤ R.locals) (hR3 : cells ≤ R.cells) (hR4 : slots ≤ R.slots) {w : Mp} {H : Heap} {locs : List Loc} (hH : xhd G vwCl w H) (hS : xS G s H locs) (hz : H.size = sz) : ∀ (n : Nat) (x5 : Int32) (x6 : Int32) (q : Nat × Int32 × Int32) (ls : Array Slot), xL ls 9 [(0, .inr (.inl (some h0))), (1, .inl x1), (3, .inl x3), (4, .inl x4), (5, .inl x5), (6, .inl x6)] → f_Mod_sumAt_L14 w h0 x1 x3 x4 n x5 x6 = some q → (∀ (ls : Array Slot), xL ls 9 [(0, .inr (.inl (some h0))), (1, .inl x1), (3, .inl x3), (4, .inl x4), (5, .inl q.2.1), (6, .inl q.2.2)] → W p l e R s m args below meth c H locs cells slots Q (F0 m 117 ls [])) → W p l e R s m args below meth c H locs cells slots Q (F0 m 14 ls []) := by
  intro n
  induction n with
  | zero => intro _ _ q ls hl h; cases h
  | succ n ih =>
    intro x5 x6 q ls hl h K
    rw [f_Mod_sumAt_L14] at h
    refine x_iload C0 hl 5 d_Mod_sumAt_14 rfl ?_
    refine x_aload_n C0 hl 0 d_Mod_sumAt_16 rfl rfl ?_
    refine x_iload_n C0 hl 1 d_Mod_sumAt_17 rfl rfl ?_
    refine x_iload C0 hl 3 d_Mod_sumAt_18 rfl ?_
    obtain ⟨b_4, e9, h⟩ := Option.bind_eq_some_iff.mp h
    obtain ⟨e8, fs9, hb9⟩ := xo_inv e9
    obtain ⟨q_3, e9, h⟩ := Option.bind_eq_some_iff.mp h
    refine x_callP (va_runV (As := [.int x1, .int x4]) (rest := [.int x6]) C0 (c_Mod_high l G w _ b_4 x1 x4 q_3 e9) (x_cwV 2 C0 kw_4_210 kw_4_213 kw_1_3 kw_4_212 kw_0_23 (by decide +kernel) (x_rm hR1 hR2 (by decide) (by decide))) (x_preV hE hH hS (ci := 5) rfl hb9) rfl rfl hl.1 (by rw [e8]; rfl) (lv_room (by simp only [List.map_cons, List.map_nil, List.sum_cons, List.sum_nil, va_rf_cat, x_catI, x_catL, x_catA] <;> decide)) d_Mod_sumAt_20 (x_le0 hR3 hR4)) ?_
    refine x_icmp_ge C0 117 d_Mod_sumAt_23 (by decide) h (fun h => ?_) (fun h => ?_)
    · cases h
      exact K ls (x_sub hl [0, 1, 2, 3, 4, 5] rfl)
    · refine x_iload C0 hl 5 d_Mod_sumAt_26 rfl ?_
      refine x_iload_n C0 hl 2 d_Mod_sumAt_28 rfl rfl ?_
      refine lv_isub C0.1 C0.2.1 d_Mod_sumAt_29 ?_
      refine x_istore (lv' := [(7, .inl (x6 - x3)), (0, .inr (.inl (some h0))), (1, .inl x1), (3, .inl x3), (4, .inl x4), (5, .inl x5), (6, .inl x6)]) C0 hl d_Mod_sumAt_30 (by decide) rfl (fun ls hl => ?_)
      refine x_iload C0 hl 0 d_Mod_sumAt_32 rfl ?_
      refine x_if_lt C0 51 d_Mod_sumAt_34 (by decide) h (fun h => ?_) (fun h => ?_)
      · refine x_iincW (v := 255) (lv' := [(5, .inl (x5 + 255)), (7, .inl (x6 - x3)), (0, .inr (.inl (some h0))), (1, .inl x1), (3, .inl x3), (4, .inl x4), (6, .inl x6)]) C0 hl 5 d_Mod_sumAt_51 rfl (by decide) (by decide) rfl (fun ls hl => ?_)
        refine x_goto C0 111 d_Mod_sumAt_57 (by decide) ?_
        refine x_iinc (v := 1) (lv' := [(6, .inl (x6 + 1)), (5, .inl (x5 + 255)), (7, .inl (x6 - x3)), (0, .inr (.inl (some h0))), (1, .inl x1), (3, .inl x3), (4, .inl x4)]) C0 hl 6 d_Mod_sumAt_111 rfl (by decide) (by decide) rfl (fun ls hl => ?_)
        refine x_goto C0 14 d_Mod_sumAt_114 (by decide) ?_
        exact ih _ _ q ls (x_sub hl [3, 4, 5, 6, 1, 0] rfl) h K
      · refine x_iload C0 hl 0 d_Mod_sumAt_37 rfl ?_
        refine x_aload_n C0 hl 1 d_Mod_sumAt_39 rfl rfl ?_
        refine x_iload_n C0 hl 2 d_Mod_sumAt_40 rfl rfl ?_
        refine x_iload C0 hl 4 d_Mod_sumAt_41 rfl ?_
        refine lv_iconst (v := 1) C0.1 C0.2.1 d_Mod_sumAt_43 (by decide) ?_
        refine lv_iadd C0.1 C0.2.1 d_Mod_sumAt_44 ?_
        obtain ⟨b_6, e9, h⟩ := Option.bind_eq_some_iff.mp h
        obtain ⟨e8, fs9, hb9⟩ := xo_inv e9
        obtain ⟨q_5, e9, h⟩ := Option.bind_eq_some_iff.mp h
        refine x_callP (va_runV (As := [.int x1, .int (x4 + (1 : Int32))]) (rest := [.int (x6 - x3)]) C0 (c_Mod_high l G w _ b_6 x1 (x4 + (1 : Int32)) q_5 e9) (x_cwV 2 C0 kw_4_210 kw_4_213 kw_1_3 kw_4_212 kw_0_23 (by decide +kernel) (x_rm hR1 hR2 (by decide) (by decide))) (x_preV hE hH hS (ci := 5) rfl hb9) rfl rfl hl.1 (by rw [e8]; rfl) (lv_room (by simp only [List.map_cons, List.map_nil, List.sum_cons, List.sum_nil, va_rf_cat, x_catI, x_catL, x_catA] <;> decide)) d_Mod_sumAt_45 (x_le0 hR3 hR4)) ?_
        refine x_icmp_lt C0 60 d_Mod_sumAt_48 (by decide) h (fun h => ?_) (fun h => ?_)
        · refine x_aload_n C0 hl 1 d_Mod_sumAt_60 rfl rfl ?_
          refine x_iload_n C0 hl 2 d_Mod_sumAt_61 rfl rfl ?_
          refine x_iload C0 hl 4 d_Mod_sumAt_62 rfl ?_
          refine x_aload_n C0 hl 1 d_Mod_sumAt_64 rfl rfl ?_
          refine x_iload_n C0 hl 2 d_Mod_sumAt_65 rfl rfl ?_
          refine x_iload C0 hl 4 d_Mod_sumAt_66 rfl ?_
          obtain ⟨b_8, e9, h⟩ := Option.bind_eq_some_iff.mp h
          obtain ⟨e8, fs9, hb9⟩ := xo_inv e9
          obtain ⟨q_7, e9, h⟩ := Option.bind_eq_some_iff.mp h
          refine x_callP (va_runV (As := [.int x1, .int x4]) (rest := [.int x4, .int x1, va_rf (some h0)]) C0 (c_Mod_wide l G w _ b_8 x1 x4 q_7 e9) (x_cwV 2 C0 kw_4_202 kw_4_205 kw_1_3 kw_4_204 kw_0_21 (by decide +kernel) (x_rm hR1 hR2 (by decide) (by decide))) (x_preV hE hH hS (ci := 5) rfl hb9) rfl rfl hl.1 (by rw [e8]; rfl) (lv_room (by simp only [List.map_cons, List.map_nil, List.sum_cons, List.sum_nil, va_rf_cat, x_catI, x_catL, x_catA] <;> decide)) d_Mod_sumAt_68 (x_le0 hR3 hR4)) ?_
          refine lv_iconst (v := 1) C0.1 C0.2.1 d_Mod_sumAt_71 (by decide) ?_
          refine lv_isub C0.1 C0.2.1 d_Mod_sumAt_72 ?_
          refine x_iload C0 hl 6 d_Mod_sumAt_73 rfl ?_
          obtain ⟨b_10, e9, h⟩ := Option.bind_eq_some_iff.mp h
          obtain ⟨e8, fs9, hb9⟩ := xo_inv e9
          obtain ⟨q_9, e9, h⟩ := Option.bind_eq_some_iff.mp h
          refine x_callP (va_runV (As := [.int x1, .int x4, .int (q_7 - (1 : Int32)), .int x6]) (rest := []) C0 (c_Mod_grey l G w _ b_10 x1 x4 (q_7 - (1 : Int32)) x6 q_9 e9) (x_cwV 4 C0 kw_4_226 kw_4_229 kw_1_3 kw_4_228 kw_0_27 (by decide +kernel) (x_rm hR1 hR2 (by decide) (by decide))) (x_preV hE hH hS (ci := 5) rfl hb9) rfl rfl hl.1 (by rw [e8]; rfl) (lv_room (by simp only [List.map_cons, List.map_nil, List.sum_cons, List.sum_nil, va_rf_cat, x_catI, x_catL, x_catA] <;> decide)) d_Mod_sumAt_75 (x_le0 hR3 hR4)) ?_
          refine x_aload_n C0 hl 1 d_Mod_sumAt_78 rfl rfl ?_
          refine x_iload_n C0 hl 2 d_Mod_sumAt_79 rfl rfl ?_
          refine x_iload C0 hl 4 d_Mod_sumAt_80 rfl ?_
          refine lv_iconst (v := 1) C0.1 C0.2.1 d_Mod_sumAt_82 (by decide) ?_
          refine lv_iadd C0.1 C0.2.1 d_Mod_sumAt_83 ?_
          refine lv_iconst (v := 0) C0.1 C0.2.1 d_Mod_sumAt_84 (by decide) ?_
          refine x_iload C0 hl 0 d_Mod_sumAt_85 rfl ?_
          obtain ⟨b_12, e9, h⟩ := Option.bind_eq_some_iff.mp h
          obtain ⟨e8, fs9, hb9⟩ := xo_inv e9
          obtain ⟨q_11, e9, h⟩ := Option.bind_eq_some_iff.mp h
          refine x_callP (va_runV (As := [.int x1, .int (x4 + (1 : Int32)), .int (0 : Int32), .int (x6 - x3)]) (rest := [.int q_9]) C0 (c_Mod_grey l G w _ b_12 x1 (x4 + (1 : Int32)) (0 : Int32) (x6 - x3) q_11 e9) (x_cwV 4 C0 kw_4_226 kw_4_229 kw_1_3 kw_4_228 kw_0_27 (by decide +kernel) (x_rm hR1 hR2 (by decide) (by decide))) (x_preV hE hH hS (ci := 5) rfl hb9) rfl rfl hl.1 (by rw [e8]; rfl) (lv_room (by simp only [List.map_cons, List.map_nil, List.sum_cons, List.sum_nil, va_rf_cat, x_catI, x_catL, x_catA] <;> decide)) d_Mod_sumAt_87 (x_le0 hR3 hR4)) ?_
          refine lv_isub C0.1 C0.2.1 d_Mod_sumAt_90 ?_
          refine x_istore (lv' := [(8, .inl (q_9 - q_11)), (7, .inl (x6 - x3)), (0, .inr (.inl (some h0))), (1, .inl x1), (3, .inl x3), (4, .inl x4), (5, .inl x5), (6, .inl x6)]) C0 hl d_Mod_sumAt_91 (by decide) rfl (fun ls hl => ?_)
          refine x_iload C0 hl 6 d_Mod_sumAt_93 rfl ?_
          refine x_iload C0 hl 0 d_Mod_sumAt_95 rfl ?_
          refine x_if_ge C0 106 d_Mod_sumAt_97 (by decide) h (fun h => ?_) (fun h => ?_)
          · refine x_iload C0 hl 0 d_Mod_sumAt_106 rfl ?_
            refine lv_iadd C0.1 C0.2.1 d_Mod_sumAt_108 ?_
            refine x_istore (lv' := [(5, .inl (x5 + (q_9 - q_11))), (8, .inl (q_9 - q_11)), (7, .inl (x6 - x3)), (0, .inr (.inl (some h0))), (1, .inl x1), (3, .inl x3), (4, .inl x4), (6, .inl x6)]) C0 hl d_Mod_sumAt_109 (by decide) rfl (fun ls hl => ?_)
            refine x_iinc (v := 1) (lv' := [(6, .inl (x6 + 1)), (5, .inl (x5 + (q_9 - q_11))), (8, .inl (q_9 - q_11)), (7, .inl (x6 - x3)), (0, .inr (.inl (some h0))), (1, .inl x1), (3, .inl x3), (4, .inl x4)]) C0 hl 7 d_Mod_sumAt_111 rfl (by decide) (by decide) rfl (fun ls hl => ?_)
            refine x_goto C0 14 d_Mod_sumAt_114 (by decide) ?_
            exact ih _ _ q ls (x_sub hl [4, 5, 6, 7, 1, 0] rfl) h K
          · refine x_iload C0 hl 0 d_Mod_sumAt_100 rfl ?_
            refine lv_ineg C0.1 C0.2.1 d_Mod_sumAt_102 ?_
            refine x_goto C0 108 d_Mod_sumAt_103 (by decide) ?_
            refine lv_iadd C0.1 C0.2.1 d_Mod_sumAt_108 ?_
            refine x_istore (lv' := [(5, .inl (x5 + (-(q_9 - q_11)))), (8, .inl (q_9 - q_11)), (7, .inl (x6 - x3)), (0, .inr (.inl (some h0))), (1, .inl x1), (3, .inl x3), (4, .inl x4), (6, .inl x6)]) C0 hl d_Mod_sumAt_109 (by decide) rfl (fun ls hl => ?_)
            refine x_iinc (v := 1) (lv' := [(6, .inl (x6 + 1)), (5, .inl (x5 + (-(q_9 - q_11)))), (8, .inl (q_9 - q_11)), (7, .inl (x6 - x3)), (0, .inr (.inl (some h0))), (1, .inl x1), (3, .inl x3), (4, .inl x4)]) C0 hl 7 d_Mod_sumAt_111 rfl (by decide) (by decide) rfl (fun ls hl => ?_)
            refine x_goto C0 14 d_Mod_sumAt_114 (by decide) ?_
            exact ih _ _ q ls (x_sub hl [4, 5, 6, 7, 1, 0] rfl) h K
        · refine x_iincW (v := 255) (lv' := [(5, .inl (x5 + 255)), (7, .inl (x6 - x3)), (0, .inr (.inl (some h0))), (1, .inl x1), (3, .inl x3), (4, .inl x4), (6, .inl x6)]) C0 hl 5 d_Mod_sumAt_51 rfl (by decide) (by decide) rfl (fun ls hl => ?_)
          refine x_goto C0 111 d_Mod_sumAt_57 (by decide) ?_
          refine x_iinc (v := 1) (lv' := [(6, .inl (x6 + 1)), (5, .inl (x5 + 255)), (7, .inl (x6 - x3)), (0, .inr (.inl (some h0))), (1, .inl x1), (3, .inl x3), (4, .inl x4)]) C0 hl 6 d_Mod_sumAt_111 rfl (by decide) (by decide) rfl (fun ls hl => ?_)
          refine x_goto C0 14 d_Mod_sumAt_114 (by decide) ?_
          exact ih _ _ q ls (x_sub hl [3, 4, 5, 6, 1, 0] rfl) h K
def f_Mod_sumAt (w : Mp) (h0 : Nat) (x1 : Int32) (x2 : Int32) (x3 : Int32) : Option (Int32) := (xo w (some h0) 5).bind fun b_2 => (f_Mod_leftOf w b_2 x1 x2).bind fun q_1 => (f_Mod_sumAt_L14 w h0 x1 x3 q_1 100000 (0 : Int32) (0 : Int32)).bind fun q_13 => some q_13.2.1
set_option maxHeartbeats 4000000 in
set_option maxRecDepth 100000 in
theorem c_Mod_sumAt (l : Launch) (G : Gx) (w : Mp) (sz : Nat) (h0 : Nat) (x1 : Int32) (x2 : Int32) (x3 : Int32) (res : Int32) (hf : f_Mod_sumAt w h0 x1 x2 x3 = some res) : Met l y_Mod_sumAt (xws y_Mod_sumAt b_Mod_sumAt 9 (some .int)) { frames := 2, cells := 0, slots := 0, locals := 49 } (xPc G vwCl xaty w sz [va_rf (some h0), .int x1, .int x2, .int x3]) (qP (some (.int res))) 0 0 (fun _ => False) := by
  refine Met.ofW (cc := b_Mod_sumAt) (maxL := 9) (ret := (some .int)) (by decide) rfl ?_
  intro p e s m args below meth c s₁ B hml hv
  obtain ⟨ha, hE, hH, hz⟩ := hv
  have C0 : CallFix p m c b_Mod_sumAt 9 s args wA R_Mod := ⟨B.exec, B.bytes, hml, findClass_of_methodNamed B.named, fun w hw => atoms_spec (ws := xws y_Mod_sumAt b_Mod_sumAt 9 (some .int)) B.pre w (List.mem_cons_of_mem _ hw)⟩
  have hr := B.returns
  have hlocks := B.notSynchronized
  obtain ⟨R, hR⟩ : ∃ R, R = (headSpec (xws y_Mod_sumAt b_Mod_sumAt 9 (some .int)) { frames := 2, cells := 0, slots := 0, locals := 49 }).room := ⟨_, rfl⟩
  have hR1 : 2 ≤ R.frames := by rw [hR]; exact Nat.le_of_ble_eq_true rfl
  have hR2 : 49 ≤ R.locals := by rw [hR]; exact Nat.le_of_ble_eq_true rfl
  have hR3 : 0 ≤ R.cells := Nat.zero_le _
  have hR4 : 0 ≤ R.slots := Nat.zero_le _
  rw [← hR]
  obtain ⟨Q, hQ⟩ : ∃ Q, Q = MQ below (qP (some (.int res))) args s 0 0 (fun _ => False) := ⟨_, rfl⟩
  rw [← hQ]
  have hS : xS G s s.heap [] := va_S.rf
  obtain ⟨ls, he, hl⟩ := x_entry m [.inr (.inl (some h0)), .inl x1, .inl x2, .inl x3] 9 (Nat.le_of_ble_eq_true rfl)
  rw [show entryFrame m args 9 = F0 m 0 ls [] by rw [ha]; exact he]
  have hl : xL ls 9 [(0, .inr (.inl (some h0))), (1, .inl x1), (2, .inl x2), (3, .inl x3)] := hl
  have h := hf
  unfold f_Mod_sumAt at h
  suffices hmain : ∀ (H : Heap) (locs : List Loc), xhd G vwCl w H → xS G s H locs → H.size = sz → (H = s.heap ∧ locs = []) → W p l e R s m args below meth c H locs 0 0 Q (F0 m 0 ls []) from hmain _ _ hH hS hz ⟨rfl, rfl⟩
  clear hH hS hz
  intro H locs hH hS hz hP0
  refine x_aload_n C0 hl 0 d_Mod_sumAt_0 rfl rfl ?_
  refine x_iload_n C0 hl 1 d_Mod_sumAt_1 rfl rfl ?_
  refine x_iload_n C0 hl 2 d_Mod_sumAt_2 rfl rfl ?_
  obtain ⟨b_2, e9, h⟩ := Option.bind_eq_some_iff.mp h
  obtain ⟨e8, fs9, hb9⟩ := xo_inv e9
  obtain ⟨q_1, e9, h⟩ := Option.bind_eq_some_iff.mp h
  refine x_callP (va_runV (As := [.int x1, .int x2]) (rest := []) C0 (c_Mod_leftOf l G w _ b_2 x1 x2 q_1 e9) (x_cwV 2 C0 kw_4_222 kw_4_225 kw_1_3 kw_4_224 kw_0_26 (by decide +kernel) (x_rm hR1 hR2 (by decide) (by decide))) (x_preV hE hH hS (ci := 5) rfl hb9) rfl rfl hl.1 (by rw [e8]; rfl) (lv_room (by simp only [List.map_cons, List.map_nil, List.sum_cons, List.sum_nil, va_rf_cat, x_catI, x_catL, x_catA] <;> decide)) d_Mod_sumAt_3 (x_le0 hR3 hR4)) ?_
  refine x_istore (lv' := [(4, .inl q_1), (0, .inr (.inl (some h0))), (1, .inl x1), (2, .inl x2), (3, .inl x3)]) C0 hl d_Mod_sumAt_6 (by decide) rfl (fun ls hl => ?_)
  refine lv_iconst (v := 0) C0.1 C0.2.1 d_Mod_sumAt_8 (by decide) ?_
  refine x_istore (lv' := [(5, .inl (0 : Int32)), (4, .inl q_1), (0, .inr (.inl (some h0))), (1, .inl x1), (2, .inl x2), (3, .inl x3)]) C0 hl d_Mod_sumAt_9 (by decide) rfl (fun ls hl => ?_)
  refine lv_iconst (v := 0) C0.1 C0.2.1 d_Mod_sumAt_11 (by decide) ?_
  refine x_istore (lv' := [(6, .inl (0 : Int32)), (5, .inl (0 : Int32)), (4, .inl q_1), (0, .inr (.inl (some h0))), (1, .inl x1), (2, .inl x2), (3, .inl x3)]) C0 hl d_Mod_sumAt_12 (by decide) rfl (fun ls hl => ?_)
  obtain ⟨q_13, e9, h⟩ := Option.bind_eq_some_iff.mp h
  refine w_Mod_sumAt_L14 C0 hE hR1 hR2 hR3 hR4 hH hS hz 100000 _ _ q_13 ls (x_sub hl [3, 4, 6, 2, 1, 0] rfl) e9 (fun ls hl => ?_)
  refine x_iload C0 hl 4 d_Mod_sumAt_117 rfl ?_
  cases h
  rw [hQ]
  exact x_iretP C0 hr hlocks hP0 d_Mod_sumAt_119
theorem d_Mod_shiftOf_0 : decode b_Mod_shiftOf 0 = .ok (.iconst 0, 1) := by decide +kernel
theorem d_Mod_shiftOf_1 : decode b_Mod_shiftOf 1 = .ok (.istore_n 3, 1) := by decide +kernel
theorem d_Mod_shiftOf_2 : decode b_Mod_shiftOf 2 = .ok (.aload_n 0, 1) := by decide +kernel
theorem d_Mod_shiftOf_3 : decode b_Mod_shiftOf 3 = .ok (.iload_n 1, 1) := by decide +kernel
theorem d_Mod_shiftOf_4 : decode b_Mod_shiftOf 4 = .ok (.iload_n 2, 1) := by decide +kernel
theorem d_Mod_shiftOf_5 : decode b_Mod_shiftOf 5 = .ok (.iconst 0, 1) := by decide +kernel
theorem d_Mod_shiftOf_6 : decode b_Mod_shiftOf 6 = .ok (.invokevirtual 109, 3) := by decide +kernel
theorem d_Mod_shiftOf_9 : decode b_Mod_shiftOf 9 = .ok (.istore 4, 2) := by decide +kernel
theorem d_Mod_shiftOf_11 : decode b_Mod_shiftOf 11 = .ok (.iconst 1, 1) := by decide +kernel
theorem d_Mod_shiftOf_12 : decode b_Mod_shiftOf 12 = .ok (.istore 5, 2) := by decide +kernel
theorem d_Mod_shiftOf_14 : decode b_Mod_shiftOf 14 = .ok (.iload 5, 2) := by decide +kernel
theorem d_Mod_shiftOf_16 : decode b_Mod_shiftOf 16 = .ok (.iconst 4, 1) := by decide +kernel
theorem d_Mod_shiftOf_17 : decode b_Mod_shiftOf 17 = .ok (.if_icmp .ge 79, 3) := by decide +kernel
theorem d_Mod_shiftOf_20 : decode b_Mod_shiftOf 20 = .ok (.iconst 0, 1) := by decide +kernel
theorem d_Mod_shiftOf_21 : decode b_Mod_shiftOf 21 = .ok (.istore 6, 2) := by decide +kernel
theorem d_Mod_shiftOf_23 : decode b_Mod_shiftOf 23 = .ok (.iload 6, 2) := by decide +kernel
theorem d_Mod_shiftOf_25 : decode b_Mod_shiftOf 25 = .ok (.iconst 2, 1) := by decide +kernel
theorem d_Mod_shiftOf_26 : decode b_Mod_shiftOf 26 = .ok (.if_icmp .ge 64, 3) := by decide +kernel
theorem d_Mod_shiftOf_29 : decode b_Mod_shiftOf 29 = .ok (.iload 6, 2) := by decide +kernel
theorem d_Mod_shiftOf_31 : decode b_Mod_shiftOf 31 = .ok (.ifCond .ne 9, 3) := by decide +kernel
theorem d_Mod_shiftOf_34 : decode b_Mod_shiftOf 34 = .ok (.iload 5, 2) := by decide +kernel
theorem d_Mod_shiftOf_36 : decode b_Mod_shiftOf 36 = .ok (.ineg, 1) := by decide +kernel
theorem d_Mod_shiftOf_37 : decode b_Mod_shiftOf 37 = .ok (.goto 5, 3) := by decide +kernel
theorem d_Mod_shiftOf_40 : decode b_Mod_shiftOf 40 = .ok (.iload 5, 2) := by decide +kernel
theorem d_Mod_shiftOf_42 : decode b_Mod_shiftOf 42 = .ok (.istore 7, 2) := by decide +kernel
theorem d_Mod_shiftOf_44 : decode b_Mod_shiftOf 44 = .ok (.aload_n 0, 1) := by decide +kernel
theorem d_Mod_shiftOf_45 : decode b_Mod_shiftOf 45 = .ok (.iload_n 1, 1) := by decide +kernel
theorem d_Mod_shiftOf_46 : decode b_Mod_shiftOf 46 = .ok (.iload_n 2, 1) := by decide +kernel
theorem d_Mod_shiftOf_47 : decode b_Mod_shiftOf 47 = .ok (.iload 7, 2) := by decide +kernel
theorem d_Mod_shiftOf_49 : decode b_Mod_shiftOf 49 = .ok (.invokevirtual 109, 3) := by decide +kernel
theorem d_Mod_shiftOf_52 : decode b_Mod_shiftOf 52 = .ok (.istore 8, 2) := by decide +kernel
theorem d_Mod_shiftOf_54 : decode b_Mod_shiftOf 54 = .ok (.iload 8, 2) := by decide +kernel
theorem d_Mod_shiftOf_56 : decode b_Mod_shiftOf 56 = .ok (.iload 4, 2) := by decide +kernel
theorem d_Mod_shiftOf_58 : decode b_Mod_shiftOf 58 = .ok (.if_icmp .ge 8, 3) := by decide +kernel
theorem d_Mod_shiftOf_61 : decode b_Mod_shiftOf 61 = .ok (.iload 7, 2) := by decide +kernel
theorem d_Mod_shiftOf_63 : decode b_Mod_shiftOf 63 = .ok (.goto 4, 3) := by decide +kernel
theorem d_Mod_shiftOf_66 : decode b_Mod_shiftOf 66 = .ok (.iload_n 3, 1) := by decide +kernel
theorem d_Mod_shiftOf_67 : decode b_Mod_shiftOf 67 = .ok (.istore_n 3, 1) := by decide +kernel
theorem d_Mod_shiftOf_68 : decode b_Mod_shiftOf 68 = .ok (.iload 8, 2) := by decide +kernel
theorem d_Mod_shiftOf_70 : decode b_Mod_shiftOf 70 = .ok (.iload 4, 2) := by decide +kernel
theorem d_Mod_shiftOf_72 : decode b_Mod_shiftOf 72 = .ok (.if_icmp .ge 8, 3) := by decide +kernel
theorem d_Mod_shiftOf_75 : decode b_Mod_shiftOf 75 = .ok (.iload 8, 2) := by decide +kernel
theorem d_Mod_shiftOf_77 : decode b_Mod_shiftOf 77 = .ok (.goto 5, 3) := by decide +kernel
theorem d_Mod_shiftOf_80 : decode b_Mod_shiftOf 80 = .ok (.iload 4, 2) := by decide +kernel
theorem d_Mod_shiftOf_82 : decode b_Mod_shiftOf 82 = .ok (.istore 4, 2) := by decide +kernel
theorem d_Mod_shiftOf_84 : decode b_Mod_shiftOf 84 = .ok (.iinc 6 1, 3) := by decide +kernel
theorem d_Mod_shiftOf_87 : decode b_Mod_shiftOf 87 = .ok (.goto (-64), 3) := by decide +kernel
theorem d_Mod_shiftOf_90 : decode b_Mod_shiftOf 90 = .ok (.iinc 5 1, 3) := by decide +kernel
theorem d_Mod_shiftOf_93 : decode b_Mod_shiftOf 93 = .ok (.goto (-79), 3) := by decide +kernel
theorem d_Mod_shiftOf_96 : decode b_Mod_shiftOf 96 = .ok (.iload_n 3, 1) := by decide +kernel
theorem d_Mod_shiftOf_97 : decode b_Mod_shiftOf 97 = .ok (.ireturn, 1) := by decide +kernel
def f_Mod_shiftOf_L23 (w : Mp) (h0 : Nat) (x1 : Int32) (x2 : Int32) (x5 : Int32) : Nat → Int32 → Int32 → Int32 → Option (Nat × Int32 × Int32 × Int32)
  | 0, _, _, _ => none
  | n + 1, x3, x4, x6 => if (2 : Int32) ≤ x6 then (some (0, x3, x4, x6)) else (xJ1 (fun (x_3 : Int32) => (xo w (some h0) 5).bind fun b_6 => (f_Mod_sumAt w b_6 x1 x2 x_3).bind fun q_5 => xJ1 (fun (x_7 : Int32) => if x4 ≤ q_5 then (f_Mod_shiftOf_L23 w h0 x1 x2 x5 n x_7 x4 (x6 + 1)) else (f_Mod_shiftOf_L23 w h0 x1 x2 x5 n x_7 q_5 (x6 + 1))) fun J_8 => if x4 ≤ q_5 then (J_8 x3) else (J_8 x_3)) fun J_4 => if x6 = 0 then (J_4 (-x5)) else (J_4 x5))
set_option maxHeartbeats 4000000 in
set_option maxRecDepth 100000 in
theorem w_Mod_shiftOf_L23 {p : Program} {l : Launch} {e : Env} {R : Room} {s : State} {m : MethodId} {args : Array Value} {below : List Frame} {meth : Method} {c : Code} {Q : State → Prop} {cells slots sz : Nat} {G : Gx} {h0 : Nat} {x1 : Int32} {x2 : Int32} {x5 : Int32} (C0 : CallFix p m c b_Mod_shiftOf 9 s args wA R_Mod) (hE : xE G vwCl xaty s) (hR1 : 3 ≤ R.frames) (hR2 : 77 ≤ R.locals) (hR3 : cells ≤ R.cells) (hR4 : slots ≤ R.slots) {w : Mp} {H : Heap} {locs : List Loc} (hH : xhd G vwCl w H) (hS : xS G s H locs) (hz : H.size = sz) : ∀ (n : Nat) (x3 : Int32) (x4 : Int32) (x6 : Int32) (q : Nat × Int32 × Int32 × Int32) (ls : Array Slot), xL ls 9 [(0, .inr (.inl (some h0))), (1, .inl x1), (2, .inl x2), (3, .inl x3), (4, .inl x4), (5, .inl x5), (6, .inl x6)] → f_Mod_shiftOf_L23 w h0 x1 x2 x5 n x3 x4 x6 = some q → (∀ (ls : Array Slot), xL ls 9 [(0, .inr (.inl (some h0))), (1, .inl x1), (2, .inl x2), (3, .inl q.2.1), (4, .inl q.2.2.1), (5, .inl x5), (6, .inl q.2.2.2)] → W p l e R s m args below meth c H locs cells slots Q (F0 m 90 ls [])) → W p l e R s m args below meth c H locs cells slots Q (F0 m 23 ls []) := by
  intro n
  induction n with
  | zero => intro _ _ _ q ls hl h; cases h
  | succ n ih =>
    intro x3 x4 x6 q ls hl h K
    rw [f_Mod_shiftOf_L23] at h
    refine x_iload C0 hl 6 d_Mod_shiftOf_23 rfl ?_
    refine lv_iconst (v := 2) C0.1 C0.2.1 d_Mod_shiftOf_25 (by decide) ?_
    refine x_icmp_ge C0 90 d_Mod_shiftOf_26 (by decide) h (fun h => ?_) (fun h => ?_)
    · cases h
      exact K ls (x_sub hl [0, 1, 2, 3, 4, 5, 6] rfl)
    · refine x_iload C0 hl 6 d_Mod_shiftOf_29 rfl ?_
      refine xj1 h (fun J_4 eJ_4 h => ?_)
      have kJ_4 : ∀ (x_3 : Int32) (ls : Array Slot), xL ls 9 [(0, .inr (.inl (some h0))), (1, .inl x1), (2, .inl x2), (3, .inl x3), (4, .inl x4), (5, .inl x5), (6, .inl x6)] → J_4 x_3 = some q → W p l e R s m args below meth c H locs cells slots Q (F0 m 42 ls [.int x_3]) := by
        intro x_3 ls hl h
        rw [eJ_4] at h
        refine x_istore (lv' := [(7, .inl x_3), (0, .inr (.inl (some h0))), (1, .inl x1), (2, .inl x2), (3, .inl x3), (4, .inl x4), (5, .inl x5), (6, .inl x6)]) C0 hl d_Mod_shiftOf_42 (by decide) rfl (fun ls hl => ?_)
        refine x_aload_n C0 hl 1 d_Mod_shiftOf_44 rfl rfl ?_
        refine x_iload_n C0 hl 2 d_Mod_shiftOf_45 rfl rfl ?_
        refine x_iload_n C0 hl 3 d_Mod_shiftOf_46 rfl rfl ?_
        refine x_iload C0 hl 0 d_Mod_shiftOf_47 rfl ?_
        obtain ⟨b_6, e9, h⟩ := Option.bind_eq_some_iff.mp h
        obtain ⟨e8, fs9, hb9⟩ := xo_inv e9
        obtain ⟨q_5, e9, h⟩ := Option.bind_eq_some_iff.mp h
        refine x_callP (va_runV (As := [.int x1, .int x2, .int x_3]) (rest := []) C0 (c_Mod_sumAt l G w _ b_6 x1 x2 x_3 q_5 e9) (x_cwV 3 C0 kw_4_218 kw_4_221 kw_1_3 kw_4_220 kw_0_25 (by decide +kernel) (x_rm hR1 hR2 (by decide) (by decide))) (x_preV hE hH hS (ci := 5) rfl hb9) rfl rfl hl.1 (by rw [e8]; rfl) (lv_room (by simp only [List.map_cons, List.map_nil, List.sum_cons, List.sum_nil, va_rf_cat, x_catI, x_catL, x_catA] <;> decide)) d_Mod_shiftOf_49 (x_le0 hR3 hR4)) ?_
        refine x_istore (lv' := [(8, .inl q_5), (7, .inl x_3), (0, .inr (.inl (some h0))), (1, .inl x1), (2, .inl x2), (3, .inl x3), (4, .inl x4), (5, .inl x5), (6, .inl x6)]) C0 hl d_Mod_shiftOf_52 (by decide) rfl (fun ls hl => ?_)
        refine x_iload C0 hl 0 d_Mod_shiftOf_54 rfl ?_
        refine x_iload C0 hl 6 d_Mod_shiftOf_56 rfl ?_
        refine xj1 h (fun J_8 eJ_8 h => ?_)
        have kJ_8 : ∀ (x_7 : Int32) (ls : Array Slot), xL ls 9 [(0, .inr (.inl (some h0))), (1, .inl x1), (2, .inl x2), (4, .inl x4), (5, .inl x5), (6, .inl x6), (8, .inl q_5)] → J_8 x_7 = some q → W p l e R s m args below meth c H locs cells slots Q (F0 m 67 ls [.int x_7]) := by
          intro x_7 ls hl h
          rw [eJ_8] at h
          refine x_istore_n (lv' := [(3, .inl x_7), (0, .inr (.inl (some h0))), (1, .inl x1), (2, .inl x2), (4, .inl x4), (5, .inl x5), (6, .inl x6), (8, .inl q_5)]) C0 hl d_Mod_shiftOf_67 rfl (by decide) rfl (fun ls hl => ?_)
          refine x_iload C0 hl 7 d_Mod_shiftOf_68 rfl ?_
          refine x_iload C0 hl 4 d_Mod_shiftOf_70 rfl ?_
          refine x_icmp_ge C0 80 d_Mod_shiftOf_72 (by decide) h (fun h => ?_) (fun h => ?_)
          · refine x_iload C0 hl 4 d_Mod_shiftOf_80 rfl ?_
            refine x_istore (lv' := [(4, .inl x4), (3, .inl x_7), (0, .inr (.inl (some h0))), (1, .inl x1), (2, .inl x2), (5, .inl x5), (6, .inl x6), (8, .inl q_5)]) C0 hl d_Mod_shiftOf_82 (by decide) rfl (fun ls hl => ?_)
            refine x_iinc (v := 1) (lv' := [(6, .inl (x6 + 1)), (4, .inl x4), (3, .inl x_7), (0, .inr (.inl (some h0))), (1, .inl x1), (2, .inl x2), (5, .inl x5), (8, .inl q_5)]) C0 hl 6 d_Mod_shiftOf_84 rfl (by decide) (by decide) rfl (fun ls hl => ?_)
            refine x_goto C0 23 d_Mod_shiftOf_87 (by decide) ?_
            exact ih _ _ _ q ls (x_sub hl [3, 4, 5, 2, 1, 6, 0] rfl) h K
          · refine x_iload C0 hl 7 d_Mod_shiftOf_75 rfl ?_
            refine x_goto C0 82 d_Mod_shiftOf_77 (by decide) ?_
            refine x_istore (lv' := [(4, .inl q_5), (3, .inl x_7), (0, .inr (.inl (some h0))), (1, .inl x1), (2, .inl x2), (5, .inl x5), (6, .inl x6), (8, .inl q_5)]) C0 hl d_Mod_shiftOf_82 (by decide) rfl (fun ls hl => ?_)
            refine x_iinc (v := 1) (lv' := [(6, .inl (x6 + 1)), (4, .inl q_5), (3, .inl x_7), (0, .inr (.inl (some h0))), (1, .inl x1), (2, .inl x2), (5, .inl x5), (8, .inl q_5)]) C0 hl 6 d_Mod_shiftOf_84 rfl (by decide) (by decide) rfl (fun ls hl => ?_)
            refine x_goto C0 23 d_Mod_shiftOf_87 (by decide) ?_
            exact ih _ _ _ q ls (x_sub hl [3, 4, 5, 2, 1, 6, 0] rfl) h K
        refine x_icmp_ge C0 66 d_Mod_shiftOf_58 (by decide) h (fun h => ?_) (fun h => ?_)
        · refine x_iload_n C0 hl 5 d_Mod_shiftOf_66 rfl rfl ?_
          exact kJ_8 _ ls (x_sub hl [2, 3, 4, 6, 7, 8, 0] rfl) h
        · refine x_iload C0 hl 1 d_Mod_shiftOf_61 rfl ?_
          refine x_goto C0 67 d_Mod_shiftOf_63 (by decide) ?_
          exact kJ_8 _ ls (x_sub hl [2, 3, 4, 6, 7, 8, 0] rfl) h
      refine x_if_ne C0 40 d_Mod_shiftOf_31 (by decide) h (fun h => ?_) (fun h => ?_)
      · refine x_iload C0 hl 5 d_Mod_shiftOf_40 rfl ?_
        exact kJ_4 _ ls (x_sub hl [0, 1, 2, 3, 4, 5, 6] rfl) h
      · refine x_iload C0 hl 5 d_Mod_shiftOf_34 rfl ?_
        refine lv_ineg C0.1 C0.2.1 d_Mod_shiftOf_36 ?_
        refine x_goto C0 42 d_Mod_shiftOf_37 (by decide) ?_
        exact kJ_4 _ ls (x_sub hl [0, 1, 2, 3, 4, 5, 6] rfl) h
def f_Mod_shiftOf_L14 (w : Mp) (h0 : Nat) (x1 : Int32) (x2 : Int32) : Nat → Int32 → Int32 → Int32 → Option (Nat × Int32 × Int32 × Int32)
  | 0, _, _, _ => none
  | n + 1, x3, x4, x5 => if (4 : Int32) ≤ x5 then (some (0, x3, x4, x5)) else ((f_Mod_shiftOf_L23 w h0 x1 x2 x5 100000 x3 x4 (0 : Int32)).bind fun q_9 => f_Mod_shiftOf_L14 w h0 x1 x2 n q_9.2.1 q_9.2.2.1 (x5 + 1))
set_option maxHeartbeats 4000000 in
set_option maxRecDepth 100000 in
theorem w_Mod_shiftOf_L14 {p : Program} {l : Launch} {e : Env} {R : Room} {s : State} {m : MethodId} {args : Array Value} {below : List Frame} {meth : Method} {c : Code} {Q : State → Prop} {cells slots sz : Nat} {G : Gx} {h0 : Nat} {x1 : Int32} {x2 : Int32} (C0 : CallFix p m c b_Mod_shiftOf 9 s args wA R_Mod) (hE : xE G vwCl xaty s) (hR1 : 3 ≤ R.frames) (hR2 : 77 ≤ R.locals) (hR3 : cells ≤ R.cells) (hR4 : slots ≤ R.slots) {w : Mp} {H : Heap} {locs : List Loc} (hH : xhd G vwCl w H) (hS : xS G s H locs) (hz : H.size = sz) : ∀ (n : Nat) (x3 : Int32) (x4 : Int32) (x5 : Int32) (q : Nat × Int32 × Int32 × Int32) (ls : Array Slot), xL ls 9 [(0, .inr (.inl (some h0))), (1, .inl x1), (2, .inl x2), (3, .inl x3), (4, .inl x4), (5, .inl x5)] → f_Mod_shiftOf_L14 w h0 x1 x2 n x3 x4 x5 = some q → (∀ (ls : Array Slot), xL ls 9 [(0, .inr (.inl (some h0))), (1, .inl x1), (2, .inl x2), (3, .inl q.2.1), (4, .inl q.2.2.1), (5, .inl q.2.2.2)] → W p l e R s m args below meth c H locs cells slots Q (F0 m 96 ls [])) → W p l e R s m args below meth c H locs cells slots Q (F0 m 14 ls []) := by
  intro n
  induction n with
  | zero => intro _ _ _ q ls hl h; cases h
  | succ n ih =>
    intro x3 x4 x5 q ls hl h K
    rw [f_Mod_shiftOf_L14] at h
    refine x_iload C0 hl 5 d_Mod_shiftOf_14 rfl ?_
    refine lv_iconst (v := 4) C0.1 C0.2.1 d_Mod_shiftOf_16 (by decide) ?_
    refine x_icmp_ge C0 96 d_Mod_shiftOf_17 (by decide) h (fun h => ?_) (fun h => ?_)
    · cases h
      exact K ls (x_sub hl [0, 1, 2, 3, 4, 5] rfl)
    · refine lv_iconst (v := 0) C0.1 C0.2.1 d_Mod_shiftOf_20 (by decide) ?_
      refine x_istore (lv' := [(6, .inl (0 : Int32)), (0, .inr (.inl (some h0))), (1, .inl x1), (2, .inl x2), (3, .inl x3), (4, .inl x4), (5, .inl x5)]) C0 hl d_Mod_shiftOf_21 (by decide) rfl (fun ls hl => ?_)
      obtain ⟨q_9, e9, h⟩ := Option.bind_eq_some_iff.mp h
      refine w_Mod_shiftOf_L23 C0 hE hR1 hR2 hR3 hR4 hH hS hz 100000 _ _ _ q_9 ls (x_sub hl [1, 2, 3, 4, 5, 6, 0] rfl) e9 (fun ls hl => ?_)
      refine x_iinc (v := 1) (lv' := [(5, .inl (x5 + 1)), (0, .inr (.inl (some h0))), (1, .inl x1), (2, .inl x2), (3, .inl q_9.2.1), (4, .inl q_9.2.2.1), (6, .inl q_9.2.2.2)]) C0 hl 5 d_Mod_shiftOf_90 rfl (by decide) (by decide) rfl (fun ls hl => ?_)
      refine x_goto C0 14 d_Mod_shiftOf_93 (by decide) ?_
      exact ih _ _ _ q ls (x_sub hl [1, 2, 3, 4, 5, 0] rfl) h K
def f_Mod_shiftOf (w : Mp) (h0 : Nat) (x1 : Int32) (x2 : Int32) : Option (Int32) := (xo w (some h0) 5).bind fun b_2 => (f_Mod_sumAt w b_2 x1 x2 (0 : Int32)).bind fun q_1 => (f_Mod_shiftOf_L14 w h0 x1 x2 100000 (0 : Int32) q_1 (1 : Int32)).bind fun q_10 => some q_10.2.1
set_option maxHeartbeats 4000000 in
set_option maxRecDepth 100000 in
theorem c_Mod_shiftOf (l : Launch) (G : Gx) (w : Mp) (sz : Nat) (h0 : Nat) (x1 : Int32) (x2 : Int32) (res : Int32) (hf : f_Mod_shiftOf w h0 x1 x2 = some res) : Met l y_Mod_shiftOf (xws y_Mod_shiftOf b_Mod_shiftOf 9 (some .int)) { frames := 3, cells := 0, slots := 0, locals := 77 } (xPc G vwCl xaty w sz [va_rf (some h0), .int x1, .int x2]) (qP (some (.int res))) 0 0 (fun _ => False) := by
  refine Met.ofW (cc := b_Mod_shiftOf) (maxL := 9) (ret := (some .int)) (by decide) rfl ?_
  intro p e s m args below meth c s₁ B hml hv
  obtain ⟨ha, hE, hH, hz⟩ := hv
  have C0 : CallFix p m c b_Mod_shiftOf 9 s args wA R_Mod := ⟨B.exec, B.bytes, hml, findClass_of_methodNamed B.named, fun w hw => atoms_spec (ws := xws y_Mod_shiftOf b_Mod_shiftOf 9 (some .int)) B.pre w (List.mem_cons_of_mem _ hw)⟩
  have hr := B.returns
  have hlocks := B.notSynchronized
  obtain ⟨R, hR⟩ : ∃ R, R = (headSpec (xws y_Mod_shiftOf b_Mod_shiftOf 9 (some .int)) { frames := 3, cells := 0, slots := 0, locals := 77 }).room := ⟨_, rfl⟩
  have hR1 : 3 ≤ R.frames := by rw [hR]; exact Nat.le_of_ble_eq_true rfl
  have hR2 : 77 ≤ R.locals := by rw [hR]; exact Nat.le_of_ble_eq_true rfl
  have hR3 : 0 ≤ R.cells := Nat.zero_le _
  have hR4 : 0 ≤ R.slots := Nat.zero_le _
  rw [← hR]
  obtain ⟨Q, hQ⟩ : ∃ Q, Q = MQ below (qP (some (.int res))) args s 0 0 (fun _ => False) := ⟨_, rfl⟩
  rw [← hQ]
  have hS : xS G s s.heap [] := va_S.rf
  obtain ⟨ls, he, hl⟩ := x_entry m [.inr (.inl (some h0)), .inl x1, .inl x2] 9 (Nat.le_of_ble_eq_true rfl)
  rw [show entryFrame m args 9 = F0 m 0 ls [] by rw [ha]; exact he]
  have hl : xL ls 9 [(0, .inr (.inl (some h0))), (1, .inl x1), (2, .inl x2)] := hl
  have h := hf
  unfold f_Mod_shiftOf at h
  suffices hmain : ∀ (H : Heap) (locs : List Loc), xhd G vwCl w H → xS G s H locs → H.size = sz → (H = s.heap ∧ locs = []) → W p l e R s m args below meth c H locs 0 0 Q (F0 m 0 ls []) from hmain _ _ hH hS hz ⟨rfl, rfl⟩
  clear hH hS hz
  intro H locs hH hS hz hP0
  refine lv_iconst (v := 0) C0.1 C0.2.1 d_Mod_shiftOf_0 (by decide) ?_
  refine x_istore_n (lv' := [(3, .inl (0 : Int32)), (0, .inr (.inl (some h0))), (1, .inl x1), (2, .inl x2)]) C0 hl d_Mod_shiftOf_1 rfl (by decide) rfl (fun ls hl => ?_)
  refine x_aload_n C0 hl 1 d_Mod_shiftOf_2 rfl rfl ?_
  refine x_iload_n C0 hl 2 d_Mod_shiftOf_3 rfl rfl ?_
  refine x_iload_n C0 hl 3 d_Mod_shiftOf_4 rfl rfl ?_
  refine lv_iconst (v := 0) C0.1 C0.2.1 d_Mod_shiftOf_5 (by decide) ?_
  obtain ⟨b_2, e9, h⟩ := Option.bind_eq_some_iff.mp h
  obtain ⟨e8, fs9, hb9⟩ := xo_inv e9
  obtain ⟨q_1, e9, h⟩ := Option.bind_eq_some_iff.mp h
  refine x_callP (va_runV (As := [.int x1, .int x2, .int (0 : Int32)]) (rest := []) C0 (c_Mod_sumAt l G w _ b_2 x1 x2 (0 : Int32) q_1 e9) (x_cwV 3 C0 kw_4_218 kw_4_221 kw_1_3 kw_4_220 kw_0_25 (by decide +kernel) (x_rm hR1 hR2 (by decide) (by decide))) (x_preV hE hH hS (ci := 5) rfl hb9) rfl rfl hl.1 (by rw [e8]; rfl) (lv_room (by simp only [List.map_cons, List.map_nil, List.sum_cons, List.sum_nil, va_rf_cat, x_catI, x_catL, x_catA] <;> decide)) d_Mod_shiftOf_6 (x_le0 hR3 hR4)) ?_
  refine x_istore (lv' := [(4, .inl q_1), (3, .inl (0 : Int32)), (0, .inr (.inl (some h0))), (1, .inl x1), (2, .inl x2)]) C0 hl d_Mod_shiftOf_9 (by decide) rfl (fun ls hl => ?_)
  refine lv_iconst (v := 1) C0.1 C0.2.1 d_Mod_shiftOf_11 (by decide) ?_
  refine x_istore (lv' := [(5, .inl (1 : Int32)), (4, .inl q_1), (3, .inl (0 : Int32)), (0, .inr (.inl (some h0))), (1, .inl x1), (2, .inl x2)]) C0 hl d_Mod_shiftOf_12 (by decide) rfl (fun ls hl => ?_)
  obtain ⟨q_10, e9, h⟩ := Option.bind_eq_some_iff.mp h
  refine w_Mod_shiftOf_L14 C0 hE hR1 hR2 hR3 hR4 hH hS hz 100000 _ _ _ q_10 ls (x_sub hl [3, 4, 5, 2, 1, 0] rfl) e9 (fun ls hl => ?_)
  refine x_iload_n C0 hl 3 d_Mod_shiftOf_96 rfl rfl ?_
  cases h
  rw [hQ]
  exact x_iretP C0 hr hlocks hP0 d_Mod_shiftOf_97
theorem d_Mod_across_0 : decode b_Mod_across 0 = .ok (.aload_n 0, 1) := by decide +kernel
theorem d_Mod_across_1 : decode b_Mod_across 1 = .ok (.getfield 32, 3) := by decide +kernel
theorem d_Mod_across_4 : decode b_Mod_across 4 = .ok (.iload_n 1, 1) := by decide +kernel
theorem d_Mod_across_5 : decode b_Mod_across 5 = .ok (.iaload, 1) := by decide +kernel
theorem d_Mod_across_6 : decode b_Mod_across 6 = .ok (.iconst 3, 1) := by decide +kernel
theorem d_Mod_across_7 : decode b_Mod_across 7 = .ok (.if_icmp .ne 21, 3) := by decide +kernel
theorem d_Mod_across_10 : decode b_Mod_across 10 = .ok (.iload_n 2, 1) := by decide +kernel
theorem d_Mod_across_11 : decode b_Mod_across 11 = .ok (.iconst 2, 1) := by decide +kernel
theorem d_Mod_across_12 : decode b_Mod_across 12 = .ok (.irem, 1) := by decide +kernel
theorem d_Mod_across_13 : decode b_Mod_across 13 = .ok (.iconst 1, 1) := by decide +kernel
theorem d_Mod_across_14 : decode b_Mod_across 14 = .ok (.if_icmp .ne 12, 3) := by decide +kernel
theorem d_Mod_across_17 : decode b_Mod_across 17 = .ok (.aload_n 0, 1) := by decide +kernel
theorem d_Mod_across_18 : decode b_Mod_across 18 = .ok (.iload_n 1, 1) := by decide +kernel
theorem d_Mod_across_19 : decode b_Mod_across 19 = .ok (.iconst 0, 1) := by decide +kernel
theorem d_Mod_across_20 : decode b_Mod_across 20 = .ok (.invokevirtual 102, 3) := by decide +kernel
theorem d_Mod_across_23 : decode b_Mod_across 23 = .ok (.goto 4, 3) := by decide +kernel
theorem d_Mod_across_26 : decode b_Mod_across 26 = .ok (.iconst 0, 1) := by decide +kernel
theorem d_Mod_across_27 : decode b_Mod_across 27 = .ok (.ireturn, 1) := by decide +kernel
theorem d_Mod_across_28 : decode b_Mod_across 28 = .ok (.iconst 0, 1) := by decide +kernel
theorem d_Mod_across_29 : decode b_Mod_across 29 = .ok (.istore_n 3, 1) := by decide +kernel
theorem d_Mod_across_30 : decode b_Mod_across 30 = .ok (.iconst 0, 1) := by decide +kernel
theorem d_Mod_across_31 : decode b_Mod_across 31 = .ok (.istore 4, 2) := by decide +kernel
theorem d_Mod_across_33 : decode b_Mod_across 33 = .ok (.iload 4, 2) := by decide +kernel
theorem d_Mod_across_35 : decode b_Mod_across 35 = .ok (.iload_n 2, 1) := by decide +kernel
theorem d_Mod_across_36 : decode b_Mod_across 36 = .ok (.if_icmp .ge 19, 3) := by decide +kernel
theorem d_Mod_across_39 : decode b_Mod_across 39 = .ok (.iload_n 3, 1) := by decide +kernel
theorem d_Mod_across_40 : decode b_Mod_across 40 = .ok (.aload_n 0, 1) := by decide +kernel
theorem d_Mod_across_41 : decode b_Mod_across 41 = .ok (.iload_n 1, 1) := by decide +kernel
theorem d_Mod_across_42 : decode b_Mod_across 42 = .ok (.iload 4, 2) := by decide +kernel
theorem d_Mod_across_44 : decode b_Mod_across 44 = .ok (.invokevirtual 102, 3) := by decide +kernel
theorem d_Mod_across_47 : decode b_Mod_across 47 = .ok (.iadd, 1) := by decide +kernel
theorem d_Mod_across_48 : decode b_Mod_across 48 = .ok (.istore_n 3, 1) := by decide +kernel
theorem d_Mod_across_49 : decode b_Mod_across 49 = .ok (.iinc 4 1, 3) := by decide +kernel
theorem d_Mod_across_52 : decode b_Mod_across 52 = .ok (.goto (-19), 3) := by decide +kernel
theorem d_Mod_across_55 : decode b_Mod_across 55 = .ok (.iload_n 3, 1) := by decide +kernel
theorem d_Mod_across_56 : decode b_Mod_across 56 = .ok (.ireturn, 1) := by decide +kernel
def f_Mod_across_L33 (w : Mp) (h0 : Nat) (x1 : Int32) (x2 : Int32) : Nat → Int32 → Int32 → Option (Nat × Int32 × Int32)
  | 0, _, _ => none
  | n + 1, x3, x4 => if x2 ≤ x4 then (some (0, x3, x4)) else ((xo w (some h0) 5).bind fun b_4 => (f_Mod_wide w b_4 x1 x4).bind fun q_3 => f_Mod_across_L33 w h0 x1 x2 n (x3 + q_3) (x4 + 1))
set_option maxHeartbeats 4000000 in
set_option maxRecDepth 100000 in
theorem w_Mod_across_L33 {p : Program} {l : Launch} {e : Env} {R : Room} {s : State} {m : MethodId} {args : Array Value} {below : List Frame} {meth : Method} {c : Code} {Q : State → Prop} {cells slots sz : Nat} {G : Gx} {h0 : Nat} {x1 : Int32} {x2 : Int32} (C0 : CallFix p m c b_Mod_across 5 s args wA R_Mod) (hE : xE G vwCl xaty s) (hR1 : 1 ≤ R.frames) (hR2 : 22 ≤ R.locals) (hR3 : cells ≤ R.cells) (hR4 : slots ≤ R.slots) {w : Mp} {H : Heap} {locs : List Loc} (hH : xhd G vwCl w H) (hS : xS G s H locs) (hz : H.size = sz) : ∀ (n : Nat) (x3 : Int32) (x4 : Int32) (q : Nat × Int32 × Int32) (ls : Array Slot), xL ls 5 [(0, .inr (.inl (some h0))), (1, .inl x1), (2, .inl x2), (3, .inl x3), (4, .inl x4)] → f_Mod_across_L33 w h0 x1 x2 n x3 x4 = some q → (∀ (ls : Array Slot), xL ls 5 [(0, .inr (.inl (some h0))), (1, .inl x1), (2, .inl x2), (3, .inl q.2.1), (4, .inl q.2.2)] → W p l e R s m args below meth c H locs cells slots Q (F0 m 55 ls [])) → W p l e R s m args below meth c H locs cells slots Q (F0 m 33 ls []) := by
  intro n
  induction n with
  | zero => intro _ _ q ls hl h; cases h
  | succ n ih =>
    intro x3 x4 q ls hl h K
    rw [f_Mod_across_L33] at h
    refine x_iload C0 hl 4 d_Mod_across_33 rfl ?_
    refine x_iload_n C0 hl 2 d_Mod_across_35 rfl rfl ?_
    refine x_icmp_ge C0 55 d_Mod_across_36 (by decide) h (fun h => ?_) (fun h => ?_)
    · cases h
      exact K ls (x_sub hl [0, 1, 2, 3, 4] rfl)
    · refine x_iload_n C0 hl 3 d_Mod_across_39 rfl rfl ?_
      refine x_aload_n C0 hl 0 d_Mod_across_40 rfl rfl ?_
      refine x_iload_n C0 hl 1 d_Mod_across_41 rfl rfl ?_
      refine x_iload C0 hl 4 d_Mod_across_42 rfl ?_
      obtain ⟨b_4, e9, h⟩ := Option.bind_eq_some_iff.mp h
      obtain ⟨e8, fs9, hb9⟩ := xo_inv e9
      obtain ⟨q_3, e9, h⟩ := Option.bind_eq_some_iff.mp h
      refine x_callP (va_runV (As := [.int x1, .int x4]) (rest := [.int x3]) C0 (c_Mod_wide l G w _ b_4 x1 x4 q_3 e9) (x_cwV 2 C0 kw_4_202 kw_4_205 kw_1_3 kw_4_204 kw_0_21 (by decide +kernel) (x_rm hR1 hR2 (by decide) (by decide))) (x_preV hE hH hS (ci := 5) rfl hb9) rfl rfl hl.1 (by rw [e8]; rfl) (lv_room (by simp only [List.map_cons, List.map_nil, List.sum_cons, List.sum_nil, va_rf_cat, x_catI, x_catL, x_catA] <;> decide)) d_Mod_across_44 (x_le0 hR3 hR4)) ?_
      refine lv_iadd C0.1 C0.2.1 d_Mod_across_47 ?_
      refine x_istore_n (lv' := [(3, .inl (x3 + q_3)), (0, .inr (.inl (some h0))), (1, .inl x1), (2, .inl x2), (4, .inl x4)]) C0 hl d_Mod_across_48 rfl (by decide) rfl (fun ls hl => ?_)
      refine x_iinc (v := 1) (lv' := [(4, .inl (x4 + 1)), (3, .inl (x3 + q_3)), (0, .inr (.inl (some h0))), (1, .inl x1), (2, .inl x2)]) C0 hl 4 d_Mod_across_49 rfl (by decide) (by decide) rfl (fun ls hl => ?_)
      refine x_goto C0 33 d_Mod_across_52 (by decide) ?_
      exact ih _ _ q ls (x_sub hl [2, 3, 4, 1, 0] rfl) h K
def f_Mod_across (w : Mp) (h0 : Nat) (x1 : Int32) (x2 : Int32) : Option (Int32) := (gR w (some h0) 5 10).bind fun v_1 => (aI w v_1 0 x1).bind fun v_2 => if v_2 = (3 : Int32) then (if (x2 - x2 / (2 : Int32) * (2 : Int32)) = (1 : Int32) then ((xo w (some h0) 5).bind fun b_7 => (f_Mod_wide w b_7 x1 (0 : Int32)).bind fun q_6 => some q_6) else (some (0 : Int32))) else ((f_Mod_across_L33 w h0 x1 x2 100000 (0 : Int32) (0 : Int32)).bind fun q_5 => some q_5.2.1)
set_option maxHeartbeats 4000000 in
set_option maxRecDepth 100000 in
theorem c_Mod_across (l : Launch) (G : Gx) (w : Mp) (sz : Nat) (h0 : Nat) (x1 : Int32) (x2 : Int32) (res : Int32) (hf : f_Mod_across w h0 x1 x2 = some res) : Met l y_Mod_across (xws y_Mod_across b_Mod_across 5 (some .int)) { frames := 1, cells := 0, slots := 0, locals := 22 } (xPc G vwCl xaty w sz [va_rf (some h0), .int x1, .int x2]) (qP (some (.int res))) 0 0 (fun _ => False) := by
  refine Met.ofW (cc := b_Mod_across) (maxL := 5) (ret := (some .int)) (by decide) rfl ?_
  intro p e s m args below meth c s₁ B hml hv
  obtain ⟨ha, hE, hH, hz⟩ := hv
  have C0 : CallFix p m c b_Mod_across 5 s args wA R_Mod := ⟨B.exec, B.bytes, hml, findClass_of_methodNamed B.named, fun w hw => atoms_spec (ws := xws y_Mod_across b_Mod_across 5 (some .int)) B.pre w (List.mem_cons_of_mem _ hw)⟩
  have hr := B.returns
  have hlocks := B.notSynchronized
  obtain ⟨R, hR⟩ : ∃ R, R = (headSpec (xws y_Mod_across b_Mod_across 5 (some .int)) { frames := 1, cells := 0, slots := 0, locals := 22 }).room := ⟨_, rfl⟩
  have hR1 : 1 ≤ R.frames := by rw [hR]; exact Nat.le_of_ble_eq_true rfl
  have hR2 : 22 ≤ R.locals := by rw [hR]; exact Nat.le_of_ble_eq_true rfl
  have hR3 : 0 ≤ R.cells := Nat.zero_le _
  have hR4 : 0 ≤ R.slots := Nat.zero_le _
  rw [← hR]
  obtain ⟨Q, hQ⟩ : ∃ Q, Q = MQ below (qP (some (.int res))) args s 0 0 (fun _ => False) := ⟨_, rfl⟩
  rw [← hQ]
  have hS : xS G s s.heap [] := va_S.rf
  obtain ⟨ls, he, hl⟩ := x_entry m [.inr (.inl (some h0)), .inl x1, .inl x2] 5 (Nat.le_of_ble_eq_true rfl)
  rw [show entryFrame m args 5 = F0 m 0 ls [] by rw [ha]; exact he]
  have hl : xL ls 5 [(0, .inr (.inl (some h0))), (1, .inl x1), (2, .inl x2)] := hl
  have h := hf
  unfold f_Mod_across at h
  suffices hmain : ∀ (H : Heap) (locs : List Loc), xhd G vwCl w H → xS G s H locs → H.size = sz → (H = s.heap ∧ locs = []) → W p l e R s m args below meth c H locs 0 0 Q (F0 m 0 ls []) from hmain _ _ hH hS hz ⟨rfl, rfl⟩
  clear hH hS hz
  intro H locs hH hS hz hP0
  refine x_aload_n C0 hl 0 d_Mod_across_0 rfl rfl ?_
  refine x_getR C0 hE hH (ci := 5) rfl i_Mod 10 (by decide) kw_4_89 d_Mod_across_1 h (fun v_1 h => ?_)
  refine x_iload_n C0 hl 1 d_Mod_across_4 rfl rfl ?_
  refine x_iald C0 hE hH (t := 0) rfl d_Mod_across_5 h (fun v_2 h => ?_)
  refine lv_iconst (v := 3) C0.1 C0.2.1 d_Mod_across_6 (by decide) ?_
  refine x_icmp_ne C0 28 d_Mod_across_7 (by decide) h (fun h => ?_) (fun h => ?_)
  · refine lv_iconst (v := 0) C0.1 C0.2.1 d_Mod_across_28 (by decide) ?_
    refine x_istore_n (lv' := [(3, .inl (0 : Int32)), (0, .inr (.inl (some h0))), (1, .inl x1), (2, .inl x2)]) C0 hl d_Mod_across_29 rfl (by decide) rfl (fun ls hl => ?_)
    refine lv_iconst (v := 0) C0.1 C0.2.1 d_Mod_across_30 (by decide) ?_
    refine x_istore (lv' := [(4, .inl (0 : Int32)), (3, .inl (0 : Int32)), (0, .inr (.inl (some h0))), (1, .inl x1), (2, .inl x2)]) C0 hl d_Mod_across_31 (by decide) rfl (fun ls hl => ?_)
    obtain ⟨q_5, e9, h⟩ := Option.bind_eq_some_iff.mp h
    refine w_Mod_across_L33 C0 hE hR1 hR2 hR3 hR4 hH hS hz 100000 _ _ q_5 ls (x_sub hl [2, 3, 4, 1, 0] rfl) e9 (fun ls hl => ?_)
    refine x_iload_n C0 hl 3 d_Mod_across_55 rfl rfl ?_
    cases h
    rw [hQ]
    exact x_iretP C0 hr hlocks hP0 d_Mod_across_56
  · refine x_iload_n C0 hl 2 d_Mod_across_10 rfl rfl ?_
    refine lv_iconst (v := 2) C0.1 C0.2.1 d_Mod_across_11 (by decide) ?_
    refine lv_irem C0.1 C0.2.1 d_Mod_across_12 (by decide) ?_
    refine lv_iconst (v := 1) C0.1 C0.2.1 d_Mod_across_13 (by decide) ?_
    refine x_icmp_ne C0 26 d_Mod_across_14 (by decide) h (fun h => ?_) (fun h => ?_)
    · refine lv_iconst (v := 0) C0.1 C0.2.1 d_Mod_across_26 (by decide) ?_
      cases h
      rw [hQ]
      exact x_iretP C0 hr hlocks hP0 d_Mod_across_27
    · refine x_aload_n C0 hl 0 d_Mod_across_17 rfl rfl ?_
      refine x_iload_n C0 hl 1 d_Mod_across_18 rfl rfl ?_
      refine lv_iconst (v := 0) C0.1 C0.2.1 d_Mod_across_19 (by decide) ?_
      obtain ⟨b_7, e9, h⟩ := Option.bind_eq_some_iff.mp h
      obtain ⟨e8, fs9, hb9⟩ := xo_inv e9
      obtain ⟨q_6, e9, h⟩ := Option.bind_eq_some_iff.mp h
      refine x_callP (va_runV (As := [.int x1, .int (0 : Int32)]) (rest := []) C0 (c_Mod_wide l G w _ b_7 x1 (0 : Int32) q_6 e9) (x_cwV 2 C0 kw_4_202 kw_4_205 kw_1_3 kw_4_204 kw_0_21 (by decide +kernel) (x_rm hR1 hR2 (by decide) (by decide))) (x_preV hE hH hS (ci := 5) rfl hb9) rfl rfl hl.1 (by rw [e8]; rfl) (lv_room (by simp only [List.map_cons, List.map_nil, List.sum_cons, List.sum_nil, va_rf_cat, x_catI, x_catL, x_catA] <;> decide)) d_Mod_across_20 (x_le0 hR3 hR4)) ?_
      refine x_goto C0 27 d_Mod_across_23 (by decide) ?_
      cases h
      rw [hQ]
      exact x_iretP C0 hr hlocks hP0 d_Mod_across_27
theorem d_Mod_topOf_0 : decode b_Mod_topOf 0 = .ok (.aload_n 0, 1) := by decide +kernel
theorem d_Mod_topOf_1 : decode b_Mod_topOf 1 = .ok (.getfield 32, 3) := by decide +kernel
theorem d_Mod_topOf_4 : decode b_Mod_topOf 4 = .ok (.iload_n 1, 1) := by decide +kernel
theorem d_Mod_topOf_5 : decode b_Mod_topOf 5 = .ok (.iaload, 1) := by decide +kernel
theorem d_Mod_topOf_6 : decode b_Mod_topOf 6 = .ok (.iconst 3, 1) := by decide +kernel
theorem d_Mod_topOf_7 : decode b_Mod_topOf 7 = .ok (.if_icmp .ne 19, 3) := by decide +kernel
theorem d_Mod_topOf_10 : decode b_Mod_topOf 10 = .ok (.iload_n 2, 1) := by decide +kernel
theorem d_Mod_topOf_11 : decode b_Mod_topOf 11 = .ok (.iconst 1, 1) := by decide +kernel
theorem d_Mod_topOf_12 : decode b_Mod_topOf 12 = .ok (.if_icmp .le 12, 3) := by decide +kernel
theorem d_Mod_topOf_15 : decode b_Mod_topOf 15 = .ok (.aload_n 0, 1) := by decide +kernel
theorem d_Mod_topOf_16 : decode b_Mod_topOf 16 = .ok (.iload_n 1, 1) := by decide +kernel
theorem d_Mod_topOf_17 : decode b_Mod_topOf 17 = .ok (.iconst 0, 1) := by decide +kernel
theorem d_Mod_topOf_18 : decode b_Mod_topOf 18 = .ok (.invokevirtual 99, 3) := by decide +kernel
theorem d_Mod_topOf_21 : decode b_Mod_topOf 21 = .ok (.goto 4, 3) := by decide +kernel
theorem d_Mod_topOf_24 : decode b_Mod_topOf 24 = .ok (.iconst 0, 1) := by decide +kernel
theorem d_Mod_topOf_25 : decode b_Mod_topOf 25 = .ok (.ireturn, 1) := by decide +kernel
theorem d_Mod_topOf_26 : decode b_Mod_topOf 26 = .ok (.iconst 0, 1) := by decide +kernel
theorem d_Mod_topOf_27 : decode b_Mod_topOf 27 = .ok (.istore_n 3, 1) := by decide +kernel
theorem d_Mod_topOf_28 : decode b_Mod_topOf 28 = .ok (.iconst 0, 1) := by decide +kernel
theorem d_Mod_topOf_29 : decode b_Mod_topOf 29 = .ok (.istore 4, 2) := by decide +kernel
theorem d_Mod_topOf_31 : decode b_Mod_topOf 31 = .ok (.iload 4, 2) := by decide +kernel
theorem d_Mod_topOf_33 : decode b_Mod_topOf 33 = .ok (.iload_n 2, 1) := by decide +kernel
theorem d_Mod_topOf_34 : decode b_Mod_topOf 34 = .ok (.if_icmp .ge 19, 3) := by decide +kernel
theorem d_Mod_topOf_37 : decode b_Mod_topOf 37 = .ok (.iload_n 3, 1) := by decide +kernel
theorem d_Mod_topOf_38 : decode b_Mod_topOf 38 = .ok (.aload_n 0, 1) := by decide +kernel
theorem d_Mod_topOf_39 : decode b_Mod_topOf 39 = .ok (.iload_n 1, 1) := by decide +kernel
theorem d_Mod_topOf_40 : decode b_Mod_topOf 40 = .ok (.iload 4, 2) := by decide +kernel
theorem d_Mod_topOf_42 : decode b_Mod_topOf 42 = .ok (.invokevirtual 113, 3) := by decide +kernel
theorem d_Mod_topOf_45 : decode b_Mod_topOf 45 = .ok (.iadd, 1) := by decide +kernel
theorem d_Mod_topOf_46 : decode b_Mod_topOf 46 = .ok (.istore_n 3, 1) := by decide +kernel
theorem d_Mod_topOf_47 : decode b_Mod_topOf 47 = .ok (.iinc 4 1, 3) := by decide +kernel
theorem d_Mod_topOf_50 : decode b_Mod_topOf 50 = .ok (.goto (-19), 3) := by decide +kernel
theorem d_Mod_topOf_53 : decode b_Mod_topOf 53 = .ok (.iload_n 3, 1) := by decide +kernel
theorem d_Mod_topOf_54 : decode b_Mod_topOf 54 = .ok (.ireturn, 1) := by decide +kernel
def f_Mod_topOf_L31 (w : Mp) (h0 : Nat) (x1 : Int32) (x2 : Int32) : Nat → Int32 → Int32 → Option (Nat × Int32 × Int32)
  | 0, _, _ => none
  | n + 1, x3, x4 => if x2 ≤ x4 then (some (0, x3, x4)) else ((xo w (some h0) 5).bind fun b_4 => (f_Mod_shiftOf w b_4 x1 x4).bind fun q_3 => f_Mod_topOf_L31 w h0 x1 x2 n (x3 + q_3) (x4 + 1))
set_option maxHeartbeats 4000000 in
set_option maxRecDepth 100000 in
theorem w_Mod_topOf_L31 {p : Program} {l : Launch} {e : Env} {R : Room} {s : State} {m : MethodId} {args : Array Value} {below : List Frame} {meth : Method} {c : Code} {Q : State → Prop} {cells slots sz : Nat} {G : Gx} {h0 : Nat} {x1 : Int32} {x2 : Int32} (C0 : CallFix p m c b_Mod_topOf 5 s args wA R_Mod) (hE : xE G vwCl xaty s) (hR1 : 4 ≤ R.frames) (hR2 : 105 ≤ R.locals) (hR3 : cells ≤ R.cells) (hR4 : slots ≤ R.slots) {w : Mp} {H : Heap} {locs : List Loc} (hH : xhd G vwCl w H) (hS : xS G s H locs) (hz : H.size = sz) : ∀ (n : Nat) (x3 : Int32) (x4 : Int32) (q : Nat × Int32 × Int32) (ls : Array Slot), xL ls 5 [(0, .inr (.inl (some h0))), (1, .inl x1), (2, .inl x2), (3, .inl x3), (4, .inl x4)] → f_Mod_topOf_L31 w h0 x1 x2 n x3 x4 = some q → (∀ (ls : Array Slot), xL ls 5 [(0, .inr (.inl (some h0))), (1, .inl x1), (2, .inl x2), (3, .inl q.2.1), (4, .inl q.2.2)] → W p l e R s m args below meth c H locs cells slots Q (F0 m 53 ls [])) → W p l e R s m args below meth c H locs cells slots Q (F0 m 31 ls []) := by
  intro n
  induction n with
  | zero => intro _ _ q ls hl h; cases h
  | succ n ih =>
    intro x3 x4 q ls hl h K
    rw [f_Mod_topOf_L31] at h
    refine x_iload C0 hl 4 d_Mod_topOf_31 rfl ?_
    refine x_iload_n C0 hl 2 d_Mod_topOf_33 rfl rfl ?_
    refine x_icmp_ge C0 53 d_Mod_topOf_34 (by decide) h (fun h => ?_) (fun h => ?_)
    · cases h
      exact K ls (x_sub hl [0, 1, 2, 3, 4] rfl)
    · refine x_iload_n C0 hl 3 d_Mod_topOf_37 rfl rfl ?_
      refine x_aload_n C0 hl 0 d_Mod_topOf_38 rfl rfl ?_
      refine x_iload_n C0 hl 1 d_Mod_topOf_39 rfl rfl ?_
      refine x_iload C0 hl 4 d_Mod_topOf_40 rfl ?_
      obtain ⟨b_4, e9, h⟩ := Option.bind_eq_some_iff.mp h
      obtain ⟨e8, fs9, hb9⟩ := xo_inv e9
      obtain ⟨q_3, e9, h⟩ := Option.bind_eq_some_iff.mp h
      refine x_callP (va_runV (As := [.int x1, .int x4]) (rest := [.int x3]) C0 (c_Mod_shiftOf l G w _ b_4 x1 x4 q_3 e9) (x_cwV 2 C0 kw_4_214 kw_4_217 kw_1_3 kw_4_216 kw_0_24 (by decide +kernel) (x_rm hR1 hR2 (by decide) (by decide))) (x_preV hE hH hS (ci := 5) rfl hb9) rfl rfl hl.1 (by rw [e8]; rfl) (lv_room (by simp only [List.map_cons, List.map_nil, List.sum_cons, List.sum_nil, va_rf_cat, x_catI, x_catL, x_catA] <;> decide)) d_Mod_topOf_42 (x_le0 hR3 hR4)) ?_
      refine lv_iadd C0.1 C0.2.1 d_Mod_topOf_45 ?_
      refine x_istore_n (lv' := [(3, .inl (x3 + q_3)), (0, .inr (.inl (some h0))), (1, .inl x1), (2, .inl x2), (4, .inl x4)]) C0 hl d_Mod_topOf_46 rfl (by decide) rfl (fun ls hl => ?_)
      refine x_iinc (v := 1) (lv' := [(4, .inl (x4 + 1)), (3, .inl (x3 + q_3)), (0, .inr (.inl (some h0))), (1, .inl x1), (2, .inl x2)]) C0 hl 4 d_Mod_topOf_47 rfl (by decide) (by decide) rfl (fun ls hl => ?_)
      refine x_goto C0 31 d_Mod_topOf_50 (by decide) ?_
      exact ih _ _ q ls (x_sub hl [2, 3, 4, 1, 0] rfl) h K
def f_Mod_topOf (w : Mp) (h0 : Nat) (x1 : Int32) (x2 : Int32) : Option (Int32) := (gR w (some h0) 5 10).bind fun v_1 => (aI w v_1 0 x1).bind fun v_2 => if v_2 = (3 : Int32) then (if x2 ≤ (1 : Int32) then (some (0 : Int32)) else ((xo w (some h0) 5).bind fun b_7 => (f_Mod_high w b_7 x1 (0 : Int32)).bind fun q_6 => some q_6)) else ((f_Mod_topOf_L31 w h0 x1 x2 100000 (0 : Int32) (0 : Int32)).bind fun q_5 => some q_5.2.1)
set_option maxHeartbeats 4000000 in
set_option maxRecDepth 100000 in
theorem c_Mod_topOf (l : Launch) (G : Gx) (w : Mp) (sz : Nat) (h0 : Nat) (x1 : Int32) (x2 : Int32) (res : Int32) (hf : f_Mod_topOf w h0 x1 x2 = some res) : Met l y_Mod_topOf (xws y_Mod_topOf b_Mod_topOf 5 (some .int)) { frames := 4, cells := 0, slots := 0, locals := 105 } (xPc G vwCl xaty w sz [va_rf (some h0), .int x1, .int x2]) (qP (some (.int res))) 0 0 (fun _ => False) := by
  refine Met.ofW (cc := b_Mod_topOf) (maxL := 5) (ret := (some .int)) (by decide) rfl ?_
  intro p e s m args below meth c s₁ B hml hv
  obtain ⟨ha, hE, hH, hz⟩ := hv
  have C0 : CallFix p m c b_Mod_topOf 5 s args wA R_Mod := ⟨B.exec, B.bytes, hml, findClass_of_methodNamed B.named, fun w hw => atoms_spec (ws := xws y_Mod_topOf b_Mod_topOf 5 (some .int)) B.pre w (List.mem_cons_of_mem _ hw)⟩
  have hr := B.returns
  have hlocks := B.notSynchronized
  obtain ⟨R, hR⟩ : ∃ R, R = (headSpec (xws y_Mod_topOf b_Mod_topOf 5 (some .int)) { frames := 4, cells := 0, slots := 0, locals := 105 }).room := ⟨_, rfl⟩
  have hR1 : 4 ≤ R.frames := by rw [hR]; exact Nat.le_of_ble_eq_true rfl
  have hR2 : 105 ≤ R.locals := by rw [hR]; exact Nat.le_of_ble_eq_true rfl
  have hR3 : 0 ≤ R.cells := Nat.zero_le _
  have hR4 : 0 ≤ R.slots := Nat.zero_le _
  rw [← hR]
  obtain ⟨Q, hQ⟩ : ∃ Q, Q = MQ below (qP (some (.int res))) args s 0 0 (fun _ => False) := ⟨_, rfl⟩
  rw [← hQ]
  have hS : xS G s s.heap [] := va_S.rf
  obtain ⟨ls, he, hl⟩ := x_entry m [.inr (.inl (some h0)), .inl x1, .inl x2] 5 (Nat.le_of_ble_eq_true rfl)
  rw [show entryFrame m args 5 = F0 m 0 ls [] by rw [ha]; exact he]
  have hl : xL ls 5 [(0, .inr (.inl (some h0))), (1, .inl x1), (2, .inl x2)] := hl
  have h := hf
  unfold f_Mod_topOf at h
  suffices hmain : ∀ (H : Heap) (locs : List Loc), xhd G vwCl w H → xS G s H locs → H.size = sz → (H = s.heap ∧ locs = []) → W p l e R s m args below meth c H locs 0 0 Q (F0 m 0 ls []) from hmain _ _ hH hS hz ⟨rfl, rfl⟩
  clear hH hS hz
  intro H locs hH hS hz hP0
  refine x_aload_n C0 hl 0 d_Mod_topOf_0 rfl rfl ?_
  refine x_getR C0 hE hH (ci := 5) rfl i_Mod 10 (by decide) kw_4_89 d_Mod_topOf_1 h (fun v_1 h => ?_)
  refine x_iload_n C0 hl 1 d_Mod_topOf_4 rfl rfl ?_
  refine x_iald C0 hE hH (t := 0) rfl d_Mod_topOf_5 h (fun v_2 h => ?_)
  refine lv_iconst (v := 3) C0.1 C0.2.1 d_Mod_topOf_6 (by decide) ?_
  refine x_icmp_ne C0 26 d_Mod_topOf_7 (by decide) h (fun h => ?_) (fun h => ?_)
  · refine lv_iconst (v := 0) C0.1 C0.2.1 d_Mod_topOf_26 (by decide) ?_
    refine x_istore_n (lv' := [(3, .inl (0 : Int32)), (0, .inr (.inl (some h0))), (1, .inl x1), (2, .inl x2)]) C0 hl d_Mod_topOf_27 rfl (by decide) rfl (fun ls hl => ?_)
    refine lv_iconst (v := 0) C0.1 C0.2.1 d_Mod_topOf_28 (by decide) ?_
    refine x_istore (lv' := [(4, .inl (0 : Int32)), (3, .inl (0 : Int32)), (0, .inr (.inl (some h0))), (1, .inl x1), (2, .inl x2)]) C0 hl d_Mod_topOf_29 (by decide) rfl (fun ls hl => ?_)
    obtain ⟨q_5, e9, h⟩ := Option.bind_eq_some_iff.mp h
    refine w_Mod_topOf_L31 C0 hE hR1 hR2 hR3 hR4 hH hS hz 100000 _ _ q_5 ls (x_sub hl [2, 3, 4, 1, 0] rfl) e9 (fun ls hl => ?_)
    refine x_iload_n C0 hl 3 d_Mod_topOf_53 rfl rfl ?_
    cases h
    rw [hQ]
    exact x_iretP C0 hr hlocks hP0 d_Mod_topOf_54
  · refine x_iload_n C0 hl 2 d_Mod_topOf_10 rfl rfl ?_
    refine lv_iconst (v := 1) C0.1 C0.2.1 d_Mod_topOf_11 (by decide) ?_
    refine x_icmp_le C0 24 d_Mod_topOf_12 (by decide) h (fun h => ?_) (fun h => ?_)
    · refine lv_iconst (v := 0) C0.1 C0.2.1 d_Mod_topOf_24 (by decide) ?_
      cases h
      rw [hQ]
      exact x_iretP C0 hr hlocks hP0 d_Mod_topOf_25
    · refine x_aload_n C0 hl 0 d_Mod_topOf_15 rfl rfl ?_
      refine x_iload_n C0 hl 1 d_Mod_topOf_16 rfl rfl ?_
      refine lv_iconst (v := 0) C0.1 C0.2.1 d_Mod_topOf_17 (by decide) ?_
      obtain ⟨b_7, e9, h⟩ := Option.bind_eq_some_iff.mp h
      obtain ⟨e8, fs9, hb9⟩ := xo_inv e9
      obtain ⟨q_6, e9, h⟩ := Option.bind_eq_some_iff.mp h
      refine x_callP (va_runV (As := [.int x1, .int (0 : Int32)]) (rest := []) C0 (c_Mod_high l G w _ b_7 x1 (0 : Int32) q_6 e9) (x_cwV 2 C0 kw_4_210 kw_4_213 kw_1_3 kw_4_212 kw_0_23 (by decide +kernel) (x_rm hR1 hR2 (by decide) (by decide))) (x_preV hE hH hS (ci := 5) rfl hb9) rfl rfl hl.1 (by rw [e8]; rfl) (lv_room (by simp only [List.map_cons, List.map_nil, List.sum_cons, List.sum_nil, va_rf_cat, x_catI, x_catL, x_catA] <;> decide)) d_Mod_topOf_18 (x_le0 hR3 hR4)) ?_
      refine x_goto C0 25 d_Mod_topOf_21 (by decide) ?_
      cases h
      rw [hQ]
      exact x_iretP C0 hr hlocks hP0 d_Mod_topOf_25
theorem d_Mod_leastTop_0 : decode b_Mod_leastTop 0 = .ok (.iconst 0, 1) := by decide +kernel
theorem d_Mod_leastTop_1 : decode b_Mod_leastTop 1 = .ok (.istore_n 2, 1) := by decide +kernel
theorem d_Mod_leastTop_2 : decode b_Mod_leastTop 2 = .ok (.iconst 0, 1) := by decide +kernel
theorem d_Mod_leastTop_3 : decode b_Mod_leastTop 3 = .ok (.istore_n 3, 1) := by decide +kernel
theorem d_Mod_leastTop_4 : decode b_Mod_leastTop 4 = .ok (.iload_n 3, 1) := by decide +kernel
theorem d_Mod_leastTop_5 : decode b_Mod_leastTop 5 = .ok (.aload_n 0, 1) := by decide +kernel
theorem d_Mod_leastTop_6 : decode b_Mod_leastTop 6 = .ok (.getfield 35, 3) := by decide +kernel
theorem d_Mod_leastTop_9 : decode b_Mod_leastTop 9 = .ok (.iload_n 1, 1) := by decide +kernel
theorem d_Mod_leastTop_10 : decode b_Mod_leastTop 10 = .ok (.iaload, 1) := by decide +kernel
theorem d_Mod_leastTop_11 : decode b_Mod_leastTop 11 = .ok (.if_icmp .ge 30, 3) := by decide +kernel
theorem d_Mod_leastTop_14 : decode b_Mod_leastTop 14 = .ok (.aload_n 0, 1) := by decide +kernel
theorem d_Mod_leastTop_15 : decode b_Mod_leastTop 15 = .ok (.iload_n 1, 1) := by decide +kernel
theorem d_Mod_leastTop_16 : decode b_Mod_leastTop 16 = .ok (.iload_n 3, 1) := by decide +kernel
theorem d_Mod_leastTop_17 : decode b_Mod_leastTop 17 = .ok (.invokevirtual 116, 3) := by decide +kernel
theorem d_Mod_leastTop_20 : decode b_Mod_leastTop 20 = .ok (.istore 4, 2) := by decide +kernel
theorem d_Mod_leastTop_22 : decode b_Mod_leastTop 22 = .ok (.iload 4, 2) := by decide +kernel
theorem d_Mod_leastTop_24 : decode b_Mod_leastTop 24 = .ok (.iload_n 2, 1) := by decide +kernel
theorem d_Mod_leastTop_25 : decode b_Mod_leastTop 25 = .ok (.if_icmp .ge 8, 3) := by decide +kernel
theorem d_Mod_leastTop_28 : decode b_Mod_leastTop 28 = .ok (.iload 4, 2) := by decide +kernel
theorem d_Mod_leastTop_30 : decode b_Mod_leastTop 30 = .ok (.goto 4, 3) := by decide +kernel
theorem d_Mod_leastTop_33 : decode b_Mod_leastTop 33 = .ok (.iload_n 2, 1) := by decide +kernel
theorem d_Mod_leastTop_34 : decode b_Mod_leastTop 34 = .ok (.istore_n 2, 1) := by decide +kernel
theorem d_Mod_leastTop_35 : decode b_Mod_leastTop 35 = .ok (.iinc 3 1, 3) := by decide +kernel
theorem d_Mod_leastTop_38 : decode b_Mod_leastTop 38 = .ok (.goto (-34), 3) := by decide +kernel
theorem d_Mod_leastTop_41 : decode b_Mod_leastTop 41 = .ok (.iload_n 2, 1) := by decide +kernel
theorem d_Mod_leastTop_42 : decode b_Mod_leastTop 42 = .ok (.ireturn, 1) := by decide +kernel
def f_Mod_leastTop_L4 (w : Mp) (h0 : Nat) (x1 : Int32) : Nat → Int32 → Int32 → Option (Nat × Int32 × Int32)
  | 0, _, _ => none
  | n + 1, x2, x3 => (gR w (some h0) 5 11).bind fun v_1 => (aI w v_1 0 x1).bind fun v_2 => if v_2 ≤ x3 then (some (0, x2, x3)) else ((xo w (some h0) 5).bind fun b_4 => (f_Mod_topOf w b_4 x1 x3).bind fun q_3 => if x2 ≤ q_3 then (f_Mod_leastTop_L4 w h0 x1 n x2 (x3 + 1)) else (f_Mod_leastTop_L4 w h0 x1 n q_3 (x3 + 1)))
set_option maxHeartbeats 4000000 in
set_option maxRecDepth 100000 in
theorem w_Mod_leastTop_L4 {p : Program} {l : Launch} {e : Env} {R : Room} {s : State} {m : MethodId} {args : Array Value} {below : List Frame} {meth : Method} {c : Code} {Q : State → Prop} {cells slots sz : Nat} {G : Gx} {h0 : Nat} {x1 : Int32} (C0 : CallFix p m c b_Mod_leastTop 5 s args wA R_Mod) (hE : xE G vwCl xaty s) (hR1 : 5 ≤ R.frames) (hR2 : 129 ≤ R.locals) (hR3 : cells ≤ R.cells) (hR4 : slots ≤ R.slots) {w : Mp} {H : Heap} {locs : List Loc} (hH : xhd G vwCl w H) (hS : xS G s H locs) (hz : H.size = sz) : ∀ (n : Nat) (x2 : Int32) (x3 : Int32) (q : Nat × Int32 × Int32) (ls : Array Slot), xL ls 5 [(0, .inr (.inl (some h0))), (1, .inl x1), (2, .inl x2), (3, .inl x3)] → f_Mod_leastTop_L4 w h0 x1 n x2 x3 = some q → (∀ (ls : Array Slot), xL ls 5 [(0, .inr (.inl (some h0))), (1, .inl x1), (2, .inl q.2.1), (3, .inl q.2.2)] → W p l e R s m args below meth c H locs cells slots Q (F0 m 41 ls [])) → W p l e R s m args below meth c H locs cells slots Q (F0 m 4 ls []) := by
  intro n
  induction n with
  | zero => intro _ _ q ls hl h; cases h
  | succ n ih =>
    intro x2 x3 q ls hl h K
    rw [f_Mod_leastTop_L4] at h
    refine x_iload_n C0 hl 3 d_Mod_leastTop_4 rfl rfl ?_
    refine x_aload_n C0 hl 0 d_Mod_leastTop_5 rfl rfl ?_
    refine x_getR C0 hE hH (ci := 5) rfl i_Mod 11 (by decide) kw_4_90 d_Mod_leastTop_6 h (fun v_1 h => ?_)
    refine x_iload_n C0 hl 1 d_Mod_leastTop_9 rfl rfl ?_
    refine x_iald C0 hE hH (t := 0) rfl d_Mod_leastTop_10 h (fun v_2 h => ?_)
    refine x_icmp_ge C0 41 d_Mod_leastTop_11 (by decide) h (fun h => ?_) (fun h => ?_)
    · cases h
      exact K ls (x_sub hl [0, 1, 2, 3] rfl)
    · refine x_aload_n C0 hl 0 d_Mod_leastTop_14 rfl rfl ?_
      refine x_iload_n C0 hl 1 d_Mod_leastTop_15 rfl rfl ?_
      refine x_iload_n C0 hl 3 d_Mod_leastTop_16 rfl rfl ?_
      obtain ⟨b_4, e9, h⟩ := Option.bind_eq_some_iff.mp h
      obtain ⟨e8, fs9, hb9⟩ := xo_inv e9
      obtain ⟨q_3, e9, h⟩ := Option.bind_eq_some_iff.mp h
      refine x_callP (va_runV (As := [.int x1, .int x3]) (rest := []) C0 (c_Mod_topOf l G w _ b_4 x1 x3 q_3 e9) (x_cwV 2 C0 kw_4_206 kw_4_209 kw_1_3 kw_4_208 kw_0_22 (by decide +kernel) (x_rm hR1 hR2 (by decide) (by decide))) (x_preV hE hH hS (ci := 5) rfl hb9) rfl rfl hl.1 (by rw [e8]; rfl) (lv_room (by simp only [List.map_cons, List.map_nil, List.sum_cons, List.sum_nil, va_rf_cat, x_catI, x_catL, x_catA] <;> decide)) d_Mod_leastTop_17 (x_le0 hR3 hR4)) ?_
      refine x_istore (lv' := [(4, .inl q_3), (0, .inr (.inl (some h0))), (1, .inl x1), (2, .inl x2), (3, .inl x3)]) C0 hl d_Mod_leastTop_20 (by decide) rfl (fun ls hl => ?_)
      refine x_iload C0 hl 0 d_Mod_leastTop_22 rfl ?_
      refine x_iload_n C0 hl 3 d_Mod_leastTop_24 rfl rfl ?_
      refine x_icmp_ge C0 33 d_Mod_leastTop_25 (by decide) h (fun h => ?_) (fun h => ?_)
      · refine x_iload_n C0 hl 3 d_Mod_leastTop_33 rfl rfl ?_
        refine x_istore_n (lv' := [(2, .inl x2), (4, .inl q_3), (0, .inr (.inl (some h0))), (1, .inl x1), (3, .inl x3)]) C0 hl d_Mod_leastTop_34 rfl (by decide) rfl (fun ls hl => ?_)
        refine x_iinc (v := 1) (lv' := [(3, .inl (x3 + 1)), (2, .inl x2), (4, .inl q_3), (0, .inr (.inl (some h0))), (1, .inl x1)]) C0 hl 4 d_Mod_leastTop_35 rfl (by decide) (by decide) rfl (fun ls hl => ?_)
        refine x_goto C0 4 d_Mod_leastTop_38 (by decide) ?_
        exact ih _ _ q ls (x_sub hl [3, 4, 1, 0] rfl) h K
      · refine x_iload C0 hl 0 d_Mod_leastTop_28 rfl ?_
        refine x_goto C0 34 d_Mod_leastTop_30 (by decide) ?_
        refine x_istore_n (lv' := [(2, .inl q_3), (4, .inl q_3), (0, .inr (.inl (some h0))), (1, .inl x1), (3, .inl x3)]) C0 hl d_Mod_leastTop_34 rfl (by decide) rfl (fun ls hl => ?_)
        refine x_iinc (v := 1) (lv' := [(3, .inl (x3 + 1)), (2, .inl q_3), (4, .inl q_3), (0, .inr (.inl (some h0))), (1, .inl x1)]) C0 hl 4 d_Mod_leastTop_35 rfl (by decide) (by decide) rfl (fun ls hl => ?_)
        refine x_goto C0 4 d_Mod_leastTop_38 (by decide) ?_
        exact ih _ _ q ls (x_sub hl [3, 4, 1, 0] rfl) h K
def f_Mod_leastTop (w : Mp) (h0 : Nat) (x1 : Int32) : Option (Int32) := (f_Mod_leastTop_L4 w h0 x1 100000 (0 : Int32) (0 : Int32)).bind fun q_5 => some q_5.2.1
set_option maxHeartbeats 4000000 in
set_option maxRecDepth 100000 in
theorem c_Mod_leastTop (l : Launch) (G : Gx) (w : Mp) (sz : Nat) (h0 : Nat) (x1 : Int32) (res : Int32) (hf : f_Mod_leastTop w h0 x1 = some res) : Met l y_Mod_leastTop (xws y_Mod_leastTop b_Mod_leastTop 5 (some .int)) { frames := 5, cells := 0, slots := 0, locals := 129 } (xPc G vwCl xaty w sz [va_rf (some h0), .int x1]) (qP (some (.int res))) 0 0 (fun _ => False) := by
  refine Met.ofW (cc := b_Mod_leastTop) (maxL := 5) (ret := (some .int)) (by decide) rfl ?_
  intro p e s m args below meth c s₁ B hml hv
  obtain ⟨ha, hE, hH, hz⟩ := hv
  have C0 : CallFix p m c b_Mod_leastTop 5 s args wA R_Mod := ⟨B.exec, B.bytes, hml, findClass_of_methodNamed B.named, fun w hw => atoms_spec (ws := xws y_Mod_leastTop b_Mod_leastTop 5 (some .int)) B.pre w (List.mem_cons_of_mem _ hw)⟩
  have hr := B.returns
  have hlocks := B.notSynchronized
  obtain ⟨R, hR⟩ : ∃ R, R = (headSpec (xws y_Mod_leastTop b_Mod_leastTop 5 (some .int)) { frames := 5, cells := 0, slots := 0, locals := 129 }).room := ⟨_, rfl⟩
  have hR1 : 5 ≤ R.frames := by rw [hR]; exact Nat.le_of_ble_eq_true rfl
  have hR2 : 129 ≤ R.locals := by rw [hR]; exact Nat.le_of_ble_eq_true rfl
  have hR3 : 0 ≤ R.cells := Nat.zero_le _
  have hR4 : 0 ≤ R.slots := Nat.zero_le _
  rw [← hR]
  obtain ⟨Q, hQ⟩ : ∃ Q, Q = MQ below (qP (some (.int res))) args s 0 0 (fun _ => False) := ⟨_, rfl⟩
  rw [← hQ]
  have hS : xS G s s.heap [] := va_S.rf
  obtain ⟨ls, he, hl⟩ := x_entry m [.inr (.inl (some h0)), .inl x1] 5 (Nat.le_of_ble_eq_true rfl)
  rw [show entryFrame m args 5 = F0 m 0 ls [] by rw [ha]; exact he]
  have hl : xL ls 5 [(0, .inr (.inl (some h0))), (1, .inl x1)] := hl
  have h := hf
  unfold f_Mod_leastTop at h
  suffices hmain : ∀ (H : Heap) (locs : List Loc), xhd G vwCl w H → xS G s H locs → H.size = sz → (H = s.heap ∧ locs = []) → W p l e R s m args below meth c H locs 0 0 Q (F0 m 0 ls []) from hmain _ _ hH hS hz ⟨rfl, rfl⟩
  clear hH hS hz
  intro H locs hH hS hz hP0
  refine lv_iconst (v := 0) C0.1 C0.2.1 d_Mod_leastTop_0 (by decide) ?_
  refine x_istore_n (lv' := [(2, .inl (0 : Int32)), (0, .inr (.inl (some h0))), (1, .inl x1)]) C0 hl d_Mod_leastTop_1 rfl (by decide) rfl (fun ls hl => ?_)
  refine lv_iconst (v := 0) C0.1 C0.2.1 d_Mod_leastTop_2 (by decide) ?_
  refine x_istore_n (lv' := [(3, .inl (0 : Int32)), (2, .inl (0 : Int32)), (0, .inr (.inl (some h0))), (1, .inl x1)]) C0 hl d_Mod_leastTop_3 rfl (by decide) rfl (fun ls hl => ?_)
  obtain ⟨q_5, e9, h⟩ := Option.bind_eq_some_iff.mp h
  refine w_Mod_leastTop_L4 C0 hE hR1 hR2 hR3 hR4 hH hS hz 100000 _ _ q_5 ls (x_sub hl [2, 3, 1, 0] rfl) e9 (fun ls hl => ?_)
  refine x_iload_n C0 hl 2 d_Mod_leastTop_41 rfl rfl ?_
  cases h
  rw [hQ]
  exact x_iretP C0 hr hlocks hP0 d_Mod_leastTop_42
theorem d_Mod_wideOf_0 : decode b_Mod_wideOf 0 = .ok (.iconst 0, 1) := by decide +kernel
theorem d_Mod_wideOf_1 : decode b_Mod_wideOf 1 = .ok (.istore_n 2, 1) := by decide +kernel
theorem d_Mod_wideOf_2 : decode b_Mod_wideOf 2 = .ok (.iconst 0, 1) := by decide +kernel
theorem d_Mod_wideOf_3 : decode b_Mod_wideOf 3 = .ok (.istore_n 3, 1) := by decide +kernel
theorem d_Mod_wideOf_4 : decode b_Mod_wideOf 4 = .ok (.iload_n 3, 1) := by decide +kernel
theorem d_Mod_wideOf_5 : decode b_Mod_wideOf 5 = .ok (.aload_n 0, 1) := by decide +kernel
theorem d_Mod_wideOf_6 : decode b_Mod_wideOf 6 = .ok (.getfield 35, 3) := by decide +kernel
theorem d_Mod_wideOf_9 : decode b_Mod_wideOf 9 = .ok (.iload_n 1, 1) := by decide +kernel
theorem d_Mod_wideOf_10 : decode b_Mod_wideOf 10 = .ok (.iaload, 1) := by decide +kernel
theorem d_Mod_wideOf_11 : decode b_Mod_wideOf 11 = .ok (.if_icmp .ge 37, 3) := by decide +kernel
theorem d_Mod_wideOf_14 : decode b_Mod_wideOf 14 = .ok (.aload_n 0, 1) := by decide +kernel
theorem d_Mod_wideOf_15 : decode b_Mod_wideOf 15 = .ok (.iload_n 1, 1) := by decide +kernel
theorem d_Mod_wideOf_16 : decode b_Mod_wideOf 16 = .ok (.iload_n 3, 1) := by decide +kernel
theorem d_Mod_wideOf_17 : decode b_Mod_wideOf 17 = .ok (.invokevirtual 122, 3) := by decide +kernel
theorem d_Mod_wideOf_20 : decode b_Mod_wideOf 20 = .ok (.aload_n 0, 1) := by decide +kernel
theorem d_Mod_wideOf_21 : decode b_Mod_wideOf 21 = .ok (.iload_n 1, 1) := by decide +kernel
theorem d_Mod_wideOf_22 : decode b_Mod_wideOf 22 = .ok (.iload_n 3, 1) := by decide +kernel
theorem d_Mod_wideOf_23 : decode b_Mod_wideOf 23 = .ok (.invokevirtual 102, 3) := by decide +kernel
theorem d_Mod_wideOf_26 : decode b_Mod_wideOf 26 = .ok (.iadd, 1) := by decide +kernel
theorem d_Mod_wideOf_27 : decode b_Mod_wideOf 27 = .ok (.istore 4, 2) := by decide +kernel
theorem d_Mod_wideOf_29 : decode b_Mod_wideOf 29 = .ok (.iload 4, 2) := by decide +kernel
theorem d_Mod_wideOf_31 : decode b_Mod_wideOf 31 = .ok (.iload_n 2, 1) := by decide +kernel
theorem d_Mod_wideOf_32 : decode b_Mod_wideOf 32 = .ok (.if_icmp .le 8, 3) := by decide +kernel
theorem d_Mod_wideOf_35 : decode b_Mod_wideOf 35 = .ok (.iload 4, 2) := by decide +kernel
theorem d_Mod_wideOf_37 : decode b_Mod_wideOf 37 = .ok (.goto 4, 3) := by decide +kernel
theorem d_Mod_wideOf_40 : decode b_Mod_wideOf 40 = .ok (.iload_n 2, 1) := by decide +kernel
theorem d_Mod_wideOf_41 : decode b_Mod_wideOf 41 = .ok (.istore_n 2, 1) := by decide +kernel
theorem d_Mod_wideOf_42 : decode b_Mod_wideOf 42 = .ok (.iinc 3 1, 3) := by decide +kernel
theorem d_Mod_wideOf_45 : decode b_Mod_wideOf 45 = .ok (.goto (-41), 3) := by decide +kernel
theorem d_Mod_wideOf_48 : decode b_Mod_wideOf 48 = .ok (.iload_n 2, 1) := by decide +kernel
theorem d_Mod_wideOf_49 : decode b_Mod_wideOf 49 = .ok (.ireturn, 1) := by decide +kernel
def f_Mod_wideOf_L4 (w : Mp) (h0 : Nat) (x1 : Int32) : Nat → Int32 → Int32 → Option (Nat × Int32 × Int32)
  | 0, _, _ => none
  | n + 1, x2, x3 => (gR w (some h0) 5 11).bind fun v_1 => (aI w v_1 0 x1).bind fun v_2 => if v_2 ≤ x3 then (some (0, x2, x3)) else ((xo w (some h0) 5).bind fun b_4 => (f_Mod_across w b_4 x1 x3).bind fun q_3 => (xo w (some h0) 5).bind fun b_6 => (f_Mod_wide w b_6 x1 x3).bind fun q_5 => if (q_3 + q_5) ≤ x2 then (f_Mod_wideOf_L4 w h0 x1 n x2 (x3 + 1)) else (f_Mod_wideOf_L4 w h0 x1 n (q_3 + q_5) (x3 + 1)))
set_option maxHeartbeats 4000000 in
set_option maxRecDepth 100000 in
theorem w_Mod_wideOf_L4 {p : Program} {l : Launch} {e : Env} {R : Room} {s : State} {m : MethodId} {args : Array Value} {below : List Frame} {meth : Method} {c : Code} {Q : State → Prop} {cells slots sz : Nat} {G : Gx} {h0 : Nat} {x1 : Int32} (C0 : CallFix p m c b_Mod_wideOf 5 s args wA R_Mod) (hE : xE G vwCl xaty s) (hR1 : 2 ≤ R.frames) (hR2 : 46 ≤ R.locals) (hR3 : cells ≤ R.cells) (hR4 : slots ≤ R.slots) {w : Mp} {H : Heap} {locs : List Loc} (hH : xhd G vwCl w H) (hS : xS G s H locs) (hz : H.size = sz) : ∀ (n : Nat) (x2 : Int32) (x3 : Int32) (q : Nat × Int32 × Int32) (ls : Array Slot), xL ls 5 [(0, .inr (.inl (some h0))), (1, .inl x1), (2, .inl x2), (3, .inl x3)] → f_Mod_wideOf_L4 w h0 x1 n x2 x3 = some q → (∀ (ls : Array Slot), xL ls 5 [(0, .inr (.inl (some h0))), (1, .inl x1), (2, .inl q.2.1), (3, .inl q.2.2)] → W p l e R s m args below meth c H locs cells slots Q (F0 m 48 ls [])) → W p l e R s m args below meth c H locs cells slots Q (F0 m 4 ls []) := by
  intro n
  induction n with
  | zero => intro _ _ q ls hl h; cases h
  | succ n ih =>
    intro x2 x3 q ls hl h K
    rw [f_Mod_wideOf_L4] at h
    refine x_iload_n C0 hl 3 d_Mod_wideOf_4 rfl rfl ?_
    refine x_aload_n C0 hl 0 d_Mod_wideOf_5 rfl rfl ?_
    refine x_getR C0 hE hH (ci := 5) rfl i_Mod 11 (by decide) kw_4_90 d_Mod_wideOf_6 h (fun v_1 h => ?_)
    refine x_iload_n C0 hl 1 d_Mod_wideOf_9 rfl rfl ?_
    refine x_iald C0 hE hH (t := 0) rfl d_Mod_wideOf_10 h (fun v_2 h => ?_)
    refine x_icmp_ge C0 48 d_Mod_wideOf_11 (by decide) h (fun h => ?_) (fun h => ?_)
    · cases h
      exact K ls (x_sub hl [0, 1, 2, 3] rfl)
    · refine x_aload_n C0 hl 0 d_Mod_wideOf_14 rfl rfl ?_
      refine x_iload_n C0 hl 1 d_Mod_wideOf_15 rfl rfl ?_
      refine x_iload_n C0 hl 3 d_Mod_wideOf_16 rfl rfl ?_
      obtain ⟨b_4, e9, h⟩ := Option.bind_eq_some_iff.mp h
      obtain ⟨e8, fs9, hb9⟩ := xo_inv e9
      obtain ⟨q_3, e9, h⟩ := Option.bind_eq_some_iff.mp h
      refine x_callP (va_runV (As := [.int x1, .int x3]) (rest := []) C0 (c_Mod_across l G w _ b_4 x1 x3 q_3 e9) (x_cwV 2 C0 kw_4_198 kw_4_201 kw_1_3 kw_4_200 kw_0_20 (by decide +kernel) (x_rm hR1 hR2 (by decide) (by decide))) (x_preV hE hH hS (ci := 5) rfl hb9) rfl rfl hl.1 (by rw [e8]; rfl) (lv_room (by simp only [List.map_cons, List.map_nil, List.sum_cons, List.sum_nil, va_rf_cat, x_catI, x_catL, x_catA] <;> decide)) d_Mod_wideOf_17 (x_le0 hR3 hR4)) ?_
      refine x_aload_n C0 hl 0 d_Mod_wideOf_20 rfl rfl ?_
      refine x_iload_n C0 hl 1 d_Mod_wideOf_21 rfl rfl ?_
      refine x_iload_n C0 hl 3 d_Mod_wideOf_22 rfl rfl ?_
      obtain ⟨b_6, e9, h⟩ := Option.bind_eq_some_iff.mp h
      obtain ⟨e8, fs9, hb9⟩ := xo_inv e9
      obtain ⟨q_5, e9, h⟩ := Option.bind_eq_some_iff.mp h
      refine x_callP (va_runV (As := [.int x1, .int x3]) (rest := [.int q_3]) C0 (c_Mod_wide l G w _ b_6 x1 x3 q_5 e9) (x_cwV 2 C0 kw_4_202 kw_4_205 kw_1_3 kw_4_204 kw_0_21 (by decide +kernel) (x_rm hR1 hR2 (by decide) (by decide))) (x_preV hE hH hS (ci := 5) rfl hb9) rfl rfl hl.1 (by rw [e8]; rfl) (lv_room (by simp only [List.map_cons, List.map_nil, List.sum_cons, List.sum_nil, va_rf_cat, x_catI, x_catL, x_catA] <;> decide)) d_Mod_wideOf_23 (x_le0 hR3 hR4)) ?_
      refine lv_iadd C0.1 C0.2.1 d_Mod_wideOf_26 ?_
      refine x_istore (lv' := [(4, .inl (q_3 + q_5)), (0, .inr (.inl (some h0))), (1, .inl x1), (2, .inl x2), (3, .inl x3)]) C0 hl d_Mod_wideOf_27 (by decide) rfl (fun ls hl => ?_)
      refine x_iload C0 hl 0 d_Mod_wideOf_29 rfl ?_
      refine x_iload_n C0 hl 3 d_Mod_wideOf_31 rfl rfl ?_
      refine x_icmp_le C0 40 d_Mod_wideOf_32 (by decide) h (fun h => ?_) (fun h => ?_)
      · refine x_iload_n C0 hl 3 d_Mod_wideOf_40 rfl rfl ?_
        refine x_istore_n (lv' := [(2, .inl x2), (4, .inl (q_3 + q_5)), (0, .inr (.inl (some h0))), (1, .inl x1), (3, .inl x3)]) C0 hl d_Mod_wideOf_41 rfl (by decide) rfl (fun ls hl => ?_)
        refine x_iinc (v := 1) (lv' := [(3, .inl (x3 + 1)), (2, .inl x2), (4, .inl (q_3 + q_5)), (0, .inr (.inl (some h0))), (1, .inl x1)]) C0 hl 4 d_Mod_wideOf_42 rfl (by decide) (by decide) rfl (fun ls hl => ?_)
        refine x_goto C0 4 d_Mod_wideOf_45 (by decide) ?_
        exact ih _ _ q ls (x_sub hl [3, 4, 1, 0] rfl) h K
      · refine x_iload C0 hl 0 d_Mod_wideOf_35 rfl ?_
        refine x_goto C0 41 d_Mod_wideOf_37 (by decide) ?_
        refine x_istore_n (lv' := [(2, .inl (q_3 + q_5)), (4, .inl (q_3 + q_5)), (0, .inr (.inl (some h0))), (1, .inl x1), (3, .inl x3)]) C0 hl d_Mod_wideOf_41 rfl (by decide) rfl (fun ls hl => ?_)
        refine x_iinc (v := 1) (lv' := [(3, .inl (x3 + 1)), (2, .inl (q_3 + q_5)), (4, .inl (q_3 + q_5)), (0, .inr (.inl (some h0))), (1, .inl x1)]) C0 hl 4 d_Mod_wideOf_42 rfl (by decide) (by decide) rfl (fun ls hl => ?_)
        refine x_goto C0 4 d_Mod_wideOf_45 (by decide) ?_
        exact ih _ _ q ls (x_sub hl [3, 4, 1, 0] rfl) h K
def f_Mod_wideOf (w : Mp) (h0 : Nat) (x1 : Int32) : Option (Int32) := (f_Mod_wideOf_L4 w h0 x1 100000 (0 : Int32) (0 : Int32)).bind fun q_7 => some q_7.2.1
set_option maxHeartbeats 4000000 in
set_option maxRecDepth 100000 in
theorem c_Mod_wideOf (l : Launch) (G : Gx) (w : Mp) (sz : Nat) (h0 : Nat) (x1 : Int32) (res : Int32) (hf : f_Mod_wideOf w h0 x1 = some res) : Met l y_Mod_wideOf (xws y_Mod_wideOf b_Mod_wideOf 5 (some .int)) { frames := 2, cells := 0, slots := 0, locals := 46 } (xPc G vwCl xaty w sz [va_rf (some h0), .int x1]) (qP (some (.int res))) 0 0 (fun _ => False) := by
  refine Met.ofW (cc := b_Mod_wideOf) (maxL := 5) (ret := (some .int)) (by decide) rfl ?_
  intro p e s m args below meth c s₁ B hml hv
  obtain ⟨ha, hE, hH, hz⟩ := hv
  have C0 : CallFix p m c b_Mod_wideOf 5 s args wA R_Mod := ⟨B.exec, B.bytes, hml, findClass_of_methodNamed B.named, fun w hw => atoms_spec (ws := xws y_Mod_wideOf b_Mod_wideOf 5 (some .int)) B.pre w (List.mem_cons_of_mem _ hw)⟩
  have hr := B.returns
  have hlocks := B.notSynchronized
  obtain ⟨R, hR⟩ : ∃ R, R = (headSpec (xws y_Mod_wideOf b_Mod_wideOf 5 (some .int)) { frames := 2, cells := 0, slots := 0, locals := 46 }).room := ⟨_, rfl⟩
  have hR1 : 2 ≤ R.frames := by rw [hR]; exact Nat.le_of_ble_eq_true rfl
  have hR2 : 46 ≤ R.locals := by rw [hR]; exact Nat.le_of_ble_eq_true rfl
  have hR3 : 0 ≤ R.cells := Nat.zero_le _
  have hR4 : 0 ≤ R.slots := Nat.zero_le _
  rw [← hR]
  obtain ⟨Q, hQ⟩ : ∃ Q, Q = MQ below (qP (some (.int res))) args s 0 0 (fun _ => False) := ⟨_, rfl⟩
  rw [← hQ]
  have hS : xS G s s.heap [] := va_S.rf
  obtain ⟨ls, he, hl⟩ := x_entry m [.inr (.inl (some h0)), .inl x1] 5 (Nat.le_of_ble_eq_true rfl)
  rw [show entryFrame m args 5 = F0 m 0 ls [] by rw [ha]; exact he]
  have hl : xL ls 5 [(0, .inr (.inl (some h0))), (1, .inl x1)] := hl
  have h := hf
  unfold f_Mod_wideOf at h
  suffices hmain : ∀ (H : Heap) (locs : List Loc), xhd G vwCl w H → xS G s H locs → H.size = sz → (H = s.heap ∧ locs = []) → W p l e R s m args below meth c H locs 0 0 Q (F0 m 0 ls []) from hmain _ _ hH hS hz ⟨rfl, rfl⟩
  clear hH hS hz
  intro H locs hH hS hz hP0
  refine lv_iconst (v := 0) C0.1 C0.2.1 d_Mod_wideOf_0 (by decide) ?_
  refine x_istore_n (lv' := [(2, .inl (0 : Int32)), (0, .inr (.inl (some h0))), (1, .inl x1)]) C0 hl d_Mod_wideOf_1 rfl (by decide) rfl (fun ls hl => ?_)
  refine lv_iconst (v := 0) C0.1 C0.2.1 d_Mod_wideOf_2 (by decide) ?_
  refine x_istore_n (lv' := [(3, .inl (0 : Int32)), (2, .inl (0 : Int32)), (0, .inr (.inl (some h0))), (1, .inl x1)]) C0 hl d_Mod_wideOf_3 rfl (by decide) rfl (fun ls hl => ?_)
  obtain ⟨q_7, e9, h⟩ := Option.bind_eq_some_iff.mp h
  refine w_Mod_wideOf_L4 C0 hE hR1 hR2 hR3 hR4 hH hS hz 100000 _ _ q_7 ls (x_sub hl [2, 3, 1, 0] rfl) e9 (fun ls hl => ?_)
  refine x_iload_n C0 hl 2 d_Mod_wideOf_48 rfl rfl ?_
  cases h
  rw [hQ]
  exact x_iretP C0 hr hlocks hP0 d_Mod_wideOf_49
theorem d_Mod_manyFrom_0 : decode b_Mod_manyFrom 0 = .ok (.iconst 0, 1) := by decide +kernel
theorem d_Mod_manyFrom_1 : decode b_Mod_manyFrom 1 = .ok (.istore_n 3, 1) := by decide +kernel
theorem d_Mod_manyFrom_2 : decode b_Mod_manyFrom 2 = .ok (.iconst 0, 1) := by decide +kernel
theorem d_Mod_manyFrom_3 : decode b_Mod_manyFrom 3 = .ok (.istore 4, 2) := by decide +kernel
theorem d_Mod_manyFrom_5 : decode b_Mod_manyFrom 5 = .ok (.iload_n 3, 1) := by decide +kernel
theorem d_Mod_manyFrom_6 : decode b_Mod_manyFrom 6 = .ok (.iload_n 2, 1) := by decide +kernel
theorem d_Mod_manyFrom_7 : decode b_Mod_manyFrom 7 = .ok (.if_icmp .ge 91, 3) := by decide +kernel
theorem d_Mod_manyFrom_10 : decode b_Mod_manyFrom 10 = .ok (.iload_n 1, 1) := by decide +kernel
theorem d_Mod_manyFrom_11 : decode b_Mod_manyFrom 11 = .ok (.iload 4, 2) := by decide +kernel
theorem d_Mod_manyFrom_13 : decode b_Mod_manyFrom 13 = .ok (.iadd, 1) := by decide +kernel
theorem d_Mod_manyFrom_14 : decode b_Mod_manyFrom 14 = .ok (.aload_n 0, 1) := by decide +kernel
theorem d_Mod_manyFrom_15 : decode b_Mod_manyFrom 15 = .ok (.getfield 74, 3) := by decide +kernel
theorem d_Mod_manyFrom_18 : decode b_Mod_manyFrom 18 = .ok (.if_icmp .ge 47, 3) := by decide +kernel
theorem d_Mod_manyFrom_21 : decode b_Mod_manyFrom 21 = .ok (.iload 4, 2) := by decide +kernel
theorem d_Mod_manyFrom_23 : decode b_Mod_manyFrom 23 = .ok (.ifCond .eq 38, 3) := by decide +kernel
theorem d_Mod_manyFrom_26 : decode b_Mod_manyFrom 26 = .ok (.aload_n 0, 1) := by decide +kernel
theorem d_Mod_manyFrom_27 : decode b_Mod_manyFrom 27 = .ok (.getfield 13, 3) := by decide +kernel
theorem d_Mod_manyFrom_30 : decode b_Mod_manyFrom 30 = .ok (.aload_n 0, 1) := by decide +kernel
theorem d_Mod_manyFrom_31 : decode b_Mod_manyFrom 31 = .ok (.getfield 50, 3) := by decide +kernel
theorem d_Mod_manyFrom_34 : decode b_Mod_manyFrom 34 = .ok (.iload_n 1, 1) := by decide +kernel
theorem d_Mod_manyFrom_35 : decode b_Mod_manyFrom 35 = .ok (.iload 4, 2) := by decide +kernel
theorem d_Mod_manyFrom_37 : decode b_Mod_manyFrom 37 = .ok (.iadd, 1) := by decide +kernel
theorem d_Mod_manyFrom_38 : decode b_Mod_manyFrom 38 = .ok (.iaload, 1) := by decide +kernel
theorem d_Mod_manyFrom_39 : decode b_Mod_manyFrom 39 = .ok (.iaload, 1) := by decide +kernel
theorem d_Mod_manyFrom_40 : decode b_Mod_manyFrom 40 = .ok (.aload_n 0, 1) := by decide +kernel
theorem d_Mod_manyFrom_41 : decode b_Mod_manyFrom 41 = .ok (.getfield 13, 3) := by decide +kernel
theorem d_Mod_manyFrom_44 : decode b_Mod_manyFrom 44 = .ok (.aload_n 0, 1) := by decide +kernel
theorem d_Mod_manyFrom_45 : decode b_Mod_manyFrom 45 = .ok (.getfield 50, 3) := by decide +kernel
theorem d_Mod_manyFrom_48 : decode b_Mod_manyFrom 48 = .ok (.iload_n 1, 1) := by decide +kernel
theorem d_Mod_manyFrom_49 : decode b_Mod_manyFrom 49 = .ok (.iload 4, 2) := by decide +kernel
theorem d_Mod_manyFrom_51 : decode b_Mod_manyFrom 51 = .ok (.iadd, 1) := by decide +kernel
theorem d_Mod_manyFrom_52 : decode b_Mod_manyFrom 52 = .ok (.iconst 1, 1) := by decide +kernel
theorem d_Mod_manyFrom_53 : decode b_Mod_manyFrom 53 = .ok (.isub, 1) := by decide +kernel
theorem d_Mod_manyFrom_54 : decode b_Mod_manyFrom 54 = .ok (.iaload, 1) := by decide +kernel
theorem d_Mod_manyFrom_55 : decode b_Mod_manyFrom 55 = .ok (.iaload, 1) := by decide +kernel
theorem d_Mod_manyFrom_56 : decode b_Mod_manyFrom 56 = .ok (.iconst 1, 1) := by decide +kernel
theorem d_Mod_manyFrom_57 : decode b_Mod_manyFrom 57 = .ok (.iadd, 1) := by decide +kernel
theorem d_Mod_manyFrom_58 : decode b_Mod_manyFrom 58 = .ok (.if_icmp .ne 7, 3) := by decide +kernel
theorem d_Mod_manyFrom_61 : decode b_Mod_manyFrom 61 = .ok (.iconst 1, 1) := by decide +kernel
theorem d_Mod_manyFrom_62 : decode b_Mod_manyFrom 62 = .ok (.goto 4, 3) := by decide +kernel
theorem d_Mod_manyFrom_65 : decode b_Mod_manyFrom 65 = .ok (.iconst 0, 1) := by decide +kernel
theorem d_Mod_manyFrom_66 : decode b_Mod_manyFrom 66 = .ok (.istore 5, 2) := by decide +kernel
theorem d_Mod_manyFrom_68 : decode b_Mod_manyFrom 68 = .ok (.iload 5, 2) := by decide +kernel
theorem d_Mod_manyFrom_70 : decode b_Mod_manyFrom 70 = .ok (.ifCond .ne 5, 3) := by decide +kernel
theorem d_Mod_manyFrom_73 : decode b_Mod_manyFrom 73 = .ok (.iconst 0, 1) := by decide +kernel
theorem d_Mod_manyFrom_74 : decode b_Mod_manyFrom 74 = .ok (.ireturn, 1) := by decide +kernel
theorem d_Mod_manyFrom_75 : decode b_Mod_manyFrom 75 = .ok (.iload_n 3, 1) := by decide +kernel
theorem d_Mod_manyFrom_76 : decode b_Mod_manyFrom 76 = .ok (.aload_n 0, 1) := by decide +kernel
theorem d_Mod_manyFrom_77 : decode b_Mod_manyFrom 77 = .ok (.getfield 16, 3) := by decide +kernel
theorem d_Mod_manyFrom_80 : decode b_Mod_manyFrom 80 = .ok (.aload_n 0, 1) := by decide +kernel
theorem d_Mod_manyFrom_81 : decode b_Mod_manyFrom 81 = .ok (.getfield 50, 3) := by decide +kernel
theorem d_Mod_manyFrom_84 : decode b_Mod_manyFrom 84 = .ok (.iload_n 1, 1) := by decide +kernel
theorem d_Mod_manyFrom_85 : decode b_Mod_manyFrom 85 = .ok (.iload 4, 2) := by decide +kernel
theorem d_Mod_manyFrom_87 : decode b_Mod_manyFrom 87 = .ok (.iadd, 1) := by decide +kernel
theorem d_Mod_manyFrom_88 : decode b_Mod_manyFrom 88 = .ok (.iaload, 1) := by decide +kernel
theorem d_Mod_manyFrom_89 : decode b_Mod_manyFrom 89 = .ok (.iaload, 1) := by decide +kernel
theorem d_Mod_manyFrom_90 : decode b_Mod_manyFrom 90 = .ok (.iadd, 1) := by decide +kernel
theorem d_Mod_manyFrom_91 : decode b_Mod_manyFrom 91 = .ok (.istore_n 3, 1) := by decide +kernel
theorem d_Mod_manyFrom_92 : decode b_Mod_manyFrom 92 = .ok (.iinc 4 1, 3) := by decide +kernel
theorem d_Mod_manyFrom_95 : decode b_Mod_manyFrom 95 = .ok (.goto (-90), 3) := by decide +kernel
theorem d_Mod_manyFrom_98 : decode b_Mod_manyFrom 98 = .ok (.iload 4, 2) := by decide +kernel
theorem d_Mod_manyFrom_100 : decode b_Mod_manyFrom 100 = .ok (.ireturn, 1) := by decide +kernel
def f_Mod_manyFrom_L5 (w : Mp) (h0 : Nat) (x1 : Int32) (x2 : Int32) : Nat → Int32 → Int32 → Option (Nat × Int32 × Int32)
  | 0, _, _ => none
  | n + 1, x3, x4 => if x2 ≤ x3 then (some (0, x3, x4)) else ((gI w (some h0) 5 18).bind fun v_1 => xJ1 (fun (x_2 : Int32) => if x_2 = 0 then (some (1, x3, x4)) else ((gR w (some h0) 5 4).bind fun v_4 => (gR w (some h0) 5 19).bind fun v_5 => (aI w v_5 0 (x1 + x4)).bind fun v_6 => (aI w v_4 0 v_6).bind fun v_7 => f_Mod_manyFrom_L5 w h0 x1 x2 n (x3 + v_7) (x4 + 1))) fun J_3 => if v_1 ≤ (x1 + x4) then (J_3 (0 : Int32)) else (if x4 = 0 then (J_3 (1 : Int32)) else ((gR w (some h0) 5 3).bind fun v_8 => (gR w (some h0) 5 19).bind fun v_9 => (aI w v_9 0 (x1 + x4)).bind fun v_10 => (aI w v_8 0 v_10).bind fun v_11 => (gR w (some h0) 5 3).bind fun v_12 => (gR w (some h0) 5 19).bind fun v_13 => (aI w v_13 0 ((x1 + x4) - (1 : Int32))).bind fun v_14 => (aI w v_12 0 v_14).bind fun v_15 => if v_11 = (v_15 + (1 : Int32)) then (J_3 (1 : Int32)) else (J_3 (0 : Int32)))))
set_option maxHeartbeats 4000000 in
set_option maxRecDepth 100000 in
theorem w_Mod_manyFrom_L5 {p : Program} {l : Launch} {e : Env} {R : Room} {s : State} {m : MethodId} {args : Array Value} {below : List Frame} {meth : Method} {c : Code} {Q : State → Prop} {cells slots sz : Nat} {G : Gx} {h0 : Nat} {x1 : Int32} {x2 : Int32} (C0 : CallFix p m c b_Mod_manyFrom 6 s args wA R_Mod) (hE : xE G vwCl xaty s) (hR1 : 0 ≤ R.frames) (hR2 : 0 ≤ R.locals) (hR3 : cells ≤ R.cells) (hR4 : slots ≤ R.slots) {w : Mp} {H : Heap} {locs : List Loc} (hH : xhd G vwCl w H) (hS : xS G s H locs) (hz : H.size = sz) : ∀ (n : Nat) (x3 : Int32) (x4 : Int32) (q : Nat × Int32 × Int32) (ls : Array Slot), xL ls 6 [(0, .inr (.inl (some h0))), (1, .inl x1), (2, .inl x2), (3, .inl x3), (4, .inl x4)] → f_Mod_manyFrom_L5 w h0 x1 x2 n x3 x4 = some q → ((q.1 = 0 → ∀ (ls : Array Slot), xL ls 6 [(0, .inr (.inl (some h0))), (1, .inl x1), (2, .inl x2), (3, .inl q.2.1), (4, .inl q.2.2)] → W p l e R s m args below meth c H locs cells slots Q (F0 m 98 ls [])) ∧ (q.1 = 1 → ∀ (ls : Array Slot), xL ls 6 [(0, .inr (.inl (some h0))), (1, .inl x1), (2, .inl x2), (3, .inl q.2.1), (4, .inl q.2.2)] → W p l e R s m args below meth c H locs cells slots Q (F0 m 73 ls []))) → W p l e R s m args below meth c H locs cells slots Q (F0 m 5 ls []) := by
  intro n
  induction n with
  | zero => intro _ _ q ls hl h; cases h
  | succ n ih =>
    intro x3 x4 q ls hl h K
    rw [f_Mod_manyFrom_L5] at h
    refine x_iload_n C0 hl 3 d_Mod_manyFrom_5 rfl rfl ?_
    refine x_iload_n C0 hl 2 d_Mod_manyFrom_6 rfl rfl ?_
    refine x_icmp_ge C0 98 d_Mod_manyFrom_7 (by decide) h (fun h => ?_) (fun h => ?_)
    · cases h
      exact K.1 rfl ls (x_sub hl [0, 1, 2, 3, 4] rfl)
    · refine x_iload_n C0 hl 1 d_Mod_manyFrom_10 rfl rfl ?_
      refine x_iload C0 hl 4 d_Mod_manyFrom_11 rfl ?_
      refine lv_iadd C0.1 C0.2.1 d_Mod_manyFrom_13 ?_
      refine x_aload_n C0 hl 0 d_Mod_manyFrom_14 rfl rfl ?_
      refine x_getI C0 hE hH (ci := 5) rfl i_Mod 18 (by decide) kw_4_97 d_Mod_manyFrom_15 h (fun v_1 h => ?_)
      refine xj1 h (fun J_3 eJ_3 h => ?_)
      have kJ_3 : ∀ (x_2 : Int32) (ls : Array Slot), xL ls 6 [(0, .inr (.inl (some h0))), (1, .inl x1), (2, .inl x2), (3, .inl x3), (4, .inl x4)] → J_3 x_2 = some q → W p l e R s m args below meth c H locs cells slots Q (F0 m 66 ls [.int x_2]) := by
        intro x_2 ls hl h
        rw [eJ_3] at h
        refine x_istore (lv' := [(5, .inl x_2), (0, .inr (.inl (some h0))), (1, .inl x1), (2, .inl x2), (3, .inl x3), (4, .inl x4)]) C0 hl d_Mod_manyFrom_66 (by decide) rfl (fun ls hl => ?_)
        refine x_iload C0 hl 0 d_Mod_manyFrom_68 rfl ?_
        refine x_if_ne C0 75 d_Mod_manyFrom_70 (by decide) h (fun h => ?_) (fun h => ?_)
        · refine x_iload_n C0 hl 4 d_Mod_manyFrom_75 rfl rfl ?_
          refine x_aload_n C0 hl 1 d_Mod_manyFrom_76 rfl rfl ?_
          refine x_getR C0 hE hH (ci := 5) rfl i_Mod 4 (by decide) kw_4_83 d_Mod_manyFrom_77 h (fun v_4 h => ?_)
          refine x_aload_n C0 hl 1 d_Mod_manyFrom_80 rfl rfl ?_
          refine x_getR C0 hE hH (ci := 5) rfl i_Mod 19 (by decide) kw_4_98 d_Mod_manyFrom_81 h (fun v_5 h => ?_)
          refine x_iload_n C0 hl 2 d_Mod_manyFrom_84 rfl rfl ?_
          refine x_iload C0 hl 5 d_Mod_manyFrom_85 rfl ?_
          refine lv_iadd C0.1 C0.2.1 d_Mod_manyFrom_87 ?_
          refine x_iald C0 hE hH (t := 0) rfl d_Mod_manyFrom_88 h (fun v_6 h => ?_)
          refine x_iald C0 hE hH (t := 0) rfl d_Mod_manyFrom_89 h (fun v_7 h => ?_)
          refine lv_iadd C0.1 C0.2.1 d_Mod_manyFrom_90 ?_
          refine x_istore_n (lv' := [(3, .inl (x3 + v_7)), (5, .inl x_2), (0, .inr (.inl (some h0))), (1, .inl x1), (2, .inl x2), (4, .inl x4)]) C0 hl d_Mod_manyFrom_91 rfl (by decide) rfl (fun ls hl => ?_)
          refine x_iinc (v := 1) (lv' := [(4, .inl (x4 + 1)), (3, .inl (x3 + v_7)), (5, .inl x_2), (0, .inr (.inl (some h0))), (1, .inl x1), (2, .inl x2)]) C0 hl 5 d_Mod_manyFrom_92 rfl (by decide) (by decide) rfl (fun ls hl => ?_)
          refine x_goto C0 5 d_Mod_manyFrom_95 (by decide) ?_
          exact ih _ _ q ls (x_sub hl [3, 4, 5, 1, 0] rfl) h K
        · cases h
          exact K.2 rfl ls (x_sub hl [1, 2, 3, 4, 5] rfl)
      refine x_icmp_ge C0 65 d_Mod_manyFrom_18 (by decide) h (fun h => ?_) (fun h => ?_)
      · refine lv_iconst (v := 0) C0.1 C0.2.1 d_Mod_manyFrom_65 (by decide) ?_
        exact kJ_3 _ ls (x_sub hl [0, 1, 2, 3, 4] rfl) h
      · refine x_iload C0 hl 4 d_Mod_manyFrom_21 rfl ?_
        refine x_if_eq C0 61 d_Mod_manyFrom_23 (by decide) h (fun h => ?_) (fun h => ?_)
        · refine lv_iconst (v := 1) C0.1 C0.2.1 d_Mod_manyFrom_61 (by decide) ?_
          refine x_goto C0 66 d_Mod_manyFrom_62 (by decide) ?_
          exact kJ_3 _ ls (x_sub hl [0, 1, 2, 3, 4] rfl) h
        · refine x_aload_n C0 hl 0 d_Mod_manyFrom_26 rfl rfl ?_
          refine x_getR C0 hE hH (ci := 5) rfl i_Mod 3 (by decide) kw_4_82 d_Mod_manyFrom_27 h (fun v_8 h => ?_)
          refine x_aload_n C0 hl 0 d_Mod_manyFrom_30 rfl rfl ?_
          refine x_getR C0 hE hH (ci := 5) rfl i_Mod 19 (by decide) kw_4_98 d_Mod_manyFrom_31 h (fun v_9 h => ?_)
          refine x_iload_n C0 hl 1 d_Mod_manyFrom_34 rfl rfl ?_
          refine x_iload C0 hl 4 d_Mod_manyFrom_35 rfl ?_
          refine lv_iadd C0.1 C0.2.1 d_Mod_manyFrom_37 ?_
          refine x_iald C0 hE hH (t := 0) rfl d_Mod_manyFrom_38 h (fun v_10 h => ?_)
          refine x_iald C0 hE hH (t := 0) rfl d_Mod_manyFrom_39 h (fun v_11 h => ?_)
          refine x_aload_n C0 hl 0 d_Mod_manyFrom_40 rfl rfl ?_
          refine x_getR C0 hE hH (ci := 5) rfl i_Mod 3 (by decide) kw_4_82 d_Mod_manyFrom_41 h (fun v_12 h => ?_)
          refine x_aload_n C0 hl 0 d_Mod_manyFrom_44 rfl rfl ?_
          refine x_getR C0 hE hH (ci := 5) rfl i_Mod 19 (by decide) kw_4_98 d_Mod_manyFrom_45 h (fun v_13 h => ?_)
          refine x_iload_n C0 hl 1 d_Mod_manyFrom_48 rfl rfl ?_
          refine x_iload C0 hl 4 d_Mod_manyFrom_49 rfl ?_
          refine lv_iadd C0.1 C0.2.1 d_Mod_manyFrom_51 ?_
          refine lv_iconst (v := 1) C0.1 C0.2.1 d_Mod_manyFrom_52 (by decide) ?_
          refine lv_isub C0.1 C0.2.1 d_Mod_manyFrom_53 ?_
          refine x_iald C0 hE hH (t := 0) rfl d_Mod_manyFrom_54 h (fun v_14 h => ?_)
          refine x_iald C0 hE hH (t := 0) rfl d_Mod_manyFrom_55 h (fun v_15 h => ?_)
          refine lv_iconst (v := 1) C0.1 C0.2.1 d_Mod_manyFrom_56 (by decide) ?_
          refine lv_iadd C0.1 C0.2.1 d_Mod_manyFrom_57 ?_
          refine x_icmp_ne C0 65 d_Mod_manyFrom_58 (by decide) h (fun h => ?_) (fun h => ?_)
          · refine lv_iconst (v := 0) C0.1 C0.2.1 d_Mod_manyFrom_65 (by decide) ?_
            exact kJ_3 _ ls (x_sub hl [0, 1, 2, 3, 4] rfl) h
          · refine lv_iconst (v := 1) C0.1 C0.2.1 d_Mod_manyFrom_61 (by decide) ?_
            refine x_goto C0 66 d_Mod_manyFrom_62 (by decide) ?_
            exact kJ_3 _ ls (x_sub hl [0, 1, 2, 3, 4] rfl) h
def f_Mod_manyFrom (w : Mp) (h0 : Nat) (x1 : Int32) (x2 : Int32) : Option (Int32) := (f_Mod_manyFrom_L5 w h0 x1 x2 100000 (0 : Int32) (0 : Int32)).bind fun q_16 => if q_16.1 = 0 then (some q_16.2.2) else (if q_16.1 = 1 then (some (0 : Int32)) else (none))
set_option maxHeartbeats 4000000 in
set_option maxRecDepth 100000 in
theorem c_Mod_manyFrom (l : Launch) (G : Gx) (w : Mp) (sz : Nat) (h0 : Nat) (x1 : Int32) (x2 : Int32) (res : Int32) (hf : f_Mod_manyFrom w h0 x1 x2 = some res) : Met l y_Mod_manyFrom (xws y_Mod_manyFrom b_Mod_manyFrom 6 (some .int)) { frames := 0, cells := 0, slots := 0, locals := 0 } (xPc G vwCl xaty w sz [va_rf (some h0), .int x1, .int x2]) (qP (some (.int res))) 0 0 (fun _ => False) := by
  refine Met.ofW (cc := b_Mod_manyFrom) (maxL := 6) (ret := (some .int)) (by decide) rfl ?_
  intro p e s m args below meth c s₁ B hml hv
  obtain ⟨ha, hE, hH, hz⟩ := hv
  have C0 : CallFix p m c b_Mod_manyFrom 6 s args wA R_Mod := ⟨B.exec, B.bytes, hml, findClass_of_methodNamed B.named, fun w hw => atoms_spec (ws := xws y_Mod_manyFrom b_Mod_manyFrom 6 (some .int)) B.pre w (List.mem_cons_of_mem _ hw)⟩
  have hr := B.returns
  have hlocks := B.notSynchronized
  obtain ⟨R, hR⟩ : ∃ R, R = (headSpec (xws y_Mod_manyFrom b_Mod_manyFrom 6 (some .int)) { frames := 0, cells := 0, slots := 0, locals := 0 }).room := ⟨_, rfl⟩
  have hR1 : 0 ≤ R.frames := by rw [hR]; exact Nat.le_of_ble_eq_true rfl
  have hR2 : 0 ≤ R.locals := by rw [hR]; exact Nat.le_of_ble_eq_true rfl
  have hR3 : 0 ≤ R.cells := Nat.zero_le _
  have hR4 : 0 ≤ R.slots := Nat.zero_le _
  rw [← hR]
  obtain ⟨Q, hQ⟩ : ∃ Q, Q = MQ below (qP (some (.int res))) args s 0 0 (fun _ => False) := ⟨_, rfl⟩
  rw [← hQ]
  have hS : xS G s s.heap [] := va_S.rf
  obtain ⟨ls, he, hl⟩ := x_entry m [.inr (.inl (some h0)), .inl x1, .inl x2] 6 (Nat.le_of_ble_eq_true rfl)
  rw [show entryFrame m args 6 = F0 m 0 ls [] by rw [ha]; exact he]
  have hl : xL ls 6 [(0, .inr (.inl (some h0))), (1, .inl x1), (2, .inl x2)] := hl
  have h := hf
  unfold f_Mod_manyFrom at h
  suffices hmain : ∀ (H : Heap) (locs : List Loc), xhd G vwCl w H → xS G s H locs → H.size = sz → (H = s.heap ∧ locs = []) → W p l e R s m args below meth c H locs 0 0 Q (F0 m 0 ls []) from hmain _ _ hH hS hz ⟨rfl, rfl⟩
  clear hH hS hz
  intro H locs hH hS hz hP0
  refine lv_iconst (v := 0) C0.1 C0.2.1 d_Mod_manyFrom_0 (by decide) ?_
  refine x_istore_n (lv' := [(3, .inl (0 : Int32)), (0, .inr (.inl (some h0))), (1, .inl x1), (2, .inl x2)]) C0 hl d_Mod_manyFrom_1 rfl (by decide) rfl (fun ls hl => ?_)
  refine lv_iconst (v := 0) C0.1 C0.2.1 d_Mod_manyFrom_2 (by decide) ?_
  refine x_istore (lv' := [(4, .inl (0 : Int32)), (3, .inl (0 : Int32)), (0, .inr (.inl (some h0))), (1, .inl x1), (2, .inl x2)]) C0 hl d_Mod_manyFrom_3 (by decide) rfl (fun ls hl => ?_)
  obtain ⟨q_16, e9, h⟩ := Option.bind_eq_some_iff.mp h
  refine w_Mod_manyFrom_L5 C0 hE hR1 hR2 hR3 hR4 hH hS hz 100000 _ _ q_16 ls (x_sub hl [2, 3, 4, 1, 0] rfl) e9 ⟨fun z9 ls hl => ?_, fun z9 ls hl => ?_⟩
  · rw [if_pos z9] at h
    refine x_iload C0 hl 4 d_Mod_manyFrom_98 rfl ?_
    cases h
    rw [hQ]
    exact x_iretP C0 hr hlocks hP0 d_Mod_manyFrom_100
  · rw [if_neg (by rw [z9]; decide), if_pos z9] at h
    refine lv_iconst (v := 0) C0.1 C0.2.1 d_Mod_manyFrom_73 (by decide) ?_
    cases h
    rw [hQ]
    exact x_iretP C0 hr hlocks hP0 d_Mod_manyFrom_74
theorem d_Mod_lossFrom_0 : decode b_Mod_lossFrom 0 = .ok (.iload_n 3, 1) := by decide +kernel
theorem d_Mod_lossFrom_1 : decode b_Mod_lossFrom 1 = .ok (.ineg, 1) := by decide +kernel
theorem d_Mod_lossFrom_2 : decode b_Mod_lossFrom 2 = .ok (.istore 4, 2) := by decide +kernel
theorem d_Mod_lossFrom_4 : decode b_Mod_lossFrom 4 = .ok (.iconst 0, 1) := by decide +kernel
theorem d_Mod_lossFrom_5 : decode b_Mod_lossFrom 5 = .ok (.istore 5, 2) := by decide +kernel
theorem d_Mod_lossFrom_7 : decode b_Mod_lossFrom 7 = .ok (.iload 5, 2) := by decide +kernel
theorem d_Mod_lossFrom_9 : decode b_Mod_lossFrom 9 = .ok (.iload_n 2, 1) := by decide +kernel
theorem d_Mod_lossFrom_10 : decode b_Mod_lossFrom 10 = .ok (.if_icmp .ge 28, 3) := by decide +kernel
theorem d_Mod_lossFrom_13 : decode b_Mod_lossFrom 13 = .ok (.iload 4, 2) := by decide +kernel
theorem d_Mod_lossFrom_15 : decode b_Mod_lossFrom 15 = .ok (.aload_n 0, 1) := by decide +kernel
theorem d_Mod_lossFrom_16 : decode b_Mod_lossFrom 16 = .ok (.getfield 16, 3) := by decide +kernel
theorem d_Mod_lossFrom_19 : decode b_Mod_lossFrom 19 = .ok (.aload_n 0, 1) := by decide +kernel
theorem d_Mod_lossFrom_20 : decode b_Mod_lossFrom 20 = .ok (.getfield 50, 3) := by decide +kernel
theorem d_Mod_lossFrom_23 : decode b_Mod_lossFrom 23 = .ok (.iload_n 1, 1) := by decide +kernel
theorem d_Mod_lossFrom_24 : decode b_Mod_lossFrom 24 = .ok (.iload 5, 2) := by decide +kernel
theorem d_Mod_lossFrom_26 : decode b_Mod_lossFrom 26 = .ok (.iadd, 1) := by decide +kernel
theorem d_Mod_lossFrom_27 : decode b_Mod_lossFrom 27 = .ok (.iaload, 1) := by decide +kernel
theorem d_Mod_lossFrom_28 : decode b_Mod_lossFrom 28 = .ok (.iaload, 1) := by decide +kernel
theorem d_Mod_lossFrom_29 : decode b_Mod_lossFrom 29 = .ok (.iadd, 1) := by decide +kernel
theorem d_Mod_lossFrom_30 : decode b_Mod_lossFrom 30 = .ok (.istore 4, 2) := by decide +kernel
theorem d_Mod_lossFrom_32 : decode b_Mod_lossFrom 32 = .ok (.iinc 5 1, 3) := by decide +kernel
theorem d_Mod_lossFrom_35 : decode b_Mod_lossFrom 35 = .ok (.goto (-28), 3) := by decide +kernel
theorem d_Mod_lossFrom_38 : decode b_Mod_lossFrom 38 = .ok (.iload 4, 2) := by decide +kernel
theorem d_Mod_lossFrom_40 : decode b_Mod_lossFrom 40 = .ok (.ireturn, 1) := by decide +kernel
def f_Mod_lossFrom_L7 (w : Mp) (h0 : Nat) (x1 : Int32) (x2 : Int32) : Nat → Int32 → Int32 → Option (Nat × Int32 × Int32)
  | 0, _, _ => none
  | n + 1, x4, x5 => if x2 ≤ x5 then (some (0, x4, x5)) else ((gR w (some h0) 5 4).bind fun v_1 => (gR w (some h0) 5 19).bind fun v_2 => (aI w v_2 0 (x1 + x5)).bind fun v_3 => (aI w v_1 0 v_3).bind fun v_4 => f_Mod_lossFrom_L7 w h0 x1 x2 n (x4 + v_4) (x5 + 1))
set_option maxHeartbeats 4000000 in
set_option maxRecDepth 100000 in
theorem w_Mod_lossFrom_L7 {p : Program} {l : Launch} {e : Env} {R : Room} {s : State} {m : MethodId} {args : Array Value} {below : List Frame} {meth : Method} {c : Code} {Q : State → Prop} {cells slots sz : Nat} {G : Gx} {h0 : Nat} {x1 : Int32} {x2 : Int32} (C0 : CallFix p m c b_Mod_lossFrom 6 s args wA R_Mod) (hE : xE G vwCl xaty s) (hR1 : 0 ≤ R.frames) (hR2 : 0 ≤ R.locals) (hR3 : cells ≤ R.cells) (hR4 : slots ≤ R.slots) {w : Mp} {H : Heap} {locs : List Loc} (hH : xhd G vwCl w H) (hS : xS G s H locs) (hz : H.size = sz) : ∀ (n : Nat) (x4 : Int32) (x5 : Int32) (q : Nat × Int32 × Int32) (ls : Array Slot), xL ls 6 [(0, .inr (.inl (some h0))), (1, .inl x1), (2, .inl x2), (4, .inl x4), (5, .inl x5)] → f_Mod_lossFrom_L7 w h0 x1 x2 n x4 x5 = some q → (∀ (ls : Array Slot), xL ls 6 [(0, .inr (.inl (some h0))), (1, .inl x1), (2, .inl x2), (4, .inl q.2.1), (5, .inl q.2.2)] → W p l e R s m args below meth c H locs cells slots Q (F0 m 38 ls [])) → W p l e R s m args below meth c H locs cells slots Q (F0 m 7 ls []) := by
  intro n
  induction n with
  | zero => intro _ _ q ls hl h; cases h
  | succ n ih =>
    intro x4 x5 q ls hl h K
    rw [f_Mod_lossFrom_L7] at h
    refine x_iload C0 hl 4 d_Mod_lossFrom_7 rfl ?_
    refine x_iload_n C0 hl 2 d_Mod_lossFrom_9 rfl rfl ?_
    refine x_icmp_ge C0 38 d_Mod_lossFrom_10 (by decide) h (fun h => ?_) (fun h => ?_)
    · cases h
      exact K ls (x_sub hl [0, 1, 2, 3, 4] rfl)
    · refine x_iload C0 hl 3 d_Mod_lossFrom_13 rfl ?_
      refine x_aload_n C0 hl 0 d_Mod_lossFrom_15 rfl rfl ?_
      refine x_getR C0 hE hH (ci := 5) rfl i_Mod 4 (by decide) kw_4_83 d_Mod_lossFrom_16 h (fun v_1 h => ?_)
      refine x_aload_n C0 hl 0 d_Mod_lossFrom_19 rfl rfl ?_
      refine x_getR C0 hE hH (ci := 5) rfl i_Mod 19 (by decide) kw_4_98 d_Mod_lossFrom_20 h (fun v_2 h => ?_)
      refine x_iload_n C0 hl 1 d_Mod_lossFrom_23 rfl rfl ?_
      refine x_iload C0 hl 4 d_Mod_lossFrom_24 rfl ?_
      refine lv_iadd C0.1 C0.2.1 d_Mod_lossFrom_26 ?_
      refine x_iald C0 hE hH (t := 0) rfl d_Mod_lossFrom_27 h (fun v_3 h => ?_)
      refine x_iald C0 hE hH (t := 0) rfl d_Mod_lossFrom_28 h (fun v_4 h => ?_)
      refine lv_iadd C0.1 C0.2.1 d_Mod_lossFrom_29 ?_
      refine x_istore (lv' := [(4, .inl (x4 + v_4)), (0, .inr (.inl (some h0))), (1, .inl x1), (2, .inl x2), (5, .inl x5)]) C0 hl d_Mod_lossFrom_30 (by decide) rfl (fun ls hl => ?_)
      refine x_iinc (v := 1) (lv' := [(5, .inl (x5 + 1)), (4, .inl (x4 + v_4)), (0, .inr (.inl (some h0))), (1, .inl x1), (2, .inl x2)]) C0 hl 4 d_Mod_lossFrom_32 rfl (by decide) (by decide) rfl (fun ls hl => ?_)
      refine x_goto C0 7 d_Mod_lossFrom_35 (by decide) ?_
      exact ih _ _ q ls (x_sub hl [2, 3, 4, 1, 0] rfl) h K
def f_Mod_lossFrom (w : Mp) (h0 : Nat) (x1 : Int32) (x2 : Int32) (x3 : Int32) : Option (Int32) := (f_Mod_lossFrom_L7 w h0 x1 x2 100000 (-x3) (0 : Int32)).bind fun q_5 => some q_5.2.1
set_option maxHeartbeats 4000000 in
set_option maxRecDepth 100000 in
theorem c_Mod_lossFrom (l : Launch) (G : Gx) (w : Mp) (sz : Nat) (h0 : Nat) (x1 : Int32) (x2 : Int32) (x3 : Int32) (res : Int32) (hf : f_Mod_lossFrom w h0 x1 x2 x3 = some res) : Met l y_Mod_lossFrom (xws y_Mod_lossFrom b_Mod_lossFrom 6 (some .int)) { frames := 0, cells := 0, slots := 0, locals := 0 } (xPc G vwCl xaty w sz [va_rf (some h0), .int x1, .int x2, .int x3]) (qP (some (.int res))) 0 0 (fun _ => False) := by
  refine Met.ofW (cc := b_Mod_lossFrom) (maxL := 6) (ret := (some .int)) (by decide) rfl ?_
  intro p e s m args below meth c s₁ B hml hv
  obtain ⟨ha, hE, hH, hz⟩ := hv
  have C0 : CallFix p m c b_Mod_lossFrom 6 s args wA R_Mod := ⟨B.exec, B.bytes, hml, findClass_of_methodNamed B.named, fun w hw => atoms_spec (ws := xws y_Mod_lossFrom b_Mod_lossFrom 6 (some .int)) B.pre w (List.mem_cons_of_mem _ hw)⟩
  have hr := B.returns
  have hlocks := B.notSynchronized
  obtain ⟨R, hR⟩ : ∃ R, R = (headSpec (xws y_Mod_lossFrom b_Mod_lossFrom 6 (some .int)) { frames := 0, cells := 0, slots := 0, locals := 0 }).room := ⟨_, rfl⟩
  have hR1 : 0 ≤ R.frames := by rw [hR]; exact Nat.le_of_ble_eq_true rfl
  have hR2 : 0 ≤ R.locals := by rw [hR]; exact Nat.le_of_ble_eq_true rfl
  have hR3 : 0 ≤ R.cells := Nat.zero_le _
  have hR4 : 0 ≤ R.slots := Nat.zero_le _
  rw [← hR]
  obtain ⟨Q, hQ⟩ : ∃ Q, Q = MQ below (qP (some (.int res))) args s 0 0 (fun _ => False) := ⟨_, rfl⟩
  rw [← hQ]
  have hS : xS G s s.heap [] := va_S.rf
  obtain ⟨ls, he, hl⟩ := x_entry m [.inr (.inl (some h0)), .inl x1, .inl x2, .inl x3] 6 (Nat.le_of_ble_eq_true rfl)
  rw [show entryFrame m args 6 = F0 m 0 ls [] by rw [ha]; exact he]
  have hl : xL ls 6 [(0, .inr (.inl (some h0))), (1, .inl x1), (2, .inl x2), (3, .inl x3)] := hl
  have h := hf
  unfold f_Mod_lossFrom at h
  suffices hmain : ∀ (H : Heap) (locs : List Loc), xhd G vwCl w H → xS G s H locs → H.size = sz → (H = s.heap ∧ locs = []) → W p l e R s m args below meth c H locs 0 0 Q (F0 m 0 ls []) from hmain _ _ hH hS hz ⟨rfl, rfl⟩
  clear hH hS hz
  intro H locs hH hS hz hP0
  refine x_iload_n C0 hl 3 d_Mod_lossFrom_0 rfl rfl ?_
  refine lv_ineg C0.1 C0.2.1 d_Mod_lossFrom_1 ?_
  refine x_istore (lv' := [(4, .inl (-x3)), (0, .inr (.inl (some h0))), (1, .inl x1), (2, .inl x2), (3, .inl x3)]) C0 hl d_Mod_lossFrom_2 (by decide) rfl (fun ls hl => ?_)
  refine lv_iconst (v := 0) C0.1 C0.2.1 d_Mod_lossFrom_4 (by decide) ?_
  refine x_istore (lv' := [(5, .inl (0 : Int32)), (4, .inl (-x3)), (0, .inr (.inl (some h0))), (1, .inl x1), (2, .inl x2), (3, .inl x3)]) C0 hl d_Mod_lossFrom_5 (by decide) rfl (fun ls hl => ?_)
  obtain ⟨q_5, e9, h⟩ := Option.bind_eq_some_iff.mp h
  refine w_Mod_lossFrom_L7 C0 hE hR1 hR2 hR3 hR4 hH hS hz 100000 _ _ q_5 ls (x_sub hl [2, 3, 4, 1, 0] rfl) e9 (fun ls hl => ?_)
  refine x_iload C0 hl 3 d_Mod_lossFrom_38 rfl ?_
  cases h
  rw [hQ]
  exact x_iretP C0 hr hlocks hP0 d_Mod_lossFrom_40
theorem d_Mod_lossWith_0 : decode b_Mod_lossWith 0 = .ok (.aload_n 0, 1) := by decide +kernel
theorem d_Mod_lossWith_1 : decode b_Mod_lossWith 1 = .ok (.iload_n 1, 1) := by decide +kernel
theorem d_Mod_lossWith_2 : decode b_Mod_lossWith 2 = .ok (.aload_n 0, 1) := by decide +kernel
theorem d_Mod_lossWith_3 : decode b_Mod_lossWith 3 = .ok (.getfield 41, 3) := by decide +kernel
theorem d_Mod_lossWith_6 : decode b_Mod_lossWith 6 = .ok (.iload_n 3, 1) := by decide +kernel
theorem d_Mod_lossWith_7 : decode b_Mod_lossWith 7 = .ok (.iaload, 1) := by decide +kernel
theorem d_Mod_lossWith_8 : decode b_Mod_lossWith 8 = .ok (.invokevirtual 145, 3) := by decide +kernel
theorem d_Mod_lossWith_11 : decode b_Mod_lossWith 11 = .ok (.istore 4, 2) := by decide +kernel
theorem d_Mod_lossWith_13 : decode b_Mod_lossWith 13 = .ok (.iload 4, 2) := by decide +kernel
theorem d_Mod_lossWith_15 : decode b_Mod_lossWith 15 = .ok (.ifCond .ne 8, 3) := by decide +kernel
theorem d_Mod_lossWith_18 : decode b_Mod_lossWith 18 = .ok (.ldc 148, 2) := by decide +kernel
theorem d_Mod_lossWith_20 : decode b_Mod_lossWith 20 = .ok (.goto 36, 3) := by decide +kernel
theorem d_Mod_lossWith_23 : decode b_Mod_lossWith 23 = .ok (.aload_n 0, 1) := by decide +kernel
theorem d_Mod_lossWith_24 : decode b_Mod_lossWith 24 = .ok (.iload_n 1, 1) := by decide +kernel
theorem d_Mod_lossWith_25 : decode b_Mod_lossWith 25 = .ok (.iload 4, 2) := by decide +kernel
theorem d_Mod_lossWith_27 : decode b_Mod_lossWith 27 = .ok (.aload_n 0, 1) := by decide +kernel
theorem d_Mod_lossWith_28 : decode b_Mod_lossWith 28 = .ok (.getfield 41, 3) := by decide +kernel
theorem d_Mod_lossWith_31 : decode b_Mod_lossWith 31 = .ok (.iload_n 3, 1) := by decide +kernel
theorem d_Mod_lossWith_32 : decode b_Mod_lossWith 32 = .ok (.iaload, 1) := by decide +kernel
theorem d_Mod_lossWith_33 : decode b_Mod_lossWith 33 = .ok (.invokevirtual 149, 3) := by decide +kernel
theorem d_Mod_lossWith_36 : decode b_Mod_lossWith 36 = .ok (.aload_n 0, 1) := by decide +kernel
theorem d_Mod_lossWith_37 : decode b_Mod_lossWith 37 = .ok (.getfield 53, 3) := by decide +kernel
theorem d_Mod_lossWith_40 : decode b_Mod_lossWith 40 = .ok (.sipush 256, 3) := by decide +kernel
theorem d_Mod_lossWith_43 : decode b_Mod_lossWith 43 = .ok (.iload_n 1, 1) := by decide +kernel
theorem d_Mod_lossWith_44 : decode b_Mod_lossWith 44 = .ok (.iload 4, 2) := by decide +kernel
theorem d_Mod_lossWith_46 : decode b_Mod_lossWith 46 = .ok (.iadd, 1) := by decide +kernel
theorem d_Mod_lossWith_47 : decode b_Mod_lossWith 47 = .ok (.imul, 1) := by decide +kernel
theorem d_Mod_lossWith_48 : decode b_Mod_lossWith 48 = .ok (.iload_n 2, 1) := by decide +kernel
theorem d_Mod_lossWith_49 : decode b_Mod_lossWith 49 = .ok (.iconst 1, 1) := by decide +kernel
theorem d_Mod_lossWith_50 : decode b_Mod_lossWith 50 = .ok (.iload_n 3, 1) := by decide +kernel
theorem d_Mod_lossWith_51 : decode b_Mod_lossWith 51 = .ok (.ishl, 1) := by decide +kernel
theorem d_Mod_lossWith_52 : decode b_Mod_lossWith 52 = .ok (.ixor, 1) := by decide +kernel
theorem d_Mod_lossWith_53 : decode b_Mod_lossWith 53 = .ok (.iadd, 1) := by decide +kernel
theorem d_Mod_lossWith_54 : decode b_Mod_lossWith 54 = .ok (.iaload, 1) := by decide +kernel
theorem d_Mod_lossWith_55 : decode b_Mod_lossWith 55 = .ok (.iadd, 1) := by decide +kernel
theorem d_Mod_lossWith_56 : decode b_Mod_lossWith 56 = .ok (.ireturn, 1) := by decide +kernel
def f_Mod_lossWith (w : Mp) (h0 : Nat) (x1 : Int32) (x2 : Int32) (x3 : Int32) : Option (Int32) := (gR w (some h0) 5 14).bind fun v_1 => (aI w v_1 0 x3).bind fun v_2 => (xo w (some h0) 5).bind fun b_4 => (f_Mod_manyFrom w b_4 x1 v_2).bind fun q_3 => if q_3 = 0 then (some (1000000 : Int32)) else ((gR w (some h0) 5 14).bind fun v_5 => (aI w v_5 0 x3).bind fun v_6 => (xo w (some h0) 5).bind fun b_8 => (f_Mod_lossFrom w b_8 x1 q_3 v_6).bind fun q_7 => (gR w (some h0) 5 20).bind fun v_9 => (aI w v_9 0 (((256 : Int32) * (x1 + q_3)) + (x2 ^^^ ((1 : Int32) <<< (x3 &&& 31))))).bind fun v_10 => some (q_7 + v_10))
set_option maxHeartbeats 4000000 in
set_option maxRecDepth 100000 in
theorem c_Mod_lossWith (l : Launch) (G : Gx) (w : Mp) (sz : Nat) (h0 : Nat) (x1 : Int32) (x2 : Int32) (x3 : Int32) (res : Int32) (hf : f_Mod_lossWith w h0 x1 x2 x3 = some res) : Met l y_Mod_lossWith (xws y_Mod_lossWith b_Mod_lossWith 5 (some .int)) { frames := 1, cells := 0, slots := 0, locals := 25 } (xPc G vwCl xaty w sz [va_rf (some h0), .int x1, .int x2, .int x3]) (qP (some (.int res))) 0 0 (fun _ => False) := by
  refine Met.ofW (cc := b_Mod_lossWith) (maxL := 5) (ret := (some .int)) (by decide) rfl ?_
  intro p e s m args below meth c s₁ B hml hv
  obtain ⟨ha, hE, hH, hz⟩ := hv
  have C0 : CallFix p m c b_Mod_lossWith 5 s args wA R_Mod := ⟨B.exec, B.bytes, hml, findClass_of_methodNamed B.named, fun w hw => atoms_spec (ws := xws y_Mod_lossWith b_Mod_lossWith 5 (some .int)) B.pre w (List.mem_cons_of_mem _ hw)⟩
  have hr := B.returns
  have hlocks := B.notSynchronized
  obtain ⟨R, hR⟩ : ∃ R, R = (headSpec (xws y_Mod_lossWith b_Mod_lossWith 5 (some .int)) { frames := 1, cells := 0, slots := 0, locals := 25 }).room := ⟨_, rfl⟩
  have hR1 : 1 ≤ R.frames := by rw [hR]; exact Nat.le_of_ble_eq_true rfl
  have hR2 : 25 ≤ R.locals := by rw [hR]; exact Nat.le_of_ble_eq_true rfl
  have hR3 : 0 ≤ R.cells := Nat.zero_le _
  have hR4 : 0 ≤ R.slots := Nat.zero_le _
  rw [← hR]
  obtain ⟨Q, hQ⟩ : ∃ Q, Q = MQ below (qP (some (.int res))) args s 0 0 (fun _ => False) := ⟨_, rfl⟩
  rw [← hQ]
  have hS : xS G s s.heap [] := va_S.rf
  obtain ⟨ls, he, hl⟩ := x_entry m [.inr (.inl (some h0)), .inl x1, .inl x2, .inl x3] 5 (Nat.le_of_ble_eq_true rfl)
  rw [show entryFrame m args 5 = F0 m 0 ls [] by rw [ha]; exact he]
  have hl : xL ls 5 [(0, .inr (.inl (some h0))), (1, .inl x1), (2, .inl x2), (3, .inl x3)] := hl
  have h := hf
  unfold f_Mod_lossWith at h
  suffices hmain : ∀ (H : Heap) (locs : List Loc), xhd G vwCl w H → xS G s H locs → H.size = sz → (H = s.heap ∧ locs = []) → W p l e R s m args below meth c H locs 0 0 Q (F0 m 0 ls []) from hmain _ _ hH hS hz ⟨rfl, rfl⟩
  clear hH hS hz
  intro H locs hH hS hz hP0
  refine x_aload_n C0 hl 0 d_Mod_lossWith_0 rfl rfl ?_
  refine x_iload_n C0 hl 1 d_Mod_lossWith_1 rfl rfl ?_
  refine x_aload_n C0 hl 0 d_Mod_lossWith_2 rfl rfl ?_
  refine x_getR C0 hE hH (ci := 5) rfl i_Mod 14 (by decide) kw_4_93 d_Mod_lossWith_3 h (fun v_1 h => ?_)
  refine x_iload_n C0 hl 3 d_Mod_lossWith_6 rfl rfl ?_
  refine x_iald C0 hE hH (t := 0) rfl d_Mod_lossWith_7 h (fun v_2 h => ?_)
  obtain ⟨b_4, e9, h⟩ := Option.bind_eq_some_iff.mp h
  obtain ⟨e8, fs9, hb9⟩ := xo_inv e9
  obtain ⟨q_3, e9, h⟩ := Option.bind_eq_some_iff.mp h
  refine x_callP (va_runV (As := [.int x1, .int v_2]) (rest := []) C0 (c_Mod_manyFrom l G w _ b_4 x1 v_2 q_3 e9) (x_cwV 2 C0 kw_5_56 kw_5_59 kw_1_3 kw_5_58 kw_0_34 (by decide +kernel) (x_rm hR1 hR2 (by decide) (by decide))) (x_preV hE hH hS (ci := 5) rfl hb9) rfl rfl hl.1 (by rw [e8]; rfl) (lv_room (by simp only [List.map_cons, List.map_nil, List.sum_cons, List.sum_nil, va_rf_cat, x_catI, x_catL, x_catA] <;> decide)) d_Mod_lossWith_8 (x_le0 hR3 hR4)) ?_
  refine x_istore (lv' := [(4, .inl q_3), (0, .inr (.inl (some h0))), (1, .inl x1), (2, .inl x2), (3, .inl x3)]) C0 hl d_Mod_lossWith_11 (by decide) rfl (fun ls hl => ?_)
  refine x_iload C0 hl 0 d_Mod_lossWith_13 rfl ?_
  refine x_if_ne C0 23 d_Mod_lossWith_15 (by decide) h (fun h => ?_) (fun h => ?_)
  · refine x_aload_n C0 hl 1 d_Mod_lossWith_23 rfl rfl ?_
    refine x_iload_n C0 hl 2 d_Mod_lossWith_24 rfl rfl ?_
    refine x_iload C0 hl 0 d_Mod_lossWith_25 rfl ?_
    refine x_aload_n C0 hl 1 d_Mod_lossWith_27 rfl rfl ?_
    refine x_getR C0 hE hH (ci := 5) rfl i_Mod 14 (by decide) kw_4_93 d_Mod_lossWith_28 h (fun v_5 h => ?_)
    refine x_iload_n C0 hl 4 d_Mod_lossWith_31 rfl rfl ?_
    refine x_iald C0 hE hH (t := 0) rfl d_Mod_lossWith_32 h (fun v_6 h => ?_)
    obtain ⟨b_8, e9, h⟩ := Option.bind_eq_some_iff.mp h
    obtain ⟨e8, fs9, hb9⟩ := xo_inv e9
    obtain ⟨q_7, e9, h⟩ := Option.bind_eq_some_iff.mp h
    refine x_callP (va_runV (As := [.int x1, .int q_3, .int v_6]) (rest := []) C0 (c_Mod_lossFrom l G w _ b_8 x1 q_3 v_6 q_7 e9) (x_cwV 3 C0 kw_5_60 kw_5_63 kw_1_3 kw_5_62 kw_0_35 (by decide +kernel) (x_rm hR1 hR2 (by decide) (by decide))) (x_preV hE hH hS (ci := 5) rfl hb9) rfl rfl hl.1 (by rw [e8]; rfl) (lv_room (by simp only [List.map_cons, List.map_nil, List.sum_cons, List.sum_nil, va_rf_cat, x_catI, x_catL, x_catA] <;> decide)) d_Mod_lossWith_33 (x_le0 hR3 hR4)) ?_
    refine x_aload_n C0 hl 1 d_Mod_lossWith_36 rfl rfl ?_
    refine x_getR C0 hE hH (ci := 5) rfl i_Mod 20 (by decide) kw_4_99 d_Mod_lossWith_37 h (fun v_9 h => ?_)
    refine lv_sipush (v := 256) C0.1 C0.2.1 d_Mod_lossWith_40 (by decide) ?_
    refine x_iload_n C0 hl 2 d_Mod_lossWith_43 rfl rfl ?_
    refine x_iload C0 hl 0 d_Mod_lossWith_44 rfl ?_
    refine lv_iadd C0.1 C0.2.1 d_Mod_lossWith_46 ?_
    refine lv_imul C0.1 C0.2.1 d_Mod_lossWith_47 ?_
    refine x_iload_n C0 hl 3 d_Mod_lossWith_48 rfl rfl ?_
    refine lv_iconst (v := 1) C0.1 C0.2.1 d_Mod_lossWith_49 (by decide) ?_
    refine x_iload_n C0 hl 4 d_Mod_lossWith_50 rfl rfl ?_
    refine lv_ishl C0.1 C0.2.1 d_Mod_lossWith_51 ?_
    refine lv_ixor C0.1 C0.2.1 d_Mod_lossWith_52 ?_
    refine lv_iadd C0.1 C0.2.1 d_Mod_lossWith_53 ?_
    refine x_iald C0 hE hH (t := 0) rfl d_Mod_lossWith_54 h (fun v_10 h => ?_)
    refine lv_iadd C0.1 C0.2.1 d_Mod_lossWith_55 ?_
    cases h
    rw [hQ]
    exact x_iretP C0 hr hlocks hP0 d_Mod_lossWith_56
  · refine lv_ldc (v := 1000000) C0.1 C0.2.1 C0.2.2.2.1 (C0.2.2.2.2 _ kw_5_51) d_Mod_lossWith_18 ?_
    refine x_goto C0 56 d_Mod_lossWith_20 (by decide) ?_
    cases h
    rw [hQ]
    exact x_iretP C0 hr hlocks hP0 d_Mod_lossWith_56
end
section
/-! further rows: final fields, boolean arrays, Object's constructor, longs -/
theorem x_narZ {v : Int32} (h : v = 0 ∨ v = 1) : narrow .boolean (.int v) = .int v := by
  rcases h with rfl | rfl <;> rfl
theorem x_fitZ {v : Int32} (h : v = 0 ∨ v = 1) : fits .boolean (.int v) = true := by
  rcases h with rfl | rfl <;> rfl
section XM
variable {p : Program} {l : Launch} {e : Env} {R : Room} {s : State} {m : MethodId} {args : Array Value} {below : List Frame} {meth : Method} {c : Code} {H : Heap} {locs : List Loc} {cells slots : Nat} {Q : State → Prop}
variable {cc : ByteArray} {pc nL : Nat} {ls : Array Slot} {rest : List Value} {Ts : List Cond} {own : String} {lv lv' : List (Nat × xV)}
variable {G : Gx} {cl : List vw_C} {aty : List FieldType} {w : Mp} {α : Type} {res : α}
theorem x_putF (C0 : CallFix p m c cc nL s args Ts own) (hE : xE G cl aty s) (hH : xhd G cl w H) (hS : xS G s H locs) (hin2 : meth.name = "<init>") {C : String} {T : u_T} {N ci index : Nat} (hc : cl[ci]? = some (C, T, N)) (hin : ∀ w ∈ u_ws C T N, w ∈ Ts) (ty0 : Nat → FieldType) (hty : ∀ k, k < N → parseFieldDescriptor (T k).2.2.1 = some (ty0 k)) (hnm : ∀ a, a < N → ∀ b, b < N → a ≠ b → (T a).2.1 ≠ (T b).2.1) (k : Nat) (hk : k < N) (hlink : Cond.fieldLink own index (T k).1 (T k).2.1 (T k).2.2.1 ∈ Ts) (hfin : (T k).2.2.2 = true) (hdecl : (T k).1 = own) {v : Value} (hn : narrow (ty0 k) v = v) (hfit : fits (ty0 k) v = true) (hdg : decode cc pc = .ok (.putfield index, 3))
    {r : Option Nat} {F : Mp → Option α} (h : (pF w r ci k v).bind F = some res) (kk : ∀ w' H' locs', xhd G cl w' H' → xS G s H' locs' → H'.size = H.size → F w' = some res → W p l e R s m args below meth c H' locs' cells slots Q (F0 m (pc + 3) ls rest)) : W p l e R s m args below meth c H locs cells slots Q (F0 m pc ls (v :: va_rf r :: rest)) := by
  obtain ⟨w', hv, hF⟩ := Option.bind_eq_some_iff.mp h
  obtain ⟨a, fs, rfl, h2, hl, rfl⟩ := pF_inv hv
  have hap := va_apart (own := own) C0.2.2.2.2 hin ty0 hty hnm hE.1 hc
  obtain ⟨hA, r0, h1, cell, q1, q2, q3, q4⟩ := hH a _ h2
  have hr : r0 = (C, T, N) := Option.some.inj (h1.symm.trans hc)
  subst hr
  obtain ⟨hSl, hfc, kC, hkC, hkind⟩ := hE.1.1 ci _ hc
  obtain ⟨cf, kf, fi, f, hi, hsl⟩ := hSl k hk
  have hlay := C0.2.2.2.2 _ (hin _ (u_in_lay hk))
  unfold u_lay at hlay
  rw [if_pos hfin] at hlay
  have hst := (u_facts hfc hkC (u_lays C0.2.2.2.2 hin hk) hi).1
  have hcf : m.cls = cf := by
    obtain ⟨_, _, c', _, _, _, -, -, hf', -, -, -, hown2, -⟩ := Cond.laysFinal_spec hlay
    have e1 : c' = cf := by have := hi.symm.trans hf'; simp at this; exact this.1.symm
    rw [hdecl] at hown2
    rw [← e1]; exact Option.some.inj (C0.2.2.2.1.symm.trans hown2)
  have h6 := u_fits hfc hkC hkind (Or.inr hlay) hi (hty k hk) hn hfit
  refine W.putFinK C0.1 C0.2.1 C0.2.2.2.1 (C0.2.2.2.2 _ hlink) hi hst hcf hin2 (by rw [q2]; exact h6) q1 q3 (by rw [hsl]; exact k2_hasslot (q4 k hk)) rfl rfl hdg fun H' e1 e2 e3 => ?_
  rw [hsl] at e1 ⊢
  exact kk _ H' _ (xhd_set (e := .inl (ci, fs.set k v)) hH h2 ⟨_, hc, t_OB.to (V := updV (vp_V fs) k v) ⟨_, e1, q2, q3, t_set q4 hap hk v⟩ (fun j _ => vp_updV_set hl v j)⟩ e3) (hS.put e2 e3 hA) e2 hF
theorem x_zald (C0 : CallFix p m c cc nL s args Ts own) (hE : xE G cl aty s) (hH : xhd G cl w H) {t : Nat} (ht : aty[t]? = some .boolean) (hdg : decode cc pc = .ok (.baload, 1))
    {r : Option Nat} {i : Int32} {F : Int32 → Option α} (h : (aI w r t i).bind F = some res) (kk : ∀ v, F v = some res → W p l e R s m args below meth c H locs cells slots Q (F0 m (pc + 1) ls (.int v :: rest))) : W p l e R s m args below meth c H locs cells slots Q (F0 m pc ls (.int i :: va_rf r :: rest)) := by
  obtain ⟨v, hv, hF⟩ := Option.bind_eq_some_iff.mp h
  obtain ⟨a, n, f, rfl, h2, h3, rfl⟩ := aI_inv hv
  exact va_zald (D := G.2.1) (ws := [(a, .inl (G.2.2.1 t, n, .inl f))]) C0.1 C0.2.1 hE.1 (xhd_one hH h2) 0 t rfl (xT_at ht) h3 hdg (kk _ hF)
theorem x_zast (C0 : CallFix p m c cc nL s args Ts own) (hE : xE G cl aty s) (hH : xhd G cl w H) (hS : xS G s H locs) {t : Nat} (ht : aty[t]? = some .boolean) (hdg : decode cc pc = .ok (.bastore, 1))
    {r : Option Nat} {i x : Int32} {F : Mp → Option α} (h : (sI w r t i (vp_nar .boolean x)).bind F = some res) (kk : ∀ w' H' locs', xhd G cl w' H' → xS G s H' locs' → H'.size = H.size → F w' = some res → W p l e R s m args below meth c H' locs' cells slots Q (F0 m (pc + 1) ls rest)) : W p l e R s m args below meth c H locs cells slots Q (F0 m pc ls (.int x :: .int i :: va_rf r :: rest)) := by
  obtain ⟨w', hv, hF⟩ := Option.bind_eq_some_iff.mp h
  obtain ⟨a, n, f, rfl, h2, h3, rfl⟩ := sI_inv hv
  obtain ⟨hA, h1⟩ := hH a _ h2
  refine W.zast C0.1 C0.2.1 h1 ((hE.1.2 t _ (xT_at ht)).1 n (fun j => .int (f j))) (fun q => by cases q) (by show ¬ (i < 0 ∨ (arrV _ _ _).slots.size ≤ _); rw [arrV_size]; exact h3) rfl rfl hdg fun H1 e z oq => ?_
  refine kk _ H1 _ (xhd_set hH h2 ?_ oq) (hS.put z oq hA) z hF
  show H1[a]? = some (vp_cell _ _)
  rw [e]
  show some ((vp_cell _ (n, .inl f)).setSlot _ _) = some (vp_cell _ (n, .inl _))
  rw [vp_cell_i, vp_cell_i, arrV_store]
  congr 2
  funext q
  by_cases hq : q = i.toNatClampNeg
  · subst hq
    simp [updV, upd, vp_nar]
    try rfl
  · simp [updV, upd, hq]
theorem x_obj (C0 : CallFix p m c cc nL s args Ts own) (hl : xL ls nL lv) {idx : Nat} (h1 : Cond.methodLink own idx Lib.objectInit ∈ Ts) (h2 : Cond.instanceMethod Lib.objectInit ∈ Ts) (h3 : Cond.code Lib.objectInit ⟨#[0xb1]⟩ 1 none ∈ Ts) {a : Nat} (hdg : decode cc pc = .ok (.invokespecial idx, 3)) (hR1 : 1 ≤ R.frames) (hR2 : (rest.map fun v => v.category).sum + 12 ≤ R.locals)
    (kk : W p l e R s m args below meth c H locs cells slots Q (F0 m (pc + 3) ls rest)) : W p l e R s m args below meth c H locs cells slots Q (F0 m pc ls (va_rf (some a) :: rest)) :=
  W.objInit C0.1 C0.2.1 C0.2.2.2.1 (C0.2.2.2.2 _ h1) (C0.2.2.2.2 _ h2) (C0.2.2.2.2 _ h3) rfl (by rw [C0.2.2.1]; exact hl.1) rfl hdg hR1 (by show 2 * 0 + _ + 12 ≤ _; omega) kk
end XM
end
section
theorem kw_0_10 : (Jvm.Cond.selects "LeafMatches$Planner" ({ cls := "LeafMatches$Planner", name := "findRow", desc := "([LLeafMatches$Leaf;III)V" } : Jvm.MethodName) ({ cls := "LeafMatches$Planner", name := "findRow", desc := "([LLeafMatches$Leaf;III)V" } : Jvm.MethodName)) ∈ wA := ku_0 10 rfl rfl
theorem kw_0_12 : (Jvm.Cond.selects "LeafMatches$Planner" ({ cls := "LeafMatches$Planner", name := "lowerByFace", desc := "(II)V" } : Jvm.MethodName) ({ cls := "LeafMatches$Planner", name := "lowerByFace", desc := "(II)V" } : Jvm.MethodName)) ∈ wA := ku_0 12 rfl rfl
theorem kw_0_14 : (Jvm.Cond.selects "LeafMatches$Planner" ({ cls := "LeafMatches$Planner", name := "faceBegunAt", desc := "(II)I" } : Jvm.MethodName) ({ cls := "LeafMatches$Planner", name := "faceBegunAt", desc := "(II)I" } : Jvm.MethodName)) ∈ wA := ku_0 14 rfl rfl
theorem kw_1_2 : (Jvm.Cond.initialized "LeafMatches$Planner") ∈ wA := ku_1 2 rfl rfl
theorem kw_1_30 : (Jvm.Cond.instanceMethod ({ cls := "java/lang/Object", name := "<init>", desc := "()V" } : Jvm.MethodName)) ∈ wA := ku_1 30 rfl rfl
theorem kw_1_31 : (Jvm.Cond.code ({ cls := "java/lang/Object", name := "<init>", desc := "()V" } : Jvm.MethodName) object_method_1_code (1 : Nat) (Option.none : Option Jvm.ClassFile.FieldType)) ∈ wA := ku_1 31 rfl rfl
theorem kw_1_42 : (Jvm.Cond.fieldLink "LeafMatches$Planner" (9 : Nat) "LeafMatches$Planner" "wanted" "[I") ∈ wA := ku_1 42 rfl rfl
theorem kw_1_44 : (Jvm.Cond.fieldLink "LeafMatches" (216 : Nat) "LeafMatches$Planner" "wantedCount" "I") ∈ wA := ku_1 44 rfl rfl
theorem kw_1_45 : (Jvm.Cond.fieldLink "LeafMatches$Planner" (19 : Nat) "LeafMatches$Planner" "isFound" "Z") ∈ wA := ku_1 45 rfl rfl
theorem kw_1_47 : (Jvm.Cond.fieldLink "LeafMatches$Planner" (23 : Nat) "LeafMatches$Planner" "firstLeaf" "[I") ∈ wA := ku_1 47 rfl rfl
theorem kw_1_49 : (Jvm.Cond.fieldLink "LeafMatches$Planner" (26 : Nat) "LeafMatches$Planner" "rowLength" "[I") ∈ wA := ku_1 49 rfl rfl
theorem kw_1_79 : (Jvm.Cond.fieldLink "LeafMatches" (31 : Nat) "LeafMatches" "planner" "LLeafMatches$Planner;") ∈ wA := ku_1 79 rfl rfl
theorem kw_1_98 : (Jvm.Cond.methodLink "LeafMatches" (227 : Nat) ({ cls := "LeafMatches$Planner", name := "dropWanted", desc := "()V" } : Jvm.MethodName)) ∈ wA := ku_1 98 rfl rfl
theorem kw_1_99 : (Jvm.Cond.instanceMethod ({ cls := "LeafMatches$Planner", name := "dropWanted", desc := "()V" } : Jvm.MethodName)) ∈ wA := ku_1 99 rfl rfl
theorem kw_1_100 : (Jvm.Cond.selects "LeafMatches$Planner" ({ cls := "LeafMatches$Planner", name := "dropWanted", desc := "()V" } : Jvm.MethodName) ({ cls := "LeafMatches$Planner", name := "dropWanted", desc := "()V" } : Jvm.MethodName)) ∈ wA := ku_1 100 rfl rfl
theorem kw_1_101 : (Jvm.Cond.code ({ cls := "LeafMatches$Planner", name := "dropWanted", desc := "()V" } : Jvm.MethodName) prog_5_method_4_code (1 : Nat) (Option.none : Option Jvm.ClassFile.FieldType)) ∈ wA := ku_1 101 rfl rfl
theorem kw_1_211 : (Jvm.Cond.fieldLink "LeafMatches$Planner" (89 : Nat) "LeafMatches$Leaf" "index" "I") ∈ wA := ku_1 211 rfl rfl
theorem kw_1_219 : (Jvm.Cond.fieldLink "LeafMatches$Planner" (76 : Nat) "LeafMatches$Leaf" "width" "I") ∈ wA := ku_1 219 rfl rfl
theorem kw_1_227 : (Jvm.Cond.fieldLink "LeafMatches$Face" (28 : Nat) "LeafMatches$Leaf" "used" "Z") ∈ wA := ku_1 227 rfl rfl
theorem kw_2_103 : (Jvm.Cond.methodLink "LeafMatches$Piece" (1 : Nat) ({ cls := "java/lang/Object", name := "<init>", desc := "()V" } : Jvm.MethodName)) ∈ wA := ku_2 103 rfl rfl
theorem kw_2_178 : (Jvm.Cond.methodLink "LeafMatches$Face" (51 : Nat) ({ cls := "LeafMatches$Face", name := "bestShift", desc := "(I)I" } : Jvm.MethodName)) ∈ wA := ku_2 178 rfl rfl
theorem kw_2_179 : (Jvm.Cond.instanceMethod ({ cls := "LeafMatches$Face", name := "bestShift", desc := "(I)I" } : Jvm.MethodName)) ∈ wA := ku_2 179 rfl rfl
theorem kw_2_180 : (Jvm.Cond.selects "LeafMatches$Face" ({ cls := "LeafMatches$Face", name := "bestShift", desc := "(I)I" } : Jvm.MethodName) ({ cls := "LeafMatches$Face", name := "bestShift", desc := "(I)I" } : Jvm.MethodName)) ∈ wA := ku_2 180 rfl rfl
theorem kw_2_181 : (Jvm.Cond.code ({ cls := "LeafMatches$Face", name := "bestShift", desc := "(I)I" } : Jvm.MethodName) prog_2_method_7_code (6 : Nat) (Option.some Jvm.ClassFile.FieldType.int)) ∈ wA := ku_2 181 rfl rfl
theorem kw_4_40 : (Jvm.Cond.methodLink "LeafMatches$Planner" (66 : Nat) ({ cls := "LeafMatches$Planner", name := "findRow", desc := "([LLeafMatches$Leaf;III)V" } : Jvm.MethodName)) ∈ wA := ku_4 40 rfl rfl
theorem kw_4_42 : (Jvm.Cond.instanceMethod ({ cls := "LeafMatches$Planner", name := "findRow", desc := "([LLeafMatches$Leaf;III)V" } : Jvm.MethodName)) ∈ wA := ku_4 42 rfl rfl
theorem kw_4_43 : (Jvm.Cond.code ({ cls := "LeafMatches$Planner", name := "findRow", desc := "([LLeafMatches$Leaf;III)V" } : Jvm.MethodName) prog_5_method_9_code (8 : Nat) (Option.none : Option Jvm.ClassFile.FieldType)) ∈ wA := ku_4 43 rfl rfl
theorem kw_4_44 : (Jvm.Cond.methodLink "LeafMatches$Planner" (70 : Nat) ({ cls := "LeafMatches$Leaf", name := "follows", desc := "(LLeafMatches$Leaf;)Z" } : Jvm.MethodName)) ∈ wA := ku_4 44 rfl rfl
theorem kw_4_49 : (Jvm.Cond.constant "LeafMatches$Planner" (52 : Nat) (1000000 : Int32)) ∈ wA := ku_4 49 rfl rfl
theorem kw_4_50 : (Jvm.Cond.methodLink "LeafMatches$Planner" (79 : Nat) ({ cls := "LeafMatches$Planner", name := "lowerByFace", desc := "(II)V" } : Jvm.MethodName)) ∈ wA := ku_4 50 rfl rfl
theorem kw_4_52 : (Jvm.Cond.instanceMethod ({ cls := "LeafMatches$Planner", name := "lowerByFace", desc := "(II)V" } : Jvm.MethodName)) ∈ wA := ku_4 52 rfl rfl
theorem kw_4_53 : (Jvm.Cond.code ({ cls := "LeafMatches$Planner", name := "lowerByFace", desc := "(II)V" } : Jvm.MethodName) prog_5_method_11_code (8 : Nat) (Option.none : Option Jvm.ClassFile.FieldType)) ∈ wA := ku_4 53 rfl rfl
theorem kw_4_54 : (Jvm.Cond.methodLink "LeafMatches$Planner" (83 : Nat) ({ cls := "java/lang/Math", name := "min", desc := "(II)I" } : Jvm.MethodName)) ∈ wA := ku_4 54 rfl rfl
theorem kw_4_59 : (Jvm.Cond.methodLink "LeafMatches$Planner" (86 : Nat) ({ cls := "LeafMatches$Planner", name := "faceBegunAt", desc := "(II)I" } : Jvm.MethodName)) ∈ wA := ku_4 59 rfl rfl
theorem kw_4_61 : (Jvm.Cond.instanceMethod ({ cls := "LeafMatches$Planner", name := "faceBegunAt", desc := "(II)I" } : Jvm.MethodName)) ∈ wA := ku_4 61 rfl rfl
theorem kw_4_62 : (Jvm.Cond.code ({ cls := "LeafMatches$Planner", name := "faceBegunAt", desc := "(II)I" } : Jvm.MethodName) prog_5_method_13_code (7 : Nat) (Option.some Jvm.ClassFile.FieldType.int)) ∈ wA := ku_4 62 rfl rfl
theorem d_Plan_dropWanted_0 : decode b_Plan_dropWanted 0 = .ok (.aload_n 0, 1) := by decide +kernel
theorem d_Plan_dropWanted_1 : decode b_Plan_dropWanted 1 = .ok (.iconst 0, 1) := by decide +kernel
theorem d_Plan_dropWanted_2 : decode b_Plan_dropWanted 2 = .ok (.putfield 15, 3) := by decide +kernel
theorem d_Plan_dropWanted_5 : decode b_Plan_dropWanted 5 = .ok (.aload_n 0, 1) := by decide +kernel
theorem d_Plan_dropWanted_6 : decode b_Plan_dropWanted 6 = .ok (.iconst 0, 1) := by decide +kernel
theorem d_Plan_dropWanted_7 : decode b_Plan_dropWanted 7 = .ok (.putfield 19, 3) := by decide +kernel
theorem d_Plan_dropWanted_10 : decode b_Plan_dropWanted 10 = .ok (.return_, 1) := by decide +kernel
def f_Plan_dropWanted (w : Mp) (h0 : Nat) : Option (Unit × Mp) := (pF w (some h0) 4 1 (.int (0 : Int32))).bind fun w_1 => (pF w_1 (some h0) 4 2 (.int (0 : Int32))).bind fun w_2 => some ((), w_2)
set_option maxHeartbeats 4000000 in
set_option maxRecDepth 100000 in
theorem c_Plan_dropWanted (l : Launch) (G : Gx) (w : Mp) (sz : Nat) (h0 : Nat) (res : Unit × Mp) (hf : f_Plan_dropWanted w h0 = some res) : Met l y_Plan_dropWanted (xws y_Plan_dropWanted b_Plan_dropWanted 1 none) { frames := 0, cells := 0, slots := 0, locals := 0 } (xPc G vwCl xaty w sz [va_rf (some h0)]) (xQ G vwCl (none) res.2 sz) 0 0 (xA G) := by
  refine Met.ofW (cc := b_Plan_dropWanted) (maxL := 1) (ret := none) (by decide) rfl ?_
  intro p e s m args below meth c s₁ B hml hv
  obtain ⟨ha, hE, hH, hz⟩ := hv
  have C0 : CallFix p m c b_Plan_dropWanted 1 s args wA R_Plan := ⟨B.exec, B.bytes, hml, findClass_of_methodNamed B.named, fun w hw => atoms_spec (ws := xws y_Plan_dropWanted b_Plan_dropWanted 1 none) B.pre w (List.mem_cons_of_mem _ hw)⟩
  have hr := B.returns
  have hlocks := B.notSynchronized
  obtain ⟨R, hR⟩ : ∃ R, R = (headSpec (xws y_Plan_dropWanted b_Plan_dropWanted 1 none) { frames := 0, cells := 0, slots := 0, locals := 0 }).room := ⟨_, rfl⟩
  have hR1 : 0 ≤ R.frames := by rw [hR]; exact Nat.le_of_ble_eq_true rfl
  have hR2 : 0 ≤ R.locals := by rw [hR]; exact Nat.le_of_ble_eq_true rfl
  have hR3 : 0 ≤ R.cells := Nat.zero_le _
  have hR4 : 0 ≤ R.slots := Nat.zero_le _
  rw [← hR]
  obtain ⟨Q, hQ⟩ : ∃ Q, Q = MQ below (xQ G vwCl (none) res.2 sz) args s 0 0 (xA G) := ⟨_, rfl⟩
  rw [← hQ]
  have hS : xS G s s.heap [] := va_S.rf
  obtain ⟨ls, he, hl⟩ := x_entry m [.inr (.inl (some h0))] 1 (Nat.le_of_ble_eq_true rfl)
  rw [show entryFrame m args 1 = F0 m 0 ls [] by rw [ha]; exact he]
  have hl : xL ls 1 [(0, .inr (.inl (some h0)))] := hl
  have h := hf
  unfold f_Plan_dropWanted at h
  suffices hmain : ∀ (H : Heap) (locs : List Loc), xhd G vwCl w H → xS G s H locs → H.size = sz → (H = s.heap ∧ locs = []) → W p l e R s m args below meth c H locs 0 0 Q (F0 m 0 ls []) from hmain _ _ hH hS hz ⟨rfl, rfl⟩
  clear hH hS hz
  intro H locs hH hS hz hP0
  refine x_aload_n C0 hl 0 d_Plan_dropWanted_0 rfl rfl ?_
  refine lv_iconst (v := 0) C0.1 C0.2.1 d_Plan_dropWanted_1 (by decide) ?_
  refine x_put C0 hE hH hS (ci := 4) rfl i_Plan t_Plan t_Plan_ok n_Plan 1 (by decide) kw_1_43 rfl rfl rfl d_Plan_dropWanted_2 h (fun w_1 H locs hH hS hz9 h => ?_)
  have hz := hz9.trans hz
  refine x_aload_n C0 hl 0 d_Plan_dropWanted_5 rfl rfl ?_
  refine lv_iconst (v := 0) C0.1 C0.2.1 d_Plan_dropWanted_6 (by decide) ?_
  refine x_put C0 hE hH hS (ci := 4) rfl i_Plan t_Plan t_Plan_ok n_Plan 2 (by decide) kw_1_45 rfl rfl rfl d_Plan_dropWanted_7 h (fun w_2 H locs hH hS hz9 h => ?_)
  have hz := hz9.trans hz
  cases h
  rw [hQ]
  exact x_vret C0 hr hlocks hH hS hz d_Plan_dropWanted_10
theorem d_LM_clear_0 : decode b_LM_clear 0 = .ok (.aload_n 0, 1) := by decide +kernel
theorem d_LM_clear_1 : decode b_LM_clear 1 = .ok (.getfield 31, 3) := by decide +kernel
theorem d_LM_clear_4 : decode b_LM_clear 4 = .ok (.getfield 216, 3) := by decide +kernel
theorem d_LM_clear_7 : decode b_LM_clear 7 = .ok (.istore_n 1, 1) := by decide +kernel
theorem d_LM_clear_8 : decode b_LM_clear 8 = .ok (.aload_n 0, 1) := by decide +kernel
theorem d_LM_clear_9 : decode b_LM_clear 9 = .ok (.getfield 31, 3) := by decide +kernel
theorem d_LM_clear_12 : decode b_LM_clear 12 = .ok (.invokevirtual 227, 3) := by decide +kernel
theorem d_LM_clear_15 : decode b_LM_clear 15 = .ok (.iload_n 1, 1) := by decide +kernel
theorem d_LM_clear_16 : decode b_LM_clear 16 = .ok (.ireturn, 1) := by decide +kernel
def f_LM_clear (w : Mp) (h0 : Nat) : Option (Int32 × Mp) := (gR w (some h0) 0 4).bind fun v_1 => (gI w v_1 4 1).bind fun v_2 => (gR w (some h0) 0 4).bind fun v_3 => (xo w v_3 4).bind fun b_5 => (f_Plan_dropWanted w b_5).bind fun q_4 => some (v_2, q_4.2)
set_option maxHeartbeats 4000000 in
set_option maxRecDepth 100000 in
theorem c_LM_clear (l : Launch) (G : Gx) (w : Mp) (sz : Nat) (h0 : Nat) (res : Int32 × Mp) (hf : f_LM_clear w h0 = some res) : Met l y_LM_clear (xws y_LM_clear b_LM_clear 2 (some .int)) { frames := 1, cells := 0, slots := 0, locals := 20 } (xPc G vwCl xaty w sz [va_rf (some h0)]) (xQ G vwCl (some (.int res.1)) res.2 sz) 0 0 (xA G) := by
  refine Met.ofW (cc := b_LM_clear) (maxL := 2) (ret := (some .int)) (by decide) rfl ?_
  intro p e s m args below meth c s₁ B hml hv
  obtain ⟨ha, hE, hH, hz⟩ := hv
  have C0 : CallFix p m c b_LM_clear 2 s args wA R_LM := ⟨B.exec, B.bytes, hml, findClass_of_methodNamed B.named, fun w hw => atoms_spec (ws := xws y_LM_clear b_LM_clear 2 (some .int)) B.pre w (List.mem_cons_of_mem _ hw)⟩
  have hr := B.returns
  have hlocks := B.notSynchronized
  obtain ⟨R, hR⟩ : ∃ R, R = (headSpec (xws y_LM_clear b_LM_clear 2 (some .int)) { frames := 1, cells := 0, slots := 0, locals := 20 }).room := ⟨_, rfl⟩
  have hR1 : 1 ≤ R.frames := by rw [hR]; exact Nat.le_of_ble_eq_true rfl
  have hR2 : 20 ≤ R.locals := by rw [hR]; exact Nat.le_of_ble_eq_true rfl
  have hR3 : 0 ≤ R.cells := Nat.zero_le _
  have hR4 : 0 ≤ R.slots := Nat.zero_le _
  rw [← hR]
  obtain ⟨Q, hQ⟩ : ∃ Q, Q = MQ below (xQ G vwCl (some (.int res.1)) res.2 sz) args s 0 0 (xA G) := ⟨_, rfl⟩
  rw [← hQ]
  have hS : xS G s s.heap [] := va_S.rf
  obtain ⟨ls, he, hl⟩ := x_entry m [.inr (.inl (some h0))] 2 (Nat.le_of_ble_eq_true rfl)
  rw [show entryFrame m args 2 = F0 m 0 ls [] by rw [ha]; exact he]
  have hl : xL ls 2 [(0, .inr (.inl (some h0)))] := hl
  have h := hf
  unfold f_LM_clear at h
  suffices hmain : ∀ (H : Heap) (locs : List Loc), xhd G vwCl w H → xS G s H locs → H.size = sz → (H = s.heap ∧ locs = []) → W p l e R s m args below meth c H locs 0 0 Q (F0 m 0 ls []) from hmain _ _ hH hS hz ⟨rfl, rfl⟩
  clear hH hS hz
  intro H locs hH hS hz hP0
  refine x_aload_n C0 hl 0 d_LM_clear_0 rfl rfl ?_
  refine x_getR C0 hE hH (ci := 0) rfl i_LM 4 (by decide) kw_1_79 d_LM_clear_1 h (fun v_1 h => ?_)
  refine x_getI C0 hE hH (ci := 4) rfl i_Plan 1 (by decide) kw_1_44 d_LM_clear_4 h (fun v_2 h => ?_)
  refine x_istore_n (lv' := [(1, .inl v_2), (0, .inr (.inl (some h0)))]) C0 hl d_LM_clear_7 rfl (by decide) rfl (fun ls hl => ?_)
  refine x_aload_n C0 hl 1 d_LM_clear_8 rfl rfl ?_
  refine x_getR C0 hE hH (ci := 0) rfl i_LM 4 (by decide) kw_1_79 d_LM_clear_9 h (fun v_3 h => ?_)
  obtain ⟨b_5, e9, h⟩ := Option.bind_eq_some_iff.mp h
  obtain ⟨e8, fs9, hb9⟩ := xo_inv e9
  obtain ⟨q_4, e9, h⟩ := Option.bind_eq_some_iff.mp h
  refine x_call0 hS (va_runV (As := []) (rest := []) C0 (c_Plan_dropWanted l G w _ b_5 q_4 e9) (x_cwV 0 C0 kw_1_98 kw_1_101 kw_1_2 kw_1_99 kw_1_100 (by decide +kernel) (x_rm hR1 hR2 (by decide) (by decide))) (x_preV hE hH hS (ci := 4) rfl hb9) rfl rfl hl.1 (by rw [e8]; rfl) (lv_room (by simp only [List.map_cons, List.map_nil, List.sum_cons, List.sum_nil, va_rf_cat, x_catI, x_catL, x_catA] <;> decide)) d_LM_clear_12 (x_le0 hR3 hR4)) (fun H locs hH hS hz9 => ?_)
  have hz := hz9.trans hz
  refine x_iload_n C0 hl 0 d_LM_clear_15 rfl rfl ?_
  cases h
  rw [hQ]
  exact x_iret C0 hr hlocks hH hS hz d_LM_clear_16
theorem d_LM_gatherFree_0 : decode b_LM_gatherFree 0 = .ok (.iconst 0, 1) := by decide +kernel
theorem d_LM_gatherFree_1 : decode b_LM_gatherFree 1 = .ok (.istore_n 2, 1) := by decide +kernel
theorem d_LM_gatherFree_2 : decode b_LM_gatherFree 2 = .ok (.iconst 0, 1) := by decide +kernel
theorem d_LM_gatherFree_3 : decode b_LM_gatherFree 3 = .ok (.istore_n 3, 1) := by decide +kernel
theorem d_LM_gatherFree_4 : decode b_LM_gatherFree 4 = .ok (.iload_n 3, 1) := by decide +kernel
theorem d_LM_gatherFree_5 : decode b_LM_gatherFree 5 = .ok (.aload_n 0, 1) := by decide +kernel
theorem d_LM_gatherFree_6 : decode b_LM_gatherFree 6 = .ok (.getfield 15, 3) := by decide +kernel
theorem d_LM_gatherFree_9 : decode b_LM_gatherFree 9 = .ok (.if_icmp .ge 99, 3) := by decide +kernel
theorem d_LM_gatherFree_12 : decode b_LM_gatherFree 12 = .ok (.aload_n 0, 1) := by decide +kernel
theorem d_LM_gatherFree_13 : decode b_LM_gatherFree 13 = .ok (.getfield 11, 3) := by decide +kernel
theorem d_LM_gatherFree_16 : decode b_LM_gatherFree 16 = .ok (.iload_n 3, 1) := by decide +kernel
theorem d_LM_gatherFree_17 : decode b_LM_gatherFree 17 = .ok (.aaload, 1) := by decide +kernel
theorem d_LM_gatherFree_18 : decode b_LM_gatherFree 18 = .ok (.astore 4, 2) := by decide +kernel
theorem d_LM_gatherFree_20 : decode b_LM_gatherFree 20 = .ok (.aload 4, 2) := by decide +kernel
theorem d_LM_gatherFree_22 : decode b_LM_gatherFree 22 = .ok (.getfield 252, 3) := by decide +kernel
theorem d_LM_gatherFree_25 : decode b_LM_gatherFree 25 = .ok (.iload_n 1, 1) := by decide +kernel
theorem d_LM_gatherFree_26 : decode b_LM_gatherFree 26 = .ok (.if_icmp .ne 76, 3) := by decide +kernel
theorem d_LM_gatherFree_29 : decode b_LM_gatherFree 29 = .ok (.aload 4, 2) := by decide +kernel
theorem d_LM_gatherFree_31 : decode b_LM_gatherFree 31 = .ok (.invokevirtual 258, 3) := by decide +kernel
theorem d_LM_gatherFree_34 : decode b_LM_gatherFree 34 = .ok (.ifCond .ne 6, 3) := by decide +kernel
theorem d_LM_gatherFree_37 : decode b_LM_gatherFree 37 = .ok (.goto 65, 3) := by decide +kernel
theorem d_LM_gatherFree_40 : decode b_LM_gatherFree 40 = .ok (.iload_n 2, 1) := by decide +kernel
theorem d_LM_gatherFree_41 : decode b_LM_gatherFree 41 = .ok (.istore 5, 2) := by decide +kernel
theorem d_LM_gatherFree_43 : decode b_LM_gatherFree 43 = .ok (.iload 5, 2) := by decide +kernel
theorem d_LM_gatherFree_45 : decode b_LM_gatherFree 45 = .ok (.ifCond .le 45, 3) := by decide +kernel
theorem d_LM_gatherFree_48 : decode b_LM_gatherFree 48 = .ok (.aload_n 0, 1) := by decide +kernel
theorem d_LM_gatherFree_49 : decode b_LM_gatherFree 49 = .ok (.getfield 35, 3) := by decide +kernel
theorem d_LM_gatherFree_52 : decode b_LM_gatherFree 52 = .ok (.iload 5, 2) := by decide +kernel
theorem d_LM_gatherFree_54 : decode b_LM_gatherFree 54 = .ok (.iconst 1, 1) := by decide +kernel
theorem d_LM_gatherFree_55 : decode b_LM_gatherFree 55 = .ok (.isub, 1) := by decide +kernel
theorem d_LM_gatherFree_56 : decode b_LM_gatherFree 56 = .ok (.aaload, 1) := by decide +kernel
theorem d_LM_gatherFree_57 : decode b_LM_gatherFree 57 = .ok (.getfield 255, 3) := by decide +kernel
theorem d_LM_gatherFree_60 : decode b_LM_gatherFree 60 = .ok (.aload 4, 2) := by decide +kernel
theorem d_LM_gatherFree_62 : decode b_LM_gatherFree 62 = .ok (.getfield 255, 3) := by decide +kernel
theorem d_LM_gatherFree_65 : decode b_LM_gatherFree 65 = .ok (.if_icmp .le 25, 3) := by decide +kernel
theorem d_LM_gatherFree_68 : decode b_LM_gatherFree 68 = .ok (.aload_n 0, 1) := by decide +kernel
theorem d_LM_gatherFree_69 : decode b_LM_gatherFree 69 = .ok (.getfield 35, 3) := by decide +kernel
theorem d_LM_gatherFree_72 : decode b_LM_gatherFree 72 = .ok (.iload 5, 2) := by decide +kernel
theorem d_LM_gatherFree_74 : decode b_LM_gatherFree 74 = .ok (.aload_n 0, 1) := by decide +kernel
theorem d_LM_gatherFree_75 : decode b_LM_gatherFree 75 = .ok (.getfield 35, 3) := by decide +kernel
theorem d_LM_gatherFree_78 : decode b_LM_gatherFree 78 = .ok (.iload 5, 2) := by decide +kernel
theorem d_LM_gatherFree_80 : decode b_LM_gatherFree 80 = .ok (.iconst 1, 1) := by decide +kernel
theorem d_LM_gatherFree_81 : decode b_LM_gatherFree 81 = .ok (.isub, 1) := by decide +kernel
theorem d_LM_gatherFree_82 : decode b_LM_gatherFree 82 = .ok (.aaload, 1) := by decide +kernel
theorem d_LM_gatherFree_83 : decode b_LM_gatherFree 83 = .ok (.aastore, 1) := by decide +kernel
theorem d_LM_gatherFree_84 : decode b_LM_gatherFree 84 = .ok (.iinc 5 (-1), 3) := by decide +kernel
theorem d_LM_gatherFree_87 : decode b_LM_gatherFree 87 = .ok (.goto (-44), 3) := by decide +kernel
theorem d_LM_gatherFree_90 : decode b_LM_gatherFree 90 = .ok (.aload_n 0, 1) := by decide +kernel
theorem d_LM_gatherFree_91 : decode b_LM_gatherFree 91 = .ok (.getfield 35, 3) := by decide +kernel
theorem d_LM_gatherFree_94 : decode b_LM_gatherFree 94 = .ok (.iload 5, 2) := by decide +kernel
theorem d_LM_gatherFree_96 : decode b_LM_gatherFree 96 = .ok (.aload 4, 2) := by decide +kernel
theorem d_LM_gatherFree_98 : decode b_LM_gatherFree 98 = .ok (.aastore, 1) := by decide +kernel
theorem d_LM_gatherFree_99 : decode b_LM_gatherFree 99 = .ok (.iinc 2 1, 3) := by decide +kernel
theorem d_LM_gatherFree_102 : decode b_LM_gatherFree 102 = .ok (.iinc 3 1, 3) := by decide +kernel
theorem d_LM_gatherFree_105 : decode b_LM_gatherFree 105 = .ok (.goto (-101), 3) := by decide +kernel
theorem d_LM_gatherFree_108 : decode b_LM_gatherFree 108 = .ok (.iload_n 2, 1) := by decide +kernel
theorem d_LM_gatherFree_109 : decode b_LM_gatherFree 109 = .ok (.ireturn, 1) := by decide +kernel
def f_LM_gatherFree_L43 (h0 : Nat) (x1 : Int32) (x2 : Int32) (x3 : Int32) (r4 : Option Nat) : Nat → Int32 → Mp → Option (Nat × Int32 × Mp)
  | 0, _, _ => none
  | n + 1, x5, w => if x5 ≤ 0 then (some (0, x5, w)) else ((gR w (some h0) 0 5).bind fun v_7 => (aR w v_7 1 (x5 - (1 : Int32))).bind fun v_8 => (gI w v_8 1 2).bind fun v_9 => (gI w r4 1 2).bind fun v_10 => if v_9 ≤ v_10 then (some (0, x5, w)) else ((gR w (some h0) 0 5).bind fun v_11 => (gR w (some h0) 0 5).bind fun v_12 => (aR w v_12 1 (x5 - (1 : Int32))).bind fun v_13 => (sR w v_11 1 1 x5 v_13).bind fun w_14 => f_LM_gatherFree_L43 h0 x1 x2 x3 r4 n (x5 + (-1)) w_14))
set_option maxHeartbeats 4000000 in
set_option maxRecDepth 100000 in
theorem w_LM_gatherFree_L43 {p : Program} {l : Launch} {e : Env} {R : Room} {s : State} {m : MethodId} {args : Array Value} {below : List Frame} {meth : Method} {c : Code} {Q : State → Prop} {cells slots sz : Nat} {G : Gx} {h0 : Nat} {x1 : Int32} {x2 : Int32} {x3 : Int32} {r4 : Option Nat} (C0 : CallFix p m c b_LM_gatherFree 6 s args wA R_LM) (hE : xE G vwCl xaty s) (hR1 : 1 ≤ R.frames) (hR2 : 20 ≤ R.locals) (hR3 : cells ≤ R.cells) (hR4 : slots ≤ R.slots) : ∀ (n : Nat) (x5 : Int32) (w : Mp) (H : Heap) (locs : List Loc) (q : Nat × Int32 × Mp) (ls : Array Slot), xhd G vwCl w H → xS G s H locs → H.size = sz → xL ls 6 [(0, .inr (.inl (some h0))), (1, .inl x1), (2, .inl x2), (3, .inl x3), (4, .inr (.inl r4)), (5, .inl x5)] → f_LM_gatherFree_L43 h0 x1 x2 x3 r4 n x5 w = some q → (∀ (H : Heap) (locs : List Loc) (ls : Array Slot), xhd G vwCl q.2.2 H → xS G s H locs → H.size = sz → xL ls 6 [(0, .inr (.inl (some h0))), (1, .inl x1), (2, .inl x2), (3, .inl x3), (4, .inr (.inl r4)), (5, .inl q.2.1)] → W p l e R s m args below meth c H locs cells slots Q (F0 m 90 ls [])) → W p l e R s m args below meth c H locs cells slots Q (F0 m 43 ls []) := by
  intro n
  induction n with
  | zero => intro _ _ _ _ q ls hH hS hz hl h; cases h
  | succ n ih =>
    intro x5 w H locs q ls hH hS hz hl h K
    rw [f_LM_gatherFree_L43] at h
    refine x_iload C0 hl 5 d_LM_gatherFree_43 rfl ?_
    refine x_if_le C0 90 d_LM_gatherFree_45 (by decide) h (fun h => ?_) (fun h => ?_)
    · cases h
      exact K _ _ ls hH hS hz (x_sub hl [0, 1, 2, 3, 4, 5] rfl)
    · refine x_aload_n C0 hl 0 d_LM_gatherFree_48 rfl rfl ?_
      refine x_getR C0 hE hH (ci := 0) rfl i_LM 5 (by decide) kw_1_80 d_LM_gatherFree_49 h (fun v_7 h => ?_)
      refine x_iload C0 hl 5 d_LM_gatherFree_52 rfl ?_
      refine lv_iconst (v := 1) C0.1 C0.2.1 d_LM_gatherFree_54 (by decide) ?_
      refine lv_isub C0.1 C0.2.1 d_LM_gatherFree_55 ?_
      refine x_aald C0 hE hH (t := 1) rfl d_LM_gatherFree_56 h (fun v_8 h => ?_)
      refine x_getI C0 hE hH (ci := 1) rfl i_Leaf 2 (by decide) kw_1_215 d_LM_gatherFree_57 h (fun v_9 h => ?_)
      refine x_aload C0 hl 4 d_LM_gatherFree_60 rfl ?_
      refine x_getI C0 hE hH (ci := 1) rfl i_Leaf 2 (by decide) kw_1_215 d_LM_gatherFree_62 h (fun v_10 h => ?_)
      refine x_icmp_le C0 90 d_LM_gatherFree_65 (by decide) h (fun h => ?_) (fun h => ?_)
      · cases h
        exact K _ _ ls hH hS hz (x_sub hl [0, 1, 2, 3, 4, 5] rfl)
      · refine x_aload_n C0 hl 0 d_LM_gatherFree_68 rfl rfl ?_
        refine x_getR C0 hE hH (ci := 0) rfl i_LM 5 (by decide) kw_1_80 d_LM_gatherFree_69 h (fun v_11 h => ?_)
        refine x_iload C0 hl 5 d_LM_gatherFree_72 rfl ?_
        refine x_aload_n C0 hl 0 d_LM_gatherFree_74 rfl rfl ?_
        refine x_getR C0 hE hH (ci := 0) rfl i_LM 5 (by decide) kw_1_80 d_LM_gatherFree_75 h (fun v_12 h => ?_)
        refine x_iload C0 hl 5 d_LM_gatherFree_78 rfl ?_
        refine lv_iconst (v := 1) C0.1 C0.2.1 d_LM_gatherFree_80 (by decide) ?_
        refine lv_isub C0.1 C0.2.1 d_LM_gatherFree_81 ?_
        refine x_aald C0 hE hH (t := 1) rfl d_LM_gatherFree_82 h (fun v_13 h => ?_)
        refine x_aast C0 hE hH hS (t := 1) (ci := 1) rfl rfl d_LM_gatherFree_83 h (fun w_14 H locs hH hS hz9 h => ?_)
        have hz := hz9.trans hz
        refine x_iinc (v := -1) (lv' := [(5, .inl (x5 + (-1))), (0, .inr (.inl (some h0))), (1, .inl x1), (2, .inl x2), (3, .inl x3), (4, .inr (.inl r4))]) C0 hl 5 d_LM_gatherFree_84 rfl (by decide) (by decide) rfl (fun ls hl => ?_)
        refine x_goto C0 43 d_LM_gatherFree_87 (by decide) ?_
        exact ih _ _ _ _ q ls hH hS hz (x_sub hl [1, 2, 3, 4, 5, 0] rfl) h K
def f_LM_gatherFree_L4 (h0 : Nat) (x1 : Int32) : Nat → Int32 → Int32 → Mp → Option (Nat × Int32 × Int32 × Mp)
  | 0, _, _, _ => none
  | n + 1, x2, x3, w => (gI w (some h0) 0 1).bind fun v_1 => if v_1 ≤ x3 then (some (0, x2, x3, w)) else ((gR w (some h0) 0 0).bind fun v_2 => (aR w v_2 1 x3).bind fun v_3 => (gI w v_3 1 1).bind fun v_4 => if v_4 = x1 then ((xo w v_3 1).bind fun b_6 => (f_Leaf_isFree w b_6).bind fun q_5 => if q_5 = 0 then (f_LM_gatherFree_L4 h0 x1 n x2 (x3 + 1) w) else ((f_LM_gatherFree_L43 h0 x1 x2 x3 v_3 100000 x2 w).bind fun q_15 => (gR q_15.2.2 (some h0) 0 5).bind fun v_16 => (sR q_15.2.2 v_16 1 1 q_15.2.1 v_3).bind fun w_17 => f_LM_gatherFree_L4 h0 x1 n (x2 + 1) (x3 + 1) w_17)) else (f_LM_gatherFree_L4 h0 x1 n x2 (x3 + 1) w))
set_option maxHeartbeats 4000000 in
set_option maxRecDepth 100000 in
theorem w_LM_gatherFree_L4 {p : Program} {l : Launch} {e : Env} {R : Room} {s : State} {m : MethodId} {args : Array Value} {below : List Frame} {meth : Method} {c : Code} {Q : State → Prop} {cells slots sz : Nat} {G : Gx} {h0 : Nat} {x1 : Int32} (C0 : CallFix p m c b_LM_gatherFree 6 s args wA R_LM) (hE : xE G vwCl xaty s) (hR1 : 1 ≤ R.frames) (hR2 : 20 ≤ R.locals) (hR3 : cells ≤ R.cells) (hR4 : slots ≤ R.slots) : ∀ (n : Nat) (x2 : Int32) (x3 : Int32) (w : Mp) (H : Heap) (locs : List Loc) (q : Nat × Int32 × Int32 × Mp) (ls : Array Slot), xhd G vwCl w H → xS G s H locs → H.size = sz → xL ls 6 [(0, .inr (.inl (some h0))), (1, .inl x1), (2, .inl x2), (3, .inl x3)] → f_LM_gatherFree_L4 h0 x1 n x2 x3 w = some q → (∀ (H : Heap) (locs : List Loc) (ls : Array Slot), xhd G vwCl q.2.2.2 H → xS G s H locs → H.size = sz → xL ls 6 [(0, .inr (.inl (some h0))), (1, .inl x1), (2, .inl q.2.1), (3, .inl q.2.2.1)] → W p l e R s m args below meth c H locs cells slots Q (F0 m 108 ls [])) → W p l e R s m args below meth c H locs cells slots Q (F0 m 4 ls []) := by
  intro n
  induction n with
  | zero => intro _ _ _ _ _ q ls hH hS hz hl h; cases h
  | succ n ih =>
    intro x2 x3 w H locs q ls hH hS hz hl h K
    rw [f_LM_gatherFree_L4] at h
    refine x_iload_n C0 hl 3 d_LM_gatherFree_4 rfl rfl ?_
    refine x_aload_n C0 hl 0 d_LM_gatherFree_5 rfl rfl ?_
    refine x_getI C0 hE hH (ci := 0) rfl i_LM 1 (by decide) kw_1_76 d_LM_gatherFree_6 h (fun v_1 h => ?_)
    refine x_icmp_ge C0 108 d_LM_gatherFree_9 (by decide) h (fun h => ?_) (fun h => ?_)
    · cases h
      exact K _ _ ls hH hS hz (x_sub hl [0, 1, 2, 3] rfl)
    · refine x_aload_n C0 hl 0 d_LM_gatherFree_12 rfl rfl ?_
      refine x_getR C0 hE hH (ci := 0) rfl i_LM 0 (by decide) kw_1_75 d_LM_gatherFree_13 h (fun v_2 h => ?_)
      refine x_iload_n C0 hl 3 d_LM_gatherFree_16 rfl rfl ?_
      refine x_aald C0 hE hH (t := 1) rfl d_LM_gatherFree_17 h (fun v_3 h => ?_)
      refine x_astore (lv' := [(4, .inr (.inl v_3)), (0, .inr (.inl (some h0))), (1, .inl x1), (2, .inl x2), (3, .inl x3)]) C0 hl d_LM_gatherFree_18 (by decide) rfl (fun ls hl => ?_)
      refine x_aload C0 hl 0 d_LM_gatherFree_20 rfl ?_
      refine x_getI C0 hE hH (ci := 1) rfl i_Leaf 1 (by decide) kw_1_213 d_LM_gatherFree_22 h (fun v_4 h => ?_)
      refine x_iload_n C0 hl 2 d_LM_gatherFree_25 rfl rfl ?_
      refine x_icmp_ne C0 102 d_LM_gatherFree_26 (by decide) h (fun h => ?_) (fun h => ?_)
      · refine x_iinc (v := 1) (lv' := [(3, .inl (x3 + 1)), (4, .inr (.inl v_3)), (0, .inr (.inl (some h0))), (1, .inl x1), (2, .inl x2)]) C0 hl 4 d_LM_gatherFree_102 rfl (by decide) (by decide) rfl (fun ls hl => ?_)
        refine x_goto C0 4 d_LM_gatherFree_105 (by decide) ?_
        exact ih _ _ _ _ _ q ls hH hS hz (x_sub hl [2, 3, 4, 0] rfl) h K
      · refine x_aload C0 hl 0 d_LM_gatherFree_29 rfl ?_
        obtain ⟨b_6, e9, h⟩ := Option.bind_eq_some_iff.mp h
        obtain ⟨e8, fs9, hb9⟩ := xo_inv e9
        obtain ⟨q_5, e9, h⟩ := Option.bind_eq_some_iff.mp h
        refine x_callP (va_runV (As := []) (rest := []) C0 (c_Leaf_isFree l G w _ b_6 q_5 e9) (x_cwV 0 C0 kw_2_73 kw_2_76 kw_1_9 kw_2_74 kw_2_75 (by decide +kernel) (x_rm hR1 hR2 (by decide) (by decide))) (x_preV hE hH hS (ci := 1) rfl hb9) rfl rfl hl.1 (by rw [e8]; rfl) (lv_room (by simp only [List.map_cons, List.map_nil, List.sum_cons, List.sum_nil, va_rf_cat, x_catI, x_catL, x_catA] <;> decide)) d_LM_gatherFree_31 (x_le0 hR3 hR4)) ?_
        refine x_if_ne C0 40 d_LM_gatherFree_34 (by decide) h (fun h => ?_) (fun h => ?_)
        · refine x_iload_n C0 hl 3 d_LM_gatherFree_40 rfl rfl ?_
          refine x_istore (lv' := [(5, .inl x2), (4, .inr (.inl v_3)), (0, .inr (.inl (some h0))), (1, .inl x1), (2, .inl x2), (3, .inl x3)]) C0 hl d_LM_gatherFree_41 (by decide) rfl (fun ls hl => ?_)
          obtain ⟨q_15, e9, h⟩ := Option.bind_eq_some_iff.mp h
          refine w_LM_gatherFree_L43 C0 hE hR1 hR2 hR3 hR4 100000 _ _ _ _ q_15 ls hH hS hz (x_sub hl [2, 3, 4, 5, 1, 0] rfl) e9 (fun H locs ls hH hS hz hl => ?_)
          refine x_aload_n C0 hl 0 d_LM_gatherFree_90 rfl rfl ?_
          refine x_getR C0 hE hH (ci := 0) rfl i_LM 5 (by decide) kw_1_80 d_LM_gatherFree_91 h (fun v_16 h => ?_)
          refine x_iload C0 hl 5 d_LM_gatherFree_94 rfl ?_
          refine x_aload C0 hl 4 d_LM_gatherFree_96 rfl ?_
          refine x_aast C0 hE hH hS (t := 1) (ci := 1) rfl rfl d_LM_gatherFree_98 h (fun w_17 H locs hH hS hz9 h => ?_)
          have hz := hz9.trans hz
          refine x_iinc (v := 1) (lv' := [(2, .inl (x2 + 1)), (0, .inr (.inl (some h0))), (1, .inl x1), (3, .inl x3), (4, .inr (.inl v_3)), (5, .inl q_15.2.1)]) C0 hl 2 d_LM_gatherFree_99 rfl (by decide) (by decide) rfl (fun ls hl => ?_)
          refine x_iinc (v := 1) (lv' := [(3, .inl (x3 + 1)), (2, .inl (x2 + 1)), (0, .inr (.inl (some h0))), (1, .inl x1), (4, .inr (.inl v_3)), (5, .inl q_15.2.1)]) C0 hl 3 d_LM_gatherFree_102 rfl (by decide) (by decide) rfl (fun ls hl => ?_)
          refine x_goto C0 4 d_LM_gatherFree_105 (by decide) ?_
          exact ih _ _ _ _ _ q ls hH hS hz (x_sub hl [2, 3, 1, 0] rfl) h K
        · refine x_goto C0 102 d_LM_gatherFree_37 (by decide) ?_
          refine x_iinc (v := 1) (lv' := [(3, .inl (x3 + 1)), (4, .inr (.inl v_3)), (0, .inr (.inl (some h0))), (1, .inl x1), (2, .inl x2)]) C0 hl 4 d_LM_gatherFree_102 rfl (by decide) (by decide) rfl (fun ls hl => ?_)
          refine x_goto C0 4 d_LM_gatherFree_105 (by decide) ?_
          exact ih _ _ _ _ _ q ls hH hS hz (x_sub hl [2, 3, 4, 0] rfl) h K
def f_LM_gatherFree (w : Mp) (h0 : Nat) (x1 : Int32) : Option (Int32 × Mp) := (f_LM_gatherFree_L4 h0 x1 100000 (0 : Int32) (0 : Int32) w).bind fun q_18 => some (q_18.2.1, q_18.2.2.2)
set_option maxHeartbeats 4000000 in
set_option maxRecDepth 100000 in
theorem c_LM_gatherFree (l : Launch) (G : Gx) (w : Mp) (sz : Nat) (h0 : Nat) (x1 : Int32) (res : Int32 × Mp) (hf : f_LM_gatherFree w h0 x1 = some res) : Met l y_LM_gatherFree (xws y_LM_gatherFree b_LM_gatherFree 6 (some .int)) { frames := 1, cells := 0, slots := 0, locals := 20 } (xPc G vwCl xaty w sz [va_rf (some h0), .int x1]) (xQ G vwCl (some (.int res.1)) res.2 sz) 0 0 (xA G) := by
  refine Met.ofW (cc := b_LM_gatherFree) (maxL := 6) (ret := (some .int)) (by decide) rfl ?_
  intro p e s m args below meth c s₁ B hml hv
  obtain ⟨ha, hE, hH, hz⟩ := hv
  have C0 : CallFix p m c b_LM_gatherFree 6 s args wA R_LM := ⟨B.exec, B.bytes, hml, findClass_of_methodNamed B.named, fun w hw => atoms_spec (ws := xws y_LM_gatherFree b_LM_gatherFree 6 (some .int)) B.pre w (List.mem_cons_of_mem _ hw)⟩
  have hr := B.returns
  have hlocks := B.notSynchronized
  obtain ⟨R, hR⟩ : ∃ R, R = (headSpec (xws y_LM_gatherFree b_LM_gatherFree 6 (some .int)) { frames := 1, cells := 0, slots := 0, locals := 20 }).room := ⟨_, rfl⟩
  have hR1 : 1 ≤ R.frames := by rw [hR]; exact Nat.le_of_ble_eq_true rfl
  have hR2 : 20 ≤ R.locals := by rw [hR]; exact Nat.le_of_ble_eq_true rfl
  have hR3 : 0 ≤ R.cells := Nat.zero_le _
  have hR4 : 0 ≤ R.slots := Nat.zero_le _
  rw [← hR]
  obtain ⟨Q, hQ⟩ : ∃ Q, Q = MQ below (xQ G vwCl (some (.int res.1)) res.2 sz) args s 0 0 (xA G) := ⟨_, rfl⟩
  rw [← hQ]
  have hS : xS G s s.heap [] := va_S.rf
  obtain ⟨ls, he, hl⟩ := x_entry m [.inr (.inl (some h0)), .inl x1] 6 (Nat.le_of_ble_eq_true rfl)
  rw [show entryFrame m args 6 = F0 m 0 ls [] by rw [ha]; exact he]
  have hl : xL ls 6 [(0, .inr (.inl (some h0))), (1, .inl x1)] := hl
  have h := hf
  unfold f_LM_gatherFree at h
  suffices hmain : ∀ (H : Heap) (locs : List Loc), xhd G vwCl w H → xS G s H locs → H.size = sz → (H = s.heap ∧ locs = []) → W p l e R s m args below meth c H locs 0 0 Q (F0 m 0 ls []) from hmain _ _ hH hS hz ⟨rfl, rfl⟩
  clear hH hS hz
  intro H locs hH hS hz hP0
  refine lv_iconst (v := 0) C0.1 C0.2.1 d_LM_gatherFree_0 (by decide) ?_
  refine x_istore_n (lv' := [(2, .inl (0 : Int32)), (0, .inr (.inl (some h0))), (1, .inl x1)]) C0 hl d_LM_gatherFree_1 rfl (by decide) rfl (fun ls hl => ?_)
  refine lv_iconst (v := 0) C0.1 C0.2.1 d_LM_gatherFree_2 (by decide) ?_
  refine x_istore_n (lv' := [(3, .inl (0 : Int32)), (2, .inl (0 : Int32)), (0, .inr (.inl (some h0))), (1, .inl x1)]) C0 hl d_LM_gatherFree_3 rfl (by decide) rfl (fun ls hl => ?_)
  obtain ⟨q_18, e9, h⟩ := Option.bind_eq_some_iff.mp h
  refine w_LM_gatherFree_L4 C0 hE hR1 hR2 hR3 hR4 100000 _ _ _ _ _ q_18 ls hH hS hz (x_sub hl [2, 3, 1, 0] rfl) e9 (fun H locs ls hH hS hz hl => ?_)
  refine x_iload_n C0 hl 2 d_LM_gatherFree_108 rfl rfl ?_
  cases h
  rw [hQ]
  exact x_iret C0 hr hlocks hH hS hz d_LM_gatherFree_109
theorem d_Face_markUsed_0 : decode b_Face_markUsed 0 = .ok (.aload_n 0, 1) := by decide +kernel
theorem d_Face_markUsed_1 : decode b_Face_markUsed 1 = .ok (.getfield 17, 3) := by decide +kernel
theorem d_Face_markUsed_4 : decode b_Face_markUsed 4 = .ok (.astore_n 2, 1) := by decide +kernel
theorem d_Face_markUsed_5 : decode b_Face_markUsed 5 = .ok (.aload_n 2, 1) := by decide +kernel
theorem d_Face_markUsed_6 : decode b_Face_markUsed 6 = .ok (.arraylength, 1) := by decide +kernel
theorem d_Face_markUsed_7 : decode b_Face_markUsed 7 = .ok (.istore_n 3, 1) := by decide +kernel
theorem d_Face_markUsed_8 : decode b_Face_markUsed 8 = .ok (.iconst 0, 1) := by decide +kernel
theorem d_Face_markUsed_9 : decode b_Face_markUsed 9 = .ok (.istore 4, 2) := by decide +kernel
theorem d_Face_markUsed_11 : decode b_Face_markUsed 11 = .ok (.iload 4, 2) := by decide +kernel
theorem d_Face_markUsed_13 : decode b_Face_markUsed 13 = .ok (.iload_n 3, 1) := by decide +kernel
theorem d_Face_markUsed_14 : decode b_Face_markUsed 14 = .ok (.if_icmp .ge 24, 3) := by decide +kernel
theorem d_Face_markUsed_17 : decode b_Face_markUsed 17 = .ok (.aload_n 2, 1) := by decide +kernel
theorem d_Face_markUsed_18 : decode b_Face_markUsed 18 = .ok (.iload 4, 2) := by decide +kernel
theorem d_Face_markUsed_20 : decode b_Face_markUsed 20 = .ok (.aaload, 1) := by decide +kernel
theorem d_Face_markUsed_21 : decode b_Face_markUsed 21 = .ok (.astore 5, 2) := by decide +kernel
theorem d_Face_markUsed_23 : decode b_Face_markUsed 23 = .ok (.aload 5, 2) := by decide +kernel
theorem d_Face_markUsed_25 : decode b_Face_markUsed 25 = .ok (.getfield 24, 3) := by decide +kernel
theorem d_Face_markUsed_28 : decode b_Face_markUsed 28 = .ok (.iload_n 1, 1) := by decide +kernel
theorem d_Face_markUsed_29 : decode b_Face_markUsed 29 = .ok (.putfield 28, 3) := by decide +kernel
theorem d_Face_markUsed_32 : decode b_Face_markUsed 32 = .ok (.iinc 4 1, 3) := by decide +kernel
theorem d_Face_markUsed_35 : decode b_Face_markUsed 35 = .ok (.goto (-24), 3) := by decide +kernel
theorem d_Face_markUsed_38 : decode b_Face_markUsed 38 = .ok (.return_, 1) := by decide +kernel
def f_Face_markUsed_L11 (x1 : Int32) (r2 : Option Nat) (x3 : Int32) : Nat → Int32 → Mp → Option (Nat × Int32 × Mp)
  | 0, _, _ => none
  | n + 1, x4, w => if x3 ≤ x4 then (some (0, x4, w)) else ((aR w r2 3 x4).bind fun v_3 => (gR w v_3 2 0).bind fun v_4 => if x1 = 0 ∨ x1 = 1 then ((pF w v_4 1 7 (.int x1)).bind fun w_5 => f_Face_markUsed_L11 x1 r2 x3 n (x4 + 1) w_5) else none)
set_option maxHeartbeats 4000000 in
set_option maxRecDepth 100000 in
theorem w_Face_markUsed_L11 {p : Program} {l : Launch} {e : Env} {R : Room} {s : State} {m : MethodId} {args : Array Value} {below : List Frame} {meth : Method} {c : Code} {Q : State → Prop} {cells slots sz : Nat} {G : Gx} {x1 : Int32} {r2 : Option Nat} {x3 : Int32} (C0 : CallFix p m c b_Face_markUsed 6 s args wA R_Face) (hE : xE G vwCl xaty s) (hR1 : 0 ≤ R.frames) (hR2 : 0 ≤ R.locals) (hR3 : cells ≤ R.cells) (hR4 : slots ≤ R.slots) : ∀ (n : Nat) (x4 : Int32) (w : Mp) (H : Heap) (locs : List Loc) (q : Nat × Int32 × Mp) (ls : Array Slot), xhd G vwCl w H → xS G s H locs → H.size = sz → xL ls 6 [(1, .inl x1), (2, .inr (.inl r2)), (3, .inl x3), (4, .inl x4)] → f_Face_markUsed_L11 x1 r2 x3 n x4 w = some q → (∀ (H : Heap) (locs : List Loc) (ls : Array Slot), xhd G vwCl q.2.2 H → xS G s H locs → H.size = sz → xL ls 6 [(1, .inl x1), (2, .inr (.inl r2)), (3, .inl x3), (4, .inl q.2.1)] → W p l e R s m args below meth c H locs cells slots Q (F0 m 38 ls [])) → W p l e R s m args below meth c H locs cells slots Q (F0 m 11 ls []) := by
  intro n
  induction n with
  | zero => intro _ _ _ _ q ls hH hS hz hl h; cases h
  | succ n ih =>
    intro x4 w H locs q ls hH hS hz hl h K
    rw [f_Face_markUsed_L11] at h
    refine x_iload C0 hl 3 d_Face_markUsed_11 rfl ?_
    refine x_iload_n C0 hl 2 d_Face_markUsed_13 rfl rfl ?_
    refine x_icmp_ge C0 38 d_Face_markUsed_14 (by decide) h (fun h => ?_) (fun h => ?_)
    · cases h
      exact K _ _ ls hH hS hz (x_sub hl [0, 1, 2, 3] rfl)
    · refine x_aload_n C0 hl 1 d_Face_markUsed_17 rfl rfl ?_
      refine x_iload C0 hl 3 d_Face_markUsed_18 rfl ?_
      refine x_aald C0 hE hH (t := 3) rfl d_Face_markUsed_20 h (fun v_3 h => ?_)
      refine x_astore (lv' := [(5, .inr (.inl v_3)), (1, .inl x1), (2, .inr (.inl r2)), (3, .inl x3), (4, .inl x4)]) C0 hl d_Face_markUsed_21 (by decide) rfl (fun ls hl => ?_)
      refine x_aload C0 hl 0 d_Face_markUsed_23 rfl ?_
      refine x_getR C0 hE hH (ci := 2) rfl i_Piece 0 (by decide) kw_2_105 d_Face_markUsed_25 h (fun v_4 h => ?_)
      refine x_iload_n C0 hl 1 d_Face_markUsed_28 rfl rfl ?_
      obtain ⟨hn9, h⟩ := x_ifs h
      refine x_put C0 hE hH hS (ci := 1) rfl i_Leaf t_Leaf t_Leaf_ok n_Leaf 7 (by decide) kw_1_227 rfl (x_narZ hn9) (x_fitZ hn9) d_Face_markUsed_29 h (fun w_5 H locs hH hS hz9 h => ?_)
      have hz := hz9.trans hz
      refine x_iinc (v := 1) (lv' := [(4, .inl (x4 + 1)), (5, .inr (.inl v_3)), (1, .inl x1), (2, .inr (.inl r2)), (3, .inl x3)]) C0 hl 4 d_Face_markUsed_32 rfl (by decide) (by decide) rfl (fun ls hl => ?_)
      refine x_goto C0 11 d_Face_markUsed_35 (by decide) ?_
      exact ih _ _ _ _ q ls hH hS hz (x_sub hl [2, 3, 4, 0] rfl) h K
def f_Face_markUsed (w : Mp) (h0 : Nat) (x1 : Int32) : Option (Unit × Mp) := (gR w (some h0) 3 1).bind fun v_1 => (aL w v_1 3).bind fun v_2 => (f_Face_markUsed_L11 x1 v_1 v_2 100000 (0 : Int32) w).bind fun q_6 => some ((), q_6.2.2)
set_option maxHeartbeats 4000000 in
set_option maxRecDepth 100000 in
theorem c_Face_markUsed (l : Launch) (G : Gx) (w : Mp) (sz : Nat) (h0 : Nat) (x1 : Int32) (res : Unit × Mp) (hf : f_Face_markUsed w h0 x1 = some res) : Met l y_Face_markUsed (xws y_Face_markUsed b_Face_markUsed 6 none) { frames := 0, cells := 0, slots := 0, locals := 0 } (xPc G vwCl xaty w sz [va_rf (some h0), .int x1]) (xQ G vwCl (none) res.2 sz) 0 0 (xA G) := by
  refine Met.ofW (cc := b_Face_markUsed) (maxL := 6) (ret := none) (by decide) rfl ?_
  intro p e s m args below meth c s₁ B hml hv
  obtain ⟨ha, hE, hH, hz⟩ := hv
  have C0 : CallFix p m c b_Face_markUsed 6 s args wA R_Face := ⟨B.exec, B.bytes, hml, findClass_of_methodNamed B.named, fun w hw => atoms_spec (ws := xws y_Face_markUsed b_Face_markUsed 6 none) B.pre w (List.mem_cons_of_mem _ hw)⟩
  have hr := B.returns
  have hlocks := B.notSynchronized
  obtain ⟨R, hR⟩ : ∃ R, R = (headSpec (xws y_Face_markUsed b_Face_markUsed 6 none) { frames := 0, cells := 0, slots := 0, locals := 0 }).room := ⟨_, rfl⟩
  have hR1 : 0 ≤ R.frames := by rw [hR]; exact Nat.le_of_ble_eq_true rfl
  have hR2 : 0 ≤ R.locals := by rw [hR]; exact Nat.le_of_ble_eq_true rfl
  have hR3 : 0 ≤ R.cells := Nat.zero_le _
  have hR4 : 0 ≤ R.slots := Nat.zero_le _
  rw [← hR]
  obtain ⟨Q, hQ⟩ : ∃ Q, Q = MQ below (xQ G vwCl (none) res.2 sz) args s 0 0 (xA G) := ⟨_, rfl⟩
  rw [← hQ]
  have hS : xS G s s.heap [] := va_S.rf
  obtain ⟨ls, he, hl⟩ := x_entry m [.inr (.inl (some h0)), .inl x1] 6 (Nat.le_of_ble_eq_true rfl)
  rw [show entryFrame m args 6 = F0 m 0 ls [] by rw [ha]; exact he]
  have hl : xL ls 6 [(0, .inr (.inl (some h0))), (1, .inl x1)] := hl
  have h := hf
  unfold f_Face_markUsed at h
  suffices hmain : ∀ (H : Heap) (locs : List Loc), xhd G vwCl w H → xS G s H locs → H.size = sz → (H = s.heap ∧ locs = []) → W p l e R s m args below meth c H locs 0 0 Q (F0 m 0 ls []) from hmain _ _ hH hS hz ⟨rfl, rfl⟩
  clear hH hS hz
  intro H locs hH hS hz hP0
  refine x_aload_n C0 hl 0 d_Face_markUsed_0 rfl rfl ?_
  refine x_getR C0 hE hH (ci := 3) rfl i_Face 1 (by decide) kw_2_130 d_Face_markUsed_1 h (fun v_1 h => ?_)
  refine x_astore_n (lv' := [(2, .inr (.inl v_1)), (0, .inr (.inl (some h0))), (1, .inl x1)]) C0 hl d_Face_markUsed_4 rfl (by decide) rfl (fun ls hl => ?_)
  refine x_aload_n C0 hl 0 d_Face_markUsed_5 rfl rfl ?_
  refine x_alen C0 hE hH (t := 3) rfl d_Face_markUsed_6 h (fun v_2 h => ?_)
  refine x_istore_n (lv' := [(3, .inl v_2), (2, .inr (.inl v_1)), (0, .inr (.inl (some h0))), (1, .inl x1)]) C0 hl d_Face_markUsed_7 rfl (by decide) rfl (fun ls hl => ?_)
  refine lv_iconst (v := 0) C0.1 C0.2.1 d_Face_markUsed_8 (by decide) ?_
  refine x_istore (lv' := [(4, .inl (0 : Int32)), (3, .inl v_2), (2, .inr (.inl v_1)), (0, .inr (.inl (some h0))), (1, .inl x1)]) C0 hl d_Face_markUsed_9 (by decide) rfl (fun ls hl => ?_)
  obtain ⟨q_6, e9, h⟩ := Option.bind_eq_some_iff.mp h
  refine w_Face_markUsed_L11 C0 hE hR1 hR2 hR3 hR4 100000 _ _ _ _ q_6 ls hH hS hz (x_sub hl [4, 2, 1, 0] rfl) e9 (fun H locs ls hH hS hz hl => ?_)
  cases h
  rw [hQ]
  exact x_vret C0 hr hlocks hH hS hz d_Face_markUsed_38
theorem d_Face_layOut_0 : decode b_Face_layOut 0 = .ok (.iconst 1, 1) := by decide +kernel
theorem d_Face_layOut_1 : decode b_Face_layOut 1 = .ok (.istore_n 1, 1) := by decide +kernel
theorem d_Face_layOut_2 : decode b_Face_layOut 2 = .ok (.iload_n 1, 1) := by decide +kernel
theorem d_Face_layOut_3 : decode b_Face_layOut 3 = .ok (.aload_n 0, 1) := by decide +kernel
theorem d_Face_layOut_4 : decode b_Face_layOut 4 = .ok (.getfield 17, 3) := by decide +kernel
theorem d_Face_layOut_7 : decode b_Face_layOut 7 = .ok (.arraylength, 1) := by decide +kernel
theorem d_Face_layOut_8 : decode b_Face_layOut 8 = .ok (.if_icmp .ge 124, 3) := by decide +kernel
theorem d_Face_layOut_11 : decode b_Face_layOut 11 = .ok (.aload_n 0, 1) := by decide +kernel
theorem d_Face_layOut_12 : decode b_Face_layOut 12 = .ok (.getfield 9, 3) := by decide +kernel
theorem d_Face_layOut_15 : decode b_Face_layOut 15 = .ok (.iconst 3, 1) := by decide +kernel
theorem d_Face_layOut_16 : decode b_Face_layOut 16 = .ok (.if_icmp .ne 62, 3) := by decide +kernel
theorem d_Face_layOut_19 : decode b_Face_layOut 19 = .ok (.aload_n 0, 1) := by decide +kernel
theorem d_Face_layOut_20 : decode b_Face_layOut 20 = .ok (.getfield 17, 3) := by decide +kernel
theorem d_Face_layOut_23 : decode b_Face_layOut 23 = .ok (.iload_n 1, 1) := by decide +kernel
theorem d_Face_layOut_24 : decode b_Face_layOut 24 = .ok (.aaload, 1) := by decide +kernel
theorem d_Face_layOut_25 : decode b_Face_layOut 25 = .ok (.iload_n 1, 1) := by decide +kernel
theorem d_Face_layOut_26 : decode b_Face_layOut 26 = .ok (.iconst 2, 1) := by decide +kernel
theorem d_Face_layOut_27 : decode b_Face_layOut 27 = .ok (.irem, 1) := by decide +kernel
theorem d_Face_layOut_28 : decode b_Face_layOut 28 = .ok (.iconst 1, 1) := by decide +kernel
theorem d_Face_layOut_29 : decode b_Face_layOut 29 = .ok (.if_icmp .ne 15, 3) := by decide +kernel
theorem d_Face_layOut_32 : decode b_Face_layOut 32 = .ok (.aload_n 0, 1) := by decide +kernel
theorem d_Face_layOut_33 : decode b_Face_layOut 33 = .ok (.getfield 17, 3) := by decide +kernel
theorem d_Face_layOut_36 : decode b_Face_layOut 36 = .ok (.iconst 0, 1) := by decide +kernel
theorem d_Face_layOut_37 : decode b_Face_layOut 37 = .ok (.aaload, 1) := by decide +kernel
theorem d_Face_layOut_38 : decode b_Face_layOut 38 = .ok (.invokevirtual 38, 3) := by decide +kernel
theorem d_Face_layOut_41 : decode b_Face_layOut 41 = .ok (.goto 4, 3) := by decide +kernel
theorem d_Face_layOut_44 : decode b_Face_layOut 44 = .ok (.iconst 0, 1) := by decide +kernel
theorem d_Face_layOut_45 : decode b_Face_layOut 45 = .ok (.putfield 42, 3) := by decide +kernel
theorem d_Face_layOut_48 : decode b_Face_layOut 48 = .ok (.aload_n 0, 1) := by decide +kernel
theorem d_Face_layOut_49 : decode b_Face_layOut 49 = .ok (.getfield 17, 3) := by decide +kernel
theorem d_Face_layOut_52 : decode b_Face_layOut 52 = .ok (.iload_n 1, 1) := by decide +kernel
theorem d_Face_layOut_53 : decode b_Face_layOut 53 = .ok (.aaload, 1) := by decide +kernel
theorem d_Face_layOut_54 : decode b_Face_layOut 54 = .ok (.iload_n 1, 1) := by decide +kernel
theorem d_Face_layOut_55 : decode b_Face_layOut 55 = .ok (.iconst 2, 1) := by decide +kernel
theorem d_Face_layOut_56 : decode b_Face_layOut 56 = .ok (.if_icmp .lt 15, 3) := by decide +kernel
theorem d_Face_layOut_59 : decode b_Face_layOut 59 = .ok (.aload_n 0, 1) := by decide +kernel
theorem d_Face_layOut_60 : decode b_Face_layOut 60 = .ok (.getfield 17, 3) := by decide +kernel
theorem d_Face_layOut_63 : decode b_Face_layOut 63 = .ok (.iconst 0, 1) := by decide +kernel
theorem d_Face_layOut_64 : decode b_Face_layOut 64 = .ok (.aaload, 1) := by decide +kernel
theorem d_Face_layOut_65 : decode b_Face_layOut 65 = .ok (.invokevirtual 45, 3) := by decide +kernel
theorem d_Face_layOut_68 : decode b_Face_layOut 68 = .ok (.goto 4, 3) := by decide +kernel
theorem d_Face_layOut_71 : decode b_Face_layOut 71 = .ok (.iconst 0, 1) := by decide +kernel
theorem d_Face_layOut_72 : decode b_Face_layOut 72 = .ok (.putfield 48, 3) := by decide +kernel
theorem d_Face_layOut_75 : decode b_Face_layOut 75 = .ok (.goto 51, 3) := by decide +kernel
theorem d_Face_layOut_78 : decode b_Face_layOut 78 = .ok (.aload_n 0, 1) := by decide +kernel
theorem d_Face_layOut_79 : decode b_Face_layOut 79 = .ok (.getfield 17, 3) := by decide +kernel
theorem d_Face_layOut_82 : decode b_Face_layOut 82 = .ok (.iload_n 1, 1) := by decide +kernel
theorem d_Face_layOut_83 : decode b_Face_layOut 83 = .ok (.aaload, 1) := by decide +kernel
theorem d_Face_layOut_84 : decode b_Face_layOut 84 = .ok (.aload_n 0, 1) := by decide +kernel
theorem d_Face_layOut_85 : decode b_Face_layOut 85 = .ok (.getfield 17, 3) := by decide +kernel
theorem d_Face_layOut_88 : decode b_Face_layOut 88 = .ok (.iload_n 1, 1) := by decide +kernel
theorem d_Face_layOut_89 : decode b_Face_layOut 89 = .ok (.iconst 1, 1) := by decide +kernel
theorem d_Face_layOut_90 : decode b_Face_layOut 90 = .ok (.isub, 1) := by decide +kernel
theorem d_Face_layOut_91 : decode b_Face_layOut 91 = .ok (.aaload, 1) := by decide +kernel
theorem d_Face_layOut_92 : decode b_Face_layOut 92 = .ok (.invokevirtual 38, 3) := by decide +kernel
theorem d_Face_layOut_95 : decode b_Face_layOut 95 = .ok (.putfield 42, 3) := by decide +kernel
theorem d_Face_layOut_98 : decode b_Face_layOut 98 = .ok (.aload_n 0, 1) := by decide +kernel
theorem d_Face_layOut_99 : decode b_Face_layOut 99 = .ok (.getfield 17, 3) := by decide +kernel
theorem d_Face_layOut_102 : decode b_Face_layOut 102 = .ok (.iload_n 1, 1) := by decide +kernel
theorem d_Face_layOut_103 : decode b_Face_layOut 103 = .ok (.aaload, 1) := by decide +kernel
theorem d_Face_layOut_104 : decode b_Face_layOut 104 = .ok (.aload_n 0, 1) := by decide +kernel
theorem d_Face_layOut_105 : decode b_Face_layOut 105 = .ok (.getfield 17, 3) := by decide +kernel
theorem d_Face_layOut_108 : decode b_Face_layOut 108 = .ok (.iload_n 1, 1) := by decide +kernel
theorem d_Face_layOut_109 : decode b_Face_layOut 109 = .ok (.iconst 1, 1) := by decide +kernel
theorem d_Face_layOut_110 : decode b_Face_layOut 110 = .ok (.isub, 1) := by decide +kernel
theorem d_Face_layOut_111 : decode b_Face_layOut 111 = .ok (.aaload, 1) := by decide +kernel
theorem d_Face_layOut_112 : decode b_Face_layOut 112 = .ok (.getfield 48, 3) := by decide +kernel
theorem d_Face_layOut_115 : decode b_Face_layOut 115 = .ok (.aload_n 0, 1) := by decide +kernel
theorem d_Face_layOut_116 : decode b_Face_layOut 116 = .ok (.iload_n 1, 1) := by decide +kernel
theorem d_Face_layOut_117 : decode b_Face_layOut 117 = .ok (.iconst 1, 1) := by decide +kernel
theorem d_Face_layOut_118 : decode b_Face_layOut 118 = .ok (.isub, 1) := by decide +kernel
theorem d_Face_layOut_119 : decode b_Face_layOut 119 = .ok (.invokevirtual 51, 3) := by decide +kernel
theorem d_Face_layOut_122 : decode b_Face_layOut 122 = .ok (.iadd, 1) := by decide +kernel
theorem d_Face_layOut_123 : decode b_Face_layOut 123 = .ok (.putfield 48, 3) := by decide +kernel
theorem d_Face_layOut_126 : decode b_Face_layOut 126 = .ok (.iinc 1 1, 3) := by decide +kernel
theorem d_Face_layOut_129 : decode b_Face_layOut 129 = .ok (.goto (-127), 3) := by decide +kernel
theorem d_Face_layOut_132 : decode b_Face_layOut 132 = .ok (.return_, 1) := by decide +kernel
def f_Face_layOut_L2 (h0 : Nat) : Nat → Int32 → Mp → Option (Nat × Int32 × Mp)
  | 0, _, _ => none
  | n + 1, x1, w => (gR w (some h0) 3 1).bind fun v_1 => (aL w v_1 3).bind fun v_2 => if v_2 ≤ x1 then (some (0, x1, w)) else ((gI w (some h0) 3 0).bind fun v_3 => if v_3 = (3 : Int32) then ((gR w (some h0) 3 1).bind fun v_19 => (aR w v_19 3 x1).bind fun v_20 => xJ1 (fun (x_21 : Int32) => (pF w v_20 2 3 (.int x_21)).bind fun w_23 => (gR w_23 (some h0) 3 1).bind fun v_24 => (aR w_23 v_24 3 x1).bind fun v_25 => if x1 < (2 : Int32) then ((pF w_23 v_25 2 4 (.int (0 : Int32))).bind fun w_26 => f_Face_layOut_L2 h0 n (x1 + 1) w_26) else ((gR w_23 (some h0) 3 1).bind fun v_27 => (aR w_23 v_27 3 (0 : Int32)).bind fun v_28 => (xo w_23 v_28 2).bind fun b_30 => (f_Piece_bottom w_23 b_30).bind fun q_29 => (pF w_23 v_25 2 4 (.int q_29)).bind fun w_31 => f_Face_layOut_L2 h0 n (x1 + 1) w_31)) fun J_22 => if (x1 - x1 / (2 : Int32) * (2 : Int32)) = (1 : Int32) then ((gR w (some h0) 3 1).bind fun v_32 => (aR w v_32 3 (0 : Int32)).bind fun v_33 => (xo w v_33 2).bind fun b_35 => (f_Piece_end w b_35).bind fun q_34 => J_22 q_34) else (J_22 (0 : Int32))) else ((gR w (some h0) 3 1).bind fun v_4 => (aR w v_4 3 x1).bind fun v_5 => (gR w (some h0) 3 1).bind fun v_6 => (aR w v_6 3 (x1 - (1 : Int32))).bind fun v_7 => (xo w v_7 2).bind fun b_9 => (f_Piece_end w b_9).bind fun q_8 => (pF w v_5 2 3 (.int q_8)).bind fun w_10 => (gR w_10 (some h0) 3 1).bind fun v_11 => (aR w_10 v_11 3 x1).bind fun v_12 => (gR w_10 (some h0) 3 1).bind fun v_13 => (aR w_10 v_13 3 (x1 - (1 : Int32))).bind fun v_14 => (gI w_10 v_14 2 4).bind fun v_15 => (xo w_10 (some h0) 3).bind fun b_17 => (f_Face_bestShift w_10 b_17 (x1 - (1 : Int32))).bind fun q_16 => (pF w_10 v_12 2 4 (.int (v_15 + q_16))).bind fun w_18 => f_Face_layOut_L2 h0 n (x1 + 1) w_18))
set_option maxHeartbeats 4000000 in
set_option maxRecDepth 100000 in
theorem w_Face_layOut_L2 {p : Program} {l : Launch} {e : Env} {R : Room} {s : State} {m : MethodId} {args : Array Value} {below : List Frame} {meth : Method} {c : Code} {Q : State → Prop} {cells slots sz : Nat} {G : Gx} {h0 : Nat} (C0 : CallFix p m c b_Face_layOut 2 s args wA R_Face) (hE : xE G vwCl xaty s) (hR1 : 5 ≤ R.frames) (hR2 : 122 ≤ R.locals) (hR3 : cells ≤ R.cells) (hR4 : slots ≤ R.slots) : ∀ (n : Nat) (x1 : Int32) (w : Mp) (H : Heap) (locs : List Loc) (q : Nat × Int32 × Mp) (ls : Array Slot), xhd G vwCl w H → xS G s H locs → H.size = sz → xL ls 2 [(0, .inr (.inl (some h0))), (1, .inl x1)] → f_Face_layOut_L2 h0 n x1 w = some q → (∀ (H : Heap) (locs : List Loc) (ls : Array Slot), xhd G vwCl q.2.2 H → xS G s H locs → H.size = sz → xL ls 2 [(0, .inr (.inl (some h0))), (1, .inl q.2.1)] → W p l e R s m args below meth c H locs cells slots Q (F0 m 132 ls [])) → W p l e R s m args below meth c H locs cells slots Q (F0 m 2 ls []) := by
  intro n
  induction n with
  | zero => intro _ _ _ _ q ls hH hS hz hl h; cases h
  | succ n ih =>
    intro x1 w H locs q ls hH hS hz hl h K
    rw [f_Face_layOut_L2] at h
    refine x_iload_n C0 hl 1 d_Face_layOut_2 rfl rfl ?_
    refine x_aload_n C0 hl 0 d_Face_layOut_3 rfl rfl ?_
    refine x_getR C0 hE hH (ci := 3) rfl i_Face 1 (by decide) kw_2_130 d_Face_layOut_4 h (fun v_1 h => ?_)
    refine x_alen C0 hE hH (t := 3) rfl d_Face_layOut_7 h (fun v_2 h => ?_)
    refine x_icmp_ge C0 132 d_Face_layOut_8 (by decide) h (fun h => ?_) (fun h => ?_)
    · cases h
      exact K _ _ ls hH hS hz (x_sub hl [0, 1] rfl)
    · refine x_aload_n C0 hl 0 d_Face_layOut_11 rfl rfl ?_
      refine x_getI C0 hE hH (ci := 3) rfl i_Face 0 (by decide) kw_2_128 d_Face_layOut_12 h (fun v_3 h => ?_)
      refine lv_iconst (v := 3) C0.1 C0.2.1 d_Face_layOut_15 (by decide) ?_
      refine x_icmp_ne C0 78 d_Face_layOut_16 (by decide) h (fun h => ?_) (fun h => ?_)
      · refine x_aload_n C0 hl 0 d_Face_layOut_78 rfl rfl ?_
        refine x_getR C0 hE hH (ci := 3) rfl i_Face 1 (by decide) kw_2_130 d_Face_layOut_79 h (fun v_4 h => ?_)
        refine x_iload_n C0 hl 1 d_Face_layOut_82 rfl rfl ?_
        refine x_aald C0 hE hH (t := 3) rfl d_Face_layOut_83 h (fun v_5 h => ?_)
        refine x_aload_n C0 hl 0 d_Face_layOut_84 rfl rfl ?_
        refine x_getR C0 hE hH (ci := 3) rfl i_Face 1 (by decide) kw_2_130 d_Face_layOut_85 h (fun v_6 h => ?_)
        refine x_iload_n C0 hl 1 d_Face_layOut_88 rfl rfl ?_
        refine lv_iconst (v := 1) C0.1 C0.2.1 d_Face_layOut_89 (by decide) ?_
        refine lv_isub C0.1 C0.2.1 d_Face_layOut_90 ?_
        refine x_aald C0 hE hH (t := 3) rfl d_Face_layOut_91 h (fun v_7 h => ?_)
        obtain ⟨b_9, e9, h⟩ := Option.bind_eq_some_iff.mp h
        obtain ⟨e8, fs9, hb9⟩ := xo_inv e9
        obtain ⟨q_8, e9, h⟩ := Option.bind_eq_some_iff.mp h
        refine x_callP (va_runV (As := []) (rest := [va_rf v_5]) C0 (c_Piece_end l G w _ b_9 q_8 e9) (x_cwV 0 C0 kw_2_170 kw_2_173 kw_1_12 kw_2_171 kw_2_172 (by decide +kernel) (x_rm hR1 hR2 (by decide) (by decide))) (x_preV hE hH hS (ci := 2) rfl hb9) rfl rfl hl.1 (by rw [e8]; rfl) (lv_room (by simp only [List.map_cons, List.map_nil, List.sum_cons, List.sum_nil, va_rf_cat, x_catI, x_catL, x_catA] <;> decide)) d_Face_layOut_92 (x_le0 hR3 hR4)) ?_
        refine x_put C0 hE hH hS (ci := 2) rfl i_Piece t_Piece t_Piece_ok n_Piece 3 (by decide) kw_2_112 rfl rfl rfl d_Face_layOut_95 h (fun w_10 H locs hH hS hz9 h => ?_)
        have hz := hz9.trans hz
        refine x_aload_n C0 hl 0 d_Face_layOut_98 rfl rfl ?_
        refine x_getR C0 hE hH (ci := 3) rfl i_Face 1 (by decide) kw_2_130 d_Face_layOut_99 h (fun v_11 h => ?_)
        refine x_iload_n C0 hl 1 d_Face_layOut_102 rfl rfl ?_
        refine x_aald C0 hE hH (t := 3) rfl d_Face_layOut_103 h (fun v_12 h => ?_)
        refine x_aload_n C0 hl 0 d_Face_layOut_104 rfl rfl ?_
        refine x_getR C0 hE hH (ci := 3) rfl i_Face 1 (by decide) kw_2_130 d_Face_layOut_105 h (fun v_13 h => ?_)
        refine x_iload_n C0 hl 1 d_Face_layOut_108 rfl rfl ?_
        refine lv_iconst (v := 1) C0.1 C0.2.1 d_Face_layOut_109 (by decide) ?_
        refine lv_isub C0.1 C0.2.1 d_Face_layOut_110 ?_
        refine x_aald C0 hE hH (t := 3) rfl d_Face_layOut_111 h (fun v_14 h => ?_)
        refine x_getI C0 hE hH (ci := 2) rfl i_Piece 4 (by decide) kw_2_115 d_Face_layOut_112 h (fun v_15 h => ?_)
        refine x_aload_n C0 hl 0 d_Face_layOut_115 rfl rfl ?_
        refine x_iload_n C0 hl 1 d_Face_layOut_116 rfl rfl ?_
        refine lv_iconst (v := 1) C0.1 C0.2.1 d_Face_layOut_117 (by decide) ?_
        refine lv_isub C0.1 C0.2.1 d_Face_layOut_118 ?_
        obtain ⟨b_17, e9, h⟩ := Option.bind_eq_some_iff.mp h
        obtain ⟨e8, fs9, hb9⟩ := xo_inv e9
        obtain ⟨q_16, e9, h⟩ := Option.bind_eq_some_iff.mp h
        refine x_callP (va_runV (As := [.int (x1 - (1 : Int32))]) (rest := [.int v_15, va_rf v_12]) C0 (c_Face_bestShift l G w_10 _ b_17 (x1 - (1 : Int32)) q_16 e9) (x_cwV 1 C0 kw_2_178 kw_2_181 kw_1_11 kw_2_179 kw_2_180 (by decide +kernel) (x_rm hR1 hR2 (by decide) (by decide))) (x_preV hE hH hS (ci := 3) rfl hb9) rfl rfl hl.1 (by rw [e8]; rfl) (lv_room (by simp only [List.map_cons, List.map_nil, List.sum_cons, List.sum_nil, va_rf_cat, x_catI, x_catL, x_catA] <;> decide)) d_Face_layOut_119 (x_le0 hR3 hR4)) ?_
        refine lv_iadd C0.1 C0.2.1 d_Face_layOut_122 ?_
        refine x_put C0 hE hH hS (ci := 2) rfl i_Piece t_Piece t_Piece_ok n_Piece 4 (by decide) kw_2_115 rfl rfl rfl d_Face_layOut_123 h (fun w_18 H locs hH hS hz9 h => ?_)
        have hz := hz9.trans hz
        refine x_iinc (v := 1) (lv' := [(1, .inl (x1 + 1)), (0, .inr (.inl (some h0)))]) C0 hl 1 d_Face_layOut_126 rfl (by decide) (by decide) rfl (fun ls hl => ?_)
        refine x_goto C0 2 d_Face_layOut_129 (by decide) ?_
        exact ih _ _ _ _ q ls hH hS hz (x_sub hl [1, 0] rfl) h K
      · refine x_aload_n C0 hl 0 d_Face_layOut_19 rfl rfl ?_
        refine x_getR C0 hE hH (ci := 3) rfl i_Face 1 (by decide) kw_2_130 d_Face_layOut_20 h (fun v_19 h => ?_)
        refine x_iload_n C0 hl 1 d_Face_layOut_23 rfl rfl ?_
        refine x_aald C0 hE hH (t := 3) rfl d_Face_layOut_24 h (fun v_20 h => ?_)
        refine x_iload_n C0 hl 1 d_Face_layOut_25 rfl rfl ?_
        refine lv_iconst (v := 2) C0.1 C0.2.1 d_Face_layOut_26 (by decide) ?_
        refine lv_irem C0.1 C0.2.1 d_Face_layOut_27 (by decide) ?_
        refine lv_iconst (v := 1) C0.1 C0.2.1 d_Face_layOut_28 (by decide) ?_
        refine xj1 h (fun J_22 eJ_22 h => ?_)
        have kJ_22 : ∀ (x_21 : Int32) (ls : Array Slot), xL ls 2 [(0, .inr (.inl (some h0))), (1, .inl x1)] → J_22 x_21 = some q → W p l e R s m args below meth c H locs cells slots Q (F0 m 45 ls [.int x_21, va_rf v_20]) := by
          intro x_21 ls hl h
          rw [eJ_22] at h
          refine x_put C0 hE hH hS (ci := 2) rfl i_Piece t_Piece t_Piece_ok n_Piece 3 (by decide) kw_2_112 rfl rfl rfl d_Face_layOut_45 h (fun w_23 H locs hH hS hz9 h => ?_)
          have hz := hz9.trans hz
          refine x_aload_n C0 hl 0 d_Face_layOut_48 rfl rfl ?_
          refine x_getR C0 hE hH (ci := 3) rfl i_Face 1 (by decide) kw_2_130 d_Face_layOut_49 h (fun v_24 h => ?_)
          refine x_iload_n C0 hl 1 d_Face_layOut_52 rfl rfl ?_
          refine x_aald C0 hE hH (t := 3) rfl d_Face_layOut_53 h (fun v_25 h => ?_)
          refine x_iload_n C0 hl 1 d_Face_layOut_54 rfl rfl ?_
          refine lv_iconst (v := 2) C0.1 C0.2.1 d_Face_layOut_55 (by decide) ?_
          refine x_icmp_lt C0 71 d_Face_layOut_56 (by decide) h (fun h => ?_) (fun h => ?_)
          · refine lv_iconst (v := 0) C0.1 C0.2.1 d_Face_layOut_71 (by decide) ?_
            refine x_put C0 hE hH hS (ci := 2) rfl i_Piece t_Piece t_Piece_ok n_Piece 4 (by decide) kw_2_115 rfl rfl rfl d_Face_layOut_72 h (fun w_26 H locs hH hS hz9 h => ?_)
            have hz := hz9.trans hz
            refine x_goto C0 126 d_Face_layOut_75 (by decide) ?_
            refine x_iinc (v := 1) (lv' := [(1, .inl (x1 + 1)), (0, .inr (.inl (some h0)))]) C0 hl 1 d_Face_layOut_126 rfl (by decide) (by decide) rfl (fun ls hl => ?_)
            refine x_goto C0 2 d_Face_layOut_129 (by decide) ?_
            exact ih _ _ _ _ q ls hH hS hz (x_sub hl [1, 0] rfl) h K
          · refine x_aload_n C0 hl 0 d_Face_layOut_59 rfl rfl ?_
            refine x_getR C0 hE hH (ci := 3) rfl i_Face 1 (by decide) kw_2_130 d_Face_layOut_60 h (fun v_27 h => ?_)
            refine lv_iconst (v := 0) C0.1 C0.2.1 d_Face_layOut_63 (by decide) ?_
            refine x_aald C0 hE hH (t := 3) rfl d_Face_layOut_64 h (fun v_28 h => ?_)
            obtain ⟨b_30, e9, h⟩ := Option.bind_eq_some_iff.mp h
            obtain ⟨e8, fs9, hb9⟩ := xo_inv e9
            obtain ⟨q_29, e9, h⟩ := Option.bind_eq_some_iff.mp h
            refine x_callP (va_runV (As := []) (rest := [va_rf v_25]) C0 (c_Piece_bottom l G w_23 _ b_30 q_29 e9) (x_cwV 0 C0 kw_2_174 kw_2_177 kw_1_12 kw_2_175 kw_2_176 (by decide +kernel) (x_rm hR1 hR2 (by decide) (by decide))) (x_preV hE hH hS (ci := 2) rfl hb9) rfl rfl hl.1 (by rw [e8]; rfl) (lv_room (by simp only [List.map_cons, List.map_nil, List.sum_cons, List.sum_nil, va_rf_cat, x_catI, x_catL, x_catA] <;> decide)) d_Face_layOut_65 (x_le0 hR3 hR4)) ?_
            refine x_goto C0 72 d_Face_layOut_68 (by decide) ?_
            refine x_put C0 hE hH hS (ci := 2) rfl i_Piece t_Piece t_Piece_ok n_Piece 4 (by decide) kw_2_115 rfl rfl rfl d_Face_layOut_72 h (fun w_31 H locs hH hS hz9 h => ?_)
            have hz := hz9.trans hz
            refine x_goto C0 126 d_Face_layOut_75 (by decide) ?_
            refine x_iinc (v := 1) (lv' := [(1, .inl (x1 + 1)), (0, .inr (.inl (some h0)))]) C0 hl 1 d_Face_layOut_126 rfl (by decide) (by decide) rfl (fun ls hl => ?_)
            refine x_goto C0 2 d_Face_layOut_129 (by decide) ?_
            exact ih _ _ _ _ q ls hH hS hz (x_sub hl [1, 0] rfl) h K
        refine x_icmp_ne C0 44 d_Face_layOut_29 (by decide) h (fun h => ?_) (fun h => ?_)
        · refine lv_iconst (v := 0) C0.1 C0.2.1 d_Face_layOut_44 (by decide) ?_
          exact kJ_22 _ ls (x_sub hl [0, 1] rfl) h
        · refine x_aload_n C0 hl 0 d_Face_layOut_32 rfl rfl ?_
          refine x_getR C0 hE hH (ci := 3) rfl i_Face 1 (by decide) kw_2_130 d_Face_layOut_33 h (fun v_32 h => ?_)
          refine lv_iconst (v := 0) C0.1 C0.2.1 d_Face_layOut_36 (by decide) ?_
          refine x_aald C0 hE hH (t := 3) rfl d_Face_layOut_37 h (fun v_33 h => ?_)
          obtain ⟨b_35, e9, h⟩ := Option.bind_eq_some_iff.mp h
          obtain ⟨e8, fs9, hb9⟩ := xo_inv e9
          obtain ⟨q_34, e9, h⟩ := Option.bind_eq_some_iff.mp h
          refine x_callP (va_runV (As := []) (rest := [va_rf v_20]) C0 (c_Piece_end l G w _ b_35 q_34 e9) (x_cwV 0 C0 kw_2_170 kw_2_173 kw_1_12 kw_2_171 kw_2_172 (by decide +kernel) (x_rm hR1 hR2 (by decide) (by decide))) (x_preV hE hH hS (ci := 2) rfl hb9) rfl rfl hl.1 (by rw [e8]; rfl) (lv_room (by simp only [List.map_cons, List.map_nil, List.sum_cons, List.sum_nil, va_rf_cat, x_catI, x_catL, x_catA] <;> decide)) d_Face_layOut_38 (x_le0 hR3 hR4)) ?_
          refine x_goto C0 45 d_Face_layOut_41 (by decide) ?_
          exact kJ_22 _ ls (x_sub hl [0, 1] rfl) h
def f_Face_layOut (w : Mp) (h0 : Nat) : Option (Unit × Mp) := (f_Face_layOut_L2 h0 100000 (1 : Int32) w).bind fun q_36 => some ((), q_36.2.2)
set_option maxHeartbeats 4000000 in
set_option maxRecDepth 100000 in
theorem c_Face_layOut (l : Launch) (G : Gx) (w : Mp) (sz : Nat) (h0 : Nat) (res : Unit × Mp) (hf : f_Face_layOut w h0 = some res) : Met l y_Face_layOut (xws y_Face_layOut b_Face_layOut 2 none) { frames := 5, cells := 0, slots := 0, locals := 122 } (xPc G vwCl xaty w sz [va_rf (some h0)]) (xQ G vwCl (none) res.2 sz) 0 0 (xA G) := by
  refine Met.ofW (cc := b_Face_layOut) (maxL := 2) (ret := none) (by decide) rfl ?_
  intro p e s m args below meth c s₁ B hml hv
  obtain ⟨ha, hE, hH, hz⟩ := hv
  have C0 : CallFix p m c b_Face_layOut 2 s args wA R_Face := ⟨B.exec, B.bytes, hml, findClass_of_methodNamed B.named, fun w hw => atoms_spec (ws := xws y_Face_layOut b_Face_layOut 2 none) B.pre w (List.mem_cons_of_mem _ hw)⟩
  have hr := B.returns
  have hlocks := B.notSynchronized
  obtain ⟨R, hR⟩ : ∃ R, R = (headSpec (xws y_Face_layOut b_Face_layOut 2 none) { frames := 5, cells := 0, slots := 0, locals := 122 }).room := ⟨_, rfl⟩
  have hR1 : 5 ≤ R.frames := by rw [hR]; exact Nat.le_of_ble_eq_true rfl
  have hR2 : 122 ≤ R.locals := by rw [hR]; exact Nat.le_of_ble_eq_true rfl
  have hR3 : 0 ≤ R.cells := Nat.zero_le _
  have hR4 : 0 ≤ R.slots := Nat.zero_le _
  rw [← hR]
  obtain ⟨Q, hQ⟩ : ∃ Q, Q = MQ below (xQ G vwCl (none) res.2 sz) args s 0 0 (xA G) := ⟨_, rfl⟩
  rw [← hQ]
  have hS : xS G s s.heap [] := va_S.rf
  obtain ⟨ls, he, hl⟩ := x_entry m [.inr (.inl (some h0))] 2 (Nat.le_of_ble_eq_true rfl)
  rw [show entryFrame m args 2 = F0 m 0 ls [] by rw [ha]; exact he]
  have hl : xL ls 2 [(0, .inr (.inl (some h0)))] := hl
  have h := hf
  unfold f_Face_layOut at h
  suffices hmain : ∀ (H : Heap) (locs : List Loc), xhd G vwCl w H → xS G s H locs → H.size = sz → (H = s.heap ∧ locs = []) → W p l e R s m args below meth c H locs 0 0 Q (F0 m 0 ls []) from hmain _ _ hH hS hz ⟨rfl, rfl⟩
  clear hH hS hz
  intro H locs hH hS hz hP0
  refine lv_iconst (v := 1) C0.1 C0.2.1 d_Face_layOut_0 (by decide) ?_
  refine x_istore_n (lv' := [(1, .inl (1 : Int32)), (0, .inr (.inl (some h0)))]) C0 hl d_Face_layOut_1 rfl (by decide) rfl (fun ls hl => ?_)
  obtain ⟨q_36, e9, h⟩ := Option.bind_eq_some_iff.mp h
  refine w_Face_layOut_L2 C0 hE hR1 hR2 hR3 hR4 100000 _ _ _ _ q_36 ls hH hS hz (x_sub hl [1, 0] rfl) e9 (fun H locs ls hH hS hz hl => ?_)
  cases h
  rw [hQ]
  exact x_vret C0 hr hlocks hH hS hz d_Face_layOut_132
theorem d_Leaf_paint_0 : decode b_Leaf_paint 0 = .ok (.iload_n 2, 1) := by decide +kernel
theorem d_Leaf_paint_1 : decode b_Leaf_paint 1 = .ok (.aload_n 0, 1) := by decide +kernel
theorem d_Leaf_paint_2 : decode b_Leaf_paint 2 = .ok (.getfield 28, 3) := by decide +kernel
theorem d_Leaf_paint_5 : decode b_Leaf_paint 5 = .ok (.imul, 1) := by decide +kernel
theorem d_Leaf_paint_6 : decode b_Leaf_paint 6 = .ok (.iload_n 1, 1) := by decide +kernel
theorem d_Leaf_paint_7 : decode b_Leaf_paint 7 = .ok (.iadd, 1) := by decide +kernel
theorem d_Leaf_paint_8 : decode b_Leaf_paint 8 = .ok (.istore 4, 2) := by decide +kernel
theorem d_Leaf_paint_10 : decode b_Leaf_paint 10 = .ok (.aload_n 0, 1) := by decide +kernel
theorem d_Leaf_paint_11 : decode b_Leaf_paint 11 = .ok (.getfield 34, 3) := by decide +kernel
theorem d_Leaf_paint_14 : decode b_Leaf_paint 14 = .ok (.iload 4, 2) := by decide +kernel
theorem d_Leaf_paint_16 : decode b_Leaf_paint 16 = .ok (.iaload, 1) := by decide +kernel
theorem d_Leaf_paint_17 : decode b_Leaf_paint 17 = .ok (.iload_n 3, 1) := by decide +kernel
theorem d_Leaf_paint_18 : decode b_Leaf_paint 18 = .ok (.if_icmp .eq 7, 3) := by decide +kernel
theorem d_Leaf_paint_21 : decode b_Leaf_paint 21 = .ok (.iconst 1, 1) := by decide +kernel
theorem d_Leaf_paint_22 : decode b_Leaf_paint 22 = .ok (.goto 4, 3) := by decide +kernel
theorem d_Leaf_paint_25 : decode b_Leaf_paint 25 = .ok (.iconst 0, 1) := by decide +kernel
theorem d_Leaf_paint_26 : decode b_Leaf_paint 26 = .ok (.istore 5, 2) := by decide +kernel
theorem d_Leaf_paint_28 : decode b_Leaf_paint 28 = .ok (.aload_n 0, 1) := by decide +kernel
theorem d_Leaf_paint_29 : decode b_Leaf_paint 29 = .ok (.getfield 34, 3) := by decide +kernel
theorem d_Leaf_paint_32 : decode b_Leaf_paint 32 = .ok (.iload 4, 2) := by decide +kernel
theorem d_Leaf_paint_34 : decode b_Leaf_paint 34 = .ok (.iload_n 3, 1) := by decide +kernel
theorem d_Leaf_paint_35 : decode b_Leaf_paint 35 = .ok (.iastore, 1) := by decide +kernel
theorem d_Leaf_paint_36 : decode b_Leaf_paint 36 = .ok (.iload 5, 2) := by decide +kernel
theorem d_Leaf_paint_38 : decode b_Leaf_paint 38 = .ok (.ireturn, 1) := by decide +kernel
def f_Leaf_paint (w : Mp) (h0 : Nat) (x1 : Int32) (x2 : Int32) (x3 : Int32) : Option (Int32 × Mp) := (gI w (some h0) 1 3).bind fun v_1 => (gR w (some h0) 1 5).bind fun v_2 => (aI w v_2 0 ((x2 * v_1) + x1)).bind fun v_3 => xJ1 (fun (x_4 : Int32) => (gR w (some h0) 1 5).bind fun v_6 => (sI w v_6 0 ((x2 * v_1) + x1) x3).bind fun w_7 => if vp_nar .boolean x_4 = x_4 then some (x_4, w_7) else none) fun J_5 => if v_3 = x3 then (J_5 (0 : Int32)) else (J_5 (1 : Int32))
set_option maxHeartbeats 4000000 in
set_option maxRecDepth 100000 in
theorem c_Leaf_paint (l : Launch) (G : Gx) (w : Mp) (sz : Nat) (h0 : Nat) (x1 : Int32) (x2 : Int32) (x3 : Int32) (res : Int32 × Mp) (hf : f_Leaf_paint w h0 x1 x2 x3 = some res) : Met l y_Leaf_paint (xws y_Leaf_paint b_Leaf_paint 6 (some .boolean)) { frames := 0, cells := 0, slots := 0, locals := 0 } (xPc G vwCl xaty w sz [va_rf (some h0), .int x1, .int x2, .int x3]) (xQ G vwCl (some (.int res.1)) res.2 sz) 0 0 (xA G) := by
  refine Met.ofW (cc := b_Leaf_paint) (maxL := 6) (ret := (some .boolean)) (by decide) rfl ?_
  intro p e s m args below meth c s₁ B hml hv
  obtain ⟨ha, hE, hH, hz⟩ := hv
  have C0 : CallFix p m c b_Leaf_paint 6 s args wA R_Leaf := ⟨B.exec, B.bytes, hml, findClass_of_methodNamed B.named, fun w hw => atoms_spec (ws := xws y_Leaf_paint b_Leaf_paint 6 (some .boolean)) B.pre w (List.mem_cons_of_mem _ hw)⟩
  have hr := B.returns
  have hlocks := B.notSynchronized
  obtain ⟨R, hR⟩ : ∃ R, R = (headSpec (xws y_Leaf_paint b_Leaf_paint 6 (some .boolean)) { frames := 0, cells := 0, slots := 0, locals := 0 }).room := ⟨_, rfl⟩
  have hR1 : 0 ≤ R.frames := by rw [hR]; exact Nat.le_of_ble_eq_true rfl
  have hR2 : 0 ≤ R.locals := by rw [hR]; exact Nat.le_of_ble_eq_true rfl
  have hR3 : 0 ≤ R.cells := Nat.zero_le _
  have hR4 : 0 ≤ R.slots := Nat.zero_le _
  rw [← hR]
  obtain ⟨Q, hQ⟩ : ∃ Q, Q = MQ below (xQ G vwCl (some (.int res.1)) res.2 sz) args s 0 0 (xA G) := ⟨_, rfl⟩
  rw [← hQ]
  have hS : xS G s s.heap [] := va_S.rf
  obtain ⟨ls, he, hl⟩ := x_entry m [.inr (.inl (some h0)), .inl x1, .inl x2, .inl x3] 6 (Nat.le_of_ble_eq_true rfl)
  rw [show entryFrame m args 6 = F0 m 0 ls [] by rw [ha]; exact he]
  have hl : xL ls 6 [(0, .inr (.inl (some h0))), (1, .inl x1), (2, .inl x2), (3, .inl x3)] := hl
  have h := hf
  unfold f_Leaf_paint at h
  suffices hmain : ∀ (H : Heap) (locs : List Loc), xhd G vwCl w H → xS G s H locs → H.size = sz → (H = s.heap ∧ locs = []) → W p l e R s m args below meth c H locs 0 0 Q (F0 m 0 ls []) from hmain _ _ hH hS hz ⟨rfl, rfl⟩
  clear hH hS hz
  intro H locs hH hS hz hP0
  refine x_iload_n C0 hl 2 d_Leaf_paint_0 rfl rfl ?_
  refine x_aload_n C0 hl 0 d_Leaf_paint_1 rfl rfl ?_
  refine x_getI C0 hE hH (ci := 1) rfl i_Leaf 3 (by decide) kw_1_216 d_Leaf_paint_2 h (fun v_1 h => ?_)
  refine lv_imul C0.1 C0.2.1 d_Leaf_paint_5 ?_
  refine x_iload_n C0 hl 1 d_Leaf_paint_6 rfl rfl ?_
  refine lv_iadd C0.1 C0.2.1 d_Leaf_paint_7 ?_
  refine x_istore (lv' := [(4, .inl ((x2 * v_1) + x1)), (0, .inr (.inl (some h0))), (1, .inl x1), (2, .inl x2), (3, .inl x3)]) C0 hl d_Leaf_paint_8 (by decide) rfl (fun ls hl => ?_)
  refine x_aload_n C0 hl 1 d_Leaf_paint_10 rfl rfl ?_
  refine x_getR C0 hE hH (ci := 1) rfl i_Leaf 5 (by decide) kw_1_223 d_Leaf_paint_11 h (fun v_2 h => ?_)
  refine x_iload C0 hl 0 d_Leaf_paint_14 rfl ?_
  refine x_iald C0 hE hH (t := 0) rfl d_Leaf_paint_16 h (fun v_3 h => ?_)
  refine x_iload_n C0 hl 4 d_Leaf_paint_17 rfl rfl ?_
  refine xj1 h (fun J_5 eJ_5 h => ?_)
  have kJ_5 : ∀ (x_4 : Int32) (ls : Array Slot), xL ls 6 [(0, .inr (.inl (some h0))), (3, .inl x3), (4, .inl ((x2 * v_1) + x1))] → J_5 x_4 = some res → W p l e R s m args below meth c H locs 0 0 Q (F0 m 26 ls [.int x_4]) := by
    intro x_4 ls hl h
    rw [eJ_5] at h
    refine x_istore (lv' := [(5, .inl x_4), (0, .inr (.inl (some h0))), (3, .inl x3), (4, .inl ((x2 * v_1) + x1))]) C0 hl d_Leaf_paint_26 (by decide) rfl (fun ls hl => ?_)
    refine x_aload_n C0 hl 1 d_Leaf_paint_28 rfl rfl ?_
    refine x_getR C0 hE hH (ci := 1) rfl i_Leaf 5 (by decide) kw_1_223 d_Leaf_paint_29 h (fun v_6 h => ?_)
    refine x_iload C0 hl 3 d_Leaf_paint_32 rfl ?_
    refine x_iload_n C0 hl 2 d_Leaf_paint_34 rfl rfl ?_
    refine x_iast C0 hE hH hS (t := 0) rfl d_Leaf_paint_35 h (fun w_7 H locs hH hS hz9 h => ?_)
    have hz := hz9.trans hz
    refine x_iload C0 hl 0 d_Leaf_paint_36 rfl ?_
    obtain ⟨hn9, h⟩ := x_ifs h
    cases h
    rw [hQ]
    exact x_zret C0 hr hlocks hH hS hz (x_nar (fun _ => ⟨_, rfl⟩) hn9) d_Leaf_paint_38
  refine x_icmp_eq C0 25 d_Leaf_paint_18 (by decide) h (fun h => ?_) (fun h => ?_)
  · refine lv_iconst (v := 0) C0.1 C0.2.1 d_Leaf_paint_25 (by decide) ?_
    exact kJ_5 _ ls (x_sub hl [1, 4, 0] rfl) h
  · refine lv_iconst (v := 1) C0.1 C0.2.1 d_Leaf_paint_21 (by decide) ?_
    refine x_goto C0 26 d_Leaf_paint_22 (by decide) ?_
    exact kJ_5 _ ls (x_sub hl [1, 4, 0] rfl) h
theorem d_Piece_init_0 : decode b_Piece_init 0 = .ok (.aload_n 0, 1) := by decide +kernel
theorem d_Piece_init_1 : decode b_Piece_init 1 = .ok (.invokespecial 1, 3) := by decide +kernel
theorem d_Piece_init_4 : decode b_Piece_init 4 = .ok (.aload_n 0, 1) := by decide +kernel
theorem d_Piece_init_5 : decode b_Piece_init 5 = .ok (.iconst 0, 1) := by decide +kernel
theorem d_Piece_init_6 : decode b_Piece_init 6 = .ok (.putfield 7, 3) := by decide +kernel
theorem d_Piece_init_9 : decode b_Piece_init 9 = .ok (.aload_n 0, 1) := by decide +kernel
theorem d_Piece_init_10 : decode b_Piece_init 10 = .ok (.iconst 0, 1) := by decide +kernel
theorem d_Piece_init_11 : decode b_Piece_init 11 = .ok (.putfield 13, 3) := by decide +kernel
theorem d_Piece_init_14 : decode b_Piece_init 14 = .ok (.aload_n 0, 1) := by decide +kernel
theorem d_Piece_init_15 : decode b_Piece_init 15 = .ok (.aload_n 1, 1) := by decide +kernel
theorem d_Piece_init_16 : decode b_Piece_init 16 = .ok (.putfield 16, 3) := by decide +kernel
theorem d_Piece_init_19 : decode b_Piece_init 19 = .ok (.aload_n 0, 1) := by decide +kernel
theorem d_Piece_init_20 : decode b_Piece_init 20 = .ok (.iload_n 2, 1) := by decide +kernel
theorem d_Piece_init_21 : decode b_Piece_init 21 = .ok (.putfield 20, 3) := by decide +kernel
theorem d_Piece_init_24 : decode b_Piece_init 24 = .ok (.aload_n 0, 1) := by decide +kernel
theorem d_Piece_init_25 : decode b_Piece_init 25 = .ok (.iload_n 3, 1) := by decide +kernel
theorem d_Piece_init_26 : decode b_Piece_init 26 = .ok (.putfield 24, 3) := by decide +kernel
theorem d_Piece_init_29 : decode b_Piece_init 29 = .ok (.return_, 1) := by decide +kernel
def f_Piece_init (w : Mp) (h0 : Nat) (r1 : Option Nat) (x2 : Int32) (x3 : Int32) : Option (Unit × Mp) := (pF w (some h0) 2 3 (.int (0 : Int32))).bind fun w_1 => (pF w_1 (some h0) 2 4 (.int (0 : Int32))).bind fun w_2 => (pF w_2 (some h0) 2 0 (va_rf r1)).bind fun w_3 => if x2 = 0 ∨ x2 = 1 then ((pF w_3 (some h0) 2 1 (.int x2)).bind fun w_4 => if x3 = 0 ∨ x3 = 1 then ((pF w_4 (some h0) 2 2 (.int x3)).bind fun w_5 => some ((), w_5)) else none) else none
set_option maxHeartbeats 4000000 in
set_option maxRecDepth 100000 in
theorem c_Piece_init (l : Launch) (G : Gx) (w : Mp) (sz : Nat) (h0 : Nat) (r1 : Option Nat) (x2 : Int32) (x3 : Int32) (res : Unit × Mp) (hf : f_Piece_init w h0 r1 x2 x3 = some res) : Met l y_Piece_init (xws y_Piece_init b_Piece_init 4 none) { frames := 1, cells := 0, slots := 0, locals := 24 } (xPc G vwCl xaty w sz [va_rf (some h0), va_rf r1, .int x2, .int x3]) (xQ G vwCl (none) res.2 sz) 0 0 (xA G) := by
  refine Met.ofW (cc := b_Piece_init) (maxL := 4) (ret := none) (by decide) rfl ?_
  intro p e s m args below meth c s₁ B hml hv
  obtain ⟨ha, hE, hH, hz⟩ := hv
  have C0 : CallFix p m c b_Piece_init 4 s args wA R_Piece := ⟨B.exec, B.bytes, hml, findClass_of_methodNamed B.named, fun w hw => atoms_spec (ws := xws y_Piece_init b_Piece_init 4 none) B.pre w (List.mem_cons_of_mem _ hw)⟩
  have hr := B.returns
  have hlocks := B.notSynchronized
  have hin : meth.name = "<init>" := (name_of_methodNamed B.named B.method).1
  obtain ⟨R, hR⟩ : ∃ R, R = (headSpec (xws y_Piece_init b_Piece_init 4 none) { frames := 1, cells := 0, slots := 0, locals := 24 }).room := ⟨_, rfl⟩
  have hR1 : 1 ≤ R.frames := by rw [hR]; exact Nat.le_of_ble_eq_true rfl
  have hR2 : 24 ≤ R.locals := by rw [hR]; exact Nat.le_of_ble_eq_true rfl
  have hR3 : 0 ≤ R.cells := Nat.zero_le _
  have hR4 : 0 ≤ R.slots := Nat.zero_le _
  rw [← hR]
  obtain ⟨Q, hQ⟩ : ∃ Q, Q = MQ below (xQ G vwCl (none) res.2 sz) args s 0 0 (xA G) := ⟨_, rfl⟩
  rw [← hQ]
  have hS : xS G s s.heap [] := va_S.rf
  obtain ⟨ls, he, hl⟩ := x_entry m [.inr (.inl (some h0)), .inr (.inl r1), .inl x2, .inl x3] 4 (Nat.le_of_ble_eq_true rfl)
  rw [show entryFrame m args 4 = F0 m 0 ls [] by rw [ha]; exact he]
  have hl : xL ls 4 [(0, .inr (.inl (some h0))), (1, .inr (.inl r1)), (2, .inl x2), (3, .inl x3)] := hl
  have h := hf
  unfold f_Piece_init at h
  suffices hmain : ∀ (H : Heap) (locs : List Loc), xhd G vwCl w H → xS G s H locs → H.size = sz → (H = s.heap ∧ locs = []) → W p l e R s m args below meth c H locs 0 0 Q (F0 m 0 ls []) from hmain _ _ hH hS hz ⟨rfl, rfl⟩
  clear hH hS hz
  intro H locs hH hS hz hP0
  refine x_aload_n C0 hl 0 d_Piece_init_0 rfl rfl ?_
  refine x_obj C0 hl kw_2_103 kw_1_30 kw_1_31 d_Piece_init_1 (Nat.le_trans (by decide) hR1) (Nat.le_trans (by simp only [List.map_cons, List.map_nil, List.sum_cons, List.sum_nil, va_rf_cat, x_catI, x_catL, x_catA] <;> decide) hR2) ?_
  refine x_aload_n C0 hl 0 d_Piece_init_4 rfl rfl ?_
  refine lv_iconst (v := 0) C0.1 C0.2.1 d_Piece_init_5 (by decide) ?_
  refine x_put C0 hE hH hS (ci := 2) rfl i_Piece t_Piece t_Piece_ok n_Piece 3 (by decide) kw_2_111 rfl rfl rfl d_Piece_init_6 h (fun w_1 H locs hH hS hz9 h => ?_)
  have hz := hz9.trans hz
  refine x_aload_n C0 hl 0 d_Piece_init_9 rfl rfl ?_
  refine lv_iconst (v := 0) C0.1 C0.2.1 d_Piece_init_10 (by decide) ?_
  refine x_put C0 hE hH hS (ci := 2) rfl i_Piece t_Piece t_Piece_ok n_Piece 4 (by decide) kw_2_114 rfl rfl rfl d_Piece_init_11 h (fun w_2 H locs hH hS hz9 h => ?_)
  have hz := hz9.trans hz
  refine x_aload_n C0 hl 0 d_Piece_init_14 rfl rfl ?_
  refine x_aload_n C0 hl 1 d_Piece_init_15 rfl rfl ?_
  refine x_putF C0 hE hH hS hin (ci := 2) rfl i_Piece t_Piece t_Piece_ok n_Piece 0 (by decide) kw_2_104 rfl rfl (x_narR _ _) (x_fitR (Or.inl ⟨_, rfl⟩) _) d_Piece_init_16 h (fun w_3 H locs hH hS hz9 h => ?_)
  have hz := hz9.trans hz
  refine x_aload_n C0 hl 0 d_Piece_init_19 rfl rfl ?_
  refine x_iload_n C0 hl 2 d_Piece_init_20 rfl rfl ?_
  obtain ⟨hn9, h⟩ := x_ifs h
  refine x_putF C0 hE hH hS hin (ci := 2) rfl i_Piece t_Piece t_Piece_ok n_Piece 1 (by decide) kw_2_107 rfl rfl (x_narZ hn9) (x_fitZ hn9) d_Piece_init_21 h (fun w_4 H locs hH hS hz9 h => ?_)
  have hz := hz9.trans hz
  refine x_aload_n C0 hl 0 d_Piece_init_24 rfl rfl ?_
  refine x_iload_n C0 hl 3 d_Piece_init_25 rfl rfl ?_
  obtain ⟨hn9, h⟩ := x_ifs h
  refine x_putF C0 hE hH hS hin (ci := 2) rfl i_Piece t_Piece t_Piece_ok n_Piece 2 (by decide) kw_2_109 rfl rfl (x_narZ hn9) (x_fitZ hn9) d_Piece_init_26 h (fun w_5 H locs hH hS hz9 h => ?_)
  have hz := hz9.trans hz
  cases h
  rw [hQ]
  exact x_vret C0 hr hlocks hH hS hz d_Piece_init_29
theorem d_Plan_forgetPlan_0 : decode b_Plan_forgetPlan 0 = .ok (.aload_n 0, 1) := by decide +kernel
theorem d_Plan_forgetPlan_1 : decode b_Plan_forgetPlan 1 = .ok (.iconst 0, 1) := by decide +kernel
theorem d_Plan_forgetPlan_2 : decode b_Plan_forgetPlan 2 = .ok (.putfield 19, 3) := by decide +kernel
theorem d_Plan_forgetPlan_5 : decode b_Plan_forgetPlan 5 = .ok (.return_, 1) := by decide +kernel
def f_Plan_forgetPlan (w : Mp) (h0 : Nat) : Option (Unit × Mp) := (pF w (some h0) 4 2 (.int (0 : Int32))).bind fun w_1 => some ((), w_1)
set_option maxHeartbeats 4000000 in
set_option maxRecDepth 100000 in
theorem c_Plan_forgetPlan (l : Launch) (G : Gx) (w : Mp) (sz : Nat) (h0 : Nat) (res : Unit × Mp) (hf : f_Plan_forgetPlan w h0 = some res) : Met l y_Plan_forgetPlan (xws y_Plan_forgetPlan b_Plan_forgetPlan 1 none) { frames := 0, cells := 0, slots := 0, locals := 0 } (xPc G vwCl xaty w sz [va_rf (some h0)]) (xQ G vwCl (none) res.2 sz) 0 0 (xA G) := by
  refine Met.ofW (cc := b_Plan_forgetPlan) (maxL := 1) (ret := none) (by decide) rfl ?_
  intro p e s m args below meth c s₁ B hml hv
  obtain ⟨ha, hE, hH, hz⟩ := hv
  have C0 : CallFix p m c b_Plan_forgetPlan 1 s args wA R_Plan := ⟨B.exec, B.bytes, hml, findClass_of_methodNamed B.named, fun w hw => atoms_spec (ws := xws y_Plan_forgetPlan b_Plan_forgetPlan 1 none) B.pre w (List.mem_cons_of_mem _ hw)⟩
  have hr := B.returns
  have hlocks := B.notSynchronized
  obtain ⟨R, hR⟩ : ∃ R, R = (headSpec (xws y_Plan_forgetPlan b_Plan_forgetPlan 1 none) { frames := 0, cells := 0, slots := 0, locals := 0 }).room := ⟨_, rfl⟩
  have hR1 : 0 ≤ R.frames := by rw [hR]; exact Nat.le_of_ble_eq_true rfl
  have hR2 : 0 ≤ R.locals := by rw [hR]; exact Nat.le_of_ble_eq_true rfl
  have hR3 : 0 ≤ R.cells := Nat.zero_le _
  have hR4 : 0 ≤ R.slots := Nat.zero_le _
  rw [← hR]
  obtain ⟨Q, hQ⟩ : ∃ Q, Q = MQ below (xQ G vwCl (none) res.2 sz) args s 0 0 (xA G) := ⟨_, rfl⟩
  rw [← hQ]
  have hS : xS G s s.heap [] := va_S.rf
  obtain ⟨ls, he, hl⟩ := x_entry m [.inr (.inl (some h0))] 1 (Nat.le_of_ble_eq_true rfl)
  rw [show entryFrame m args 1 = F0 m 0 ls [] by rw [ha]; exact he]
  have hl : xL ls 1 [(0, .inr (.inl (some h0)))] := hl
  have h := hf
  unfold f_Plan_forgetPlan at h
  suffices hmain : ∀ (H : Heap) (locs : List Loc), xhd G vwCl w H → xS G s H locs → H.size = sz → (H = s.heap ∧ locs = []) → W p l e R s m args below meth c H locs 0 0 Q (F0 m 0 ls []) from hmain _ _ hH hS hz ⟨rfl, rfl⟩
  clear hH hS hz
  intro H locs hH hS hz hP0
  refine x_aload_n C0 hl 0 d_Plan_forgetPlan_0 rfl rfl ?_
  refine lv_iconst (v := 0) C0.1 C0.2.1 d_Plan_forgetPlan_1 (by decide) ?_
  refine x_put C0 hE hH hS (ci := 4) rfl i_Plan t_Plan t_Plan_ok n_Plan 2 (by decide) kw_1_45 rfl rfl rfl d_Plan_forgetPlan_2 h (fun w_1 H locs hH hS hz9 h => ?_)
  have hz := hz9.trans hz
  cases h
  rw [hQ]
  exact x_vret C0 hr hlocks hH hS hz d_Plan_forgetPlan_5
theorem d_Plan_addWanted_0 : decode b_Plan_addWanted 0 = .ok (.aload_n 0, 1) := by decide +kernel
theorem d_Plan_addWanted_1 : decode b_Plan_addWanted 1 = .ok (.getfield 9, 3) := by decide +kernel
theorem d_Plan_addWanted_4 : decode b_Plan_addWanted 4 = .ok (.aload_n 0, 1) := by decide +kernel
theorem d_Plan_addWanted_5 : decode b_Plan_addWanted 5 = .ok (.getfield 15, 3) := by decide +kernel
theorem d_Plan_addWanted_8 : decode b_Plan_addWanted 8 = .ok (.iload_n 1, 1) := by decide +kernel
theorem d_Plan_addWanted_9 : decode b_Plan_addWanted 9 = .ok (.iastore, 1) := by decide +kernel
theorem d_Plan_addWanted_10 : decode b_Plan_addWanted 10 = .ok (.aload_n 0, 1) := by decide +kernel
theorem d_Plan_addWanted_11 : decode b_Plan_addWanted 11 = .ok (.dup, 1) := by decide +kernel
theorem d_Plan_addWanted_12 : decode b_Plan_addWanted 12 = .ok (.getfield 15, 3) := by decide +kernel
theorem d_Plan_addWanted_15 : decode b_Plan_addWanted 15 = .ok (.iconst 1, 1) := by decide +kernel
theorem d_Plan_addWanted_16 : decode b_Plan_addWanted 16 = .ok (.iadd, 1) := by decide +kernel
theorem d_Plan_addWanted_17 : decode b_Plan_addWanted 17 = .ok (.putfield 15, 3) := by decide +kernel
theorem d_Plan_addWanted_20 : decode b_Plan_addWanted 20 = .ok (.aload_n 0, 1) := by decide +kernel
theorem d_Plan_addWanted_21 : decode b_Plan_addWanted 21 = .ok (.iconst 0, 1) := by decide +kernel
theorem d_Plan_addWanted_22 : decode b_Plan_addWanted 22 = .ok (.putfield 19, 3) := by decide +kernel
theorem d_Plan_addWanted_25 : decode b_Plan_addWanted 25 = .ok (.return_, 1) := by decide +kernel
def f_Plan_addWanted (w : Mp) (h0 : Nat) (x1 : Int32) : Option (Unit × Mp) := (gR w (some h0) 4 0).bind fun v_1 => (gI w (some h0) 4 1).bind fun v_2 => (sI w v_1 0 v_2 x1).bind fun w_3 => (gI w_3 (some h0) 4 1).bind fun v_4 => (pF w_3 (some h0) 4 1 (.int (v_4 + (1 : Int32)))).bind fun w_5 => (pF w_5 (some h0) 4 2 (.int (0 : Int32))).bind fun w_6 => some ((), w_6)
set_option maxHeartbeats 4000000 in
set_option maxRecDepth 100000 in
theorem c_Plan_addWanted (l : Launch) (G : Gx) (w : Mp) (sz : Nat) (h0 : Nat) (x1 : Int32) (res : Unit × Mp) (hf : f_Plan_addWanted w h0 x1 = some res) : Met l y_Plan_addWanted (xws y_Plan_addWanted b_Plan_addWanted 2 none) { frames := 0, cells := 0, slots := 0, locals := 0 } (xPc G vwCl xaty w sz [va_rf (some h0), .int x1]) (xQ G vwCl (none) res.2 sz) 0 0 (xA G) := by
  refine Met.ofW (cc := b_Plan_addWanted) (maxL := 2) (ret := none) (by decide) rfl ?_
  intro p e s m args below meth c s₁ B hml hv
  obtain ⟨ha, hE, hH, hz⟩ := hv
  have C0 : CallFix p m c b_Plan_addWanted 2 s args wA R_Plan := ⟨B.exec, B.bytes, hml, findClass_of_methodNamed B.named, fun w hw => atoms_spec (ws := xws y_Plan_addWanted b_Plan_addWanted 2 none) B.pre w (List.mem_cons_of_mem _ hw)⟩
  have hr := B.returns
  have hlocks := B.notSynchronized
  obtain ⟨R, hR⟩ : ∃ R, R = (headSpec (xws y_Plan_addWanted b_Plan_addWanted 2 none) { frames := 0, cells := 0, slots := 0, locals := 0 }).room := ⟨_, rfl⟩
  have hR1 : 0 ≤ R.frames := by rw [hR]; exact Nat.le_of_ble_eq_true rfl
  have hR2 : 0 ≤ R.locals := by rw [hR]; exact Nat.le_of_ble_eq_true rfl
  have hR3 : 0 ≤ R.cells := Nat.zero_le _
  have hR4 : 0 ≤ R.slots := Nat.zero_le _
  rw [← hR]
  obtain ⟨Q, hQ⟩ : ∃ Q, Q = MQ below (xQ G vwCl (none) res.2 sz) args s 0 0 (xA G) := ⟨_, rfl⟩
  rw [← hQ]
  have hS : xS G s s.heap [] := va_S.rf
  obtain ⟨ls, he, hl⟩ := x_entry m [.inr (.inl (some h0)), .inl x1] 2 (Nat.le_of_ble_eq_true rfl)
  rw [show entryFrame m args 2 = F0 m 0 ls [] by rw [ha]; exact he]
  have hl : xL ls 2 [(0, .inr (.inl (some h0))), (1, .inl x1)] := hl
  have h := hf
  unfold f_Plan_addWanted at h
  suffices hmain : ∀ (H : Heap) (locs : List Loc), xhd G vwCl w H → xS G s H locs → H.size = sz → (H = s.heap ∧ locs = []) → W p l e R s m args below meth c H locs 0 0 Q (F0 m 0 ls []) from hmain _ _ hH hS hz ⟨rfl, rfl⟩
  clear hH hS hz
  intro H locs hH hS hz hP0
  refine x_aload_n C0 hl 0 d_Plan_addWanted_0 rfl rfl ?_
  refine x_getR C0 hE hH (ci := 4) rfl i_Plan 0 (by decide) kw_1_42 d_Plan_addWanted_1 h (fun v_1 h => ?_)
  refine x_aload_n C0 hl 0 d_Plan_addWanted_4 rfl rfl ?_
  refine x_getI C0 hE hH (ci := 4) rfl i_Plan 1 (by decide) kw_1_43 d_Plan_addWanted_5 h (fun v_2 h => ?_)
  refine x_iload_n C0 hl 1 d_Plan_addWanted_8 rfl rfl ?_
  refine x_iast C0 hE hH hS (t := 0) rfl d_Plan_addWanted_9 h (fun w_3 H locs hH hS hz9 h => ?_)
  have hz := hz9.trans hz
  refine x_aload_n C0 hl 0 d_Plan_addWanted_10 rfl rfl ?_
  refine lv_dup C0.1 C0.2.1 d_Plan_addWanted_11 (va_rf_cat _) ?_
  refine x_getI C0 hE hH (ci := 4) rfl i_Plan 1 (by decide) kw_1_43 d_Plan_addWanted_12 h (fun v_4 h => ?_)
  refine lv_iconst (v := 1) C0.1 C0.2.1 d_Plan_addWanted_15 (by decide) ?_
  refine lv_iadd C0.1 C0.2.1 d_Plan_addWanted_16 ?_
  refine x_put C0 hE hH hS (ci := 4) rfl i_Plan t_Plan t_Plan_ok n_Plan 1 (by decide) kw_1_43 rfl rfl rfl d_Plan_addWanted_17 h (fun w_5 H locs hH hS hz9 h => ?_)
  have hz := hz9.trans hz
  refine x_aload_n C0 hl 0 d_Plan_addWanted_20 rfl rfl ?_
  refine lv_iconst (v := 0) C0.1 C0.2.1 d_Plan_addWanted_21 (by decide) ?_
  refine x_put C0 hE hH hS (ci := 4) rfl i_Plan t_Plan t_Plan_ok n_Plan 2 (by decide) kw_1_45 rfl rfl rfl d_Plan_addWanted_22 h (fun w_6 H locs hH hS hz9 h => ?_)
  have hz := hz9.trans hz
  cases h
  rw [hQ]
  exact x_vret C0 hr hlocks hH hS hz d_Plan_addWanted_25
theorem d_Plan_findRow_0 : decode b_Plan_findRow 0 = .ok (.iload_n 3, 1) := by decide +kernel
theorem d_Plan_findRow_1 : decode b_Plan_findRow 1 = .ok (.bipush 8, 2) := by decide +kernel
theorem d_Plan_findRow_3 : decode b_Plan_findRow 3 = .ok (.imul, 1) := by decide +kernel
theorem d_Plan_findRow_4 : decode b_Plan_findRow 4 = .ok (.iload 4, 2) := by decide +kernel
theorem d_Plan_findRow_6 : decode b_Plan_findRow 6 = .ok (.iadd, 1) := by decide +kernel
theorem d_Plan_findRow_7 : decode b_Plan_findRow 7 = .ok (.istore 5, 2) := by decide +kernel
theorem d_Plan_findRow_9 : decode b_Plan_findRow 9 = .ok (.iconst 0, 1) := by decide +kernel
theorem d_Plan_findRow_10 : decode b_Plan_findRow 10 = .ok (.istore 6, 2) := by decide +kernel
theorem d_Plan_findRow_12 : decode b_Plan_findRow 12 = .ok (.aload_n 0, 1) := by decide +kernel
theorem d_Plan_findRow_13 : decode b_Plan_findRow 13 = .ok (.getfield 29, 3) := by decide +kernel
theorem d_Plan_findRow_16 : decode b_Plan_findRow 16 = .ok (.iload 5, 2) := by decide +kernel
theorem d_Plan_findRow_18 : decode b_Plan_findRow 18 = .ok (.iconst 0, 1) := by decide +kernel
theorem d_Plan_findRow_19 : decode b_Plan_findRow 19 = .ok (.iastore, 1) := by decide +kernel
theorem d_Plan_findRow_20 : decode b_Plan_findRow 20 = .ok (.iload_n 3, 1) := by decide +kernel
theorem d_Plan_findRow_21 : decode b_Plan_findRow 21 = .ok (.istore 7, 2) := by decide +kernel
theorem d_Plan_findRow_23 : decode b_Plan_findRow 23 = .ok (.iload 7, 2) := by decide +kernel
theorem d_Plan_findRow_25 : decode b_Plan_findRow 25 = .ok (.iload_n 2, 1) := by decide +kernel
theorem d_Plan_findRow_26 : decode b_Plan_findRow 26 = .ok (.if_icmp .ge 85, 3) := by decide +kernel
theorem d_Plan_findRow_29 : decode b_Plan_findRow 29 = .ok (.iload 7, 2) := by decide +kernel
theorem d_Plan_findRow_31 : decode b_Plan_findRow 31 = .ok (.iload_n 3, 1) := by decide +kernel
theorem d_Plan_findRow_32 : decode b_Plan_findRow 32 = .ok (.if_icmp .le 20, 3) := by decide +kernel
theorem d_Plan_findRow_35 : decode b_Plan_findRow 35 = .ok (.aload_n 1, 1) := by decide +kernel
theorem d_Plan_findRow_36 : decode b_Plan_findRow 36 = .ok (.iload 7, 2) := by decide +kernel
theorem d_Plan_findRow_38 : decode b_Plan_findRow 38 = .ok (.aaload, 1) := by decide +kernel
theorem d_Plan_findRow_39 : decode b_Plan_findRow 39 = .ok (.aload_n 1, 1) := by decide +kernel
theorem d_Plan_findRow_40 : decode b_Plan_findRow 40 = .ok (.iload 7, 2) := by decide +kernel
theorem d_Plan_findRow_42 : decode b_Plan_findRow 42 = .ok (.iconst 1, 1) := by decide +kernel
theorem d_Plan_findRow_43 : decode b_Plan_findRow 43 = .ok (.isub, 1) := by decide +kernel
theorem d_Plan_findRow_44 : decode b_Plan_findRow 44 = .ok (.aaload, 1) := by decide +kernel
theorem d_Plan_findRow_45 : decode b_Plan_findRow 45 = .ok (.invokevirtual 70, 3) := by decide +kernel
theorem d_Plan_findRow_48 : decode b_Plan_findRow 48 = .ok (.ifCond .ne 4, 3) := by decide +kernel
theorem d_Plan_findRow_51 : decode b_Plan_findRow 51 = .ok (.return_, 1) := by decide +kernel
theorem d_Plan_findRow_52 : decode b_Plan_findRow 52 = .ok (.iload 6, 2) := by decide +kernel
theorem d_Plan_findRow_54 : decode b_Plan_findRow 54 = .ok (.aload_n 1, 1) := by decide +kernel
theorem d_Plan_findRow_55 : decode b_Plan_findRow 55 = .ok (.iload 7, 2) := by decide +kernel
theorem d_Plan_findRow_57 : decode b_Plan_findRow 57 = .ok (.aaload, 1) := by decide +kernel
theorem d_Plan_findRow_58 : decode b_Plan_findRow 58 = .ok (.getfield 76, 3) := by decide +kernel
theorem d_Plan_findRow_61 : decode b_Plan_findRow 61 = .ok (.iadd, 1) := by decide +kernel
theorem d_Plan_findRow_62 : decode b_Plan_findRow 62 = .ok (.istore 6, 2) := by decide +kernel
theorem d_Plan_findRow_64 : decode b_Plan_findRow 64 = .ok (.iload 6, 2) := by decide +kernel
theorem d_Plan_findRow_66 : decode b_Plan_findRow 66 = .ok (.aload_n 0, 1) := by decide +kernel
theorem d_Plan_findRow_67 : decode b_Plan_findRow 67 = .ok (.getfield 9, 3) := by decide +kernel
theorem d_Plan_findRow_70 : decode b_Plan_findRow 70 = .ok (.iload 4, 2) := by decide +kernel
theorem d_Plan_findRow_72 : decode b_Plan_findRow 72 = .ok (.iaload, 1) := by decide +kernel
theorem d_Plan_findRow_73 : decode b_Plan_findRow 73 = .ok (.if_icmp .lt 32, 3) := by decide +kernel
theorem d_Plan_findRow_76 : decode b_Plan_findRow 76 = .ok (.aload_n 0, 1) := by decide +kernel
theorem d_Plan_findRow_77 : decode b_Plan_findRow 77 = .ok (.getfield 29, 3) := by decide +kernel
theorem d_Plan_findRow_80 : decode b_Plan_findRow 80 = .ok (.iload 5, 2) := by decide +kernel
theorem d_Plan_findRow_82 : decode b_Plan_findRow 82 = .ok (.iload 7, 2) := by decide +kernel
theorem d_Plan_findRow_84 : decode b_Plan_findRow 84 = .ok (.iconst 1, 1) := by decide +kernel
theorem d_Plan_findRow_85 : decode b_Plan_findRow 85 = .ok (.iadd, 1) := by decide +kernel
theorem d_Plan_findRow_86 : decode b_Plan_findRow 86 = .ok (.iastore, 1) := by decide +kernel
theorem d_Plan_findRow_87 : decode b_Plan_findRow 87 = .ok (.aload_n 0, 1) := by decide +kernel
theorem d_Plan_findRow_88 : decode b_Plan_findRow 88 = .ok (.getfield 32, 3) := by decide +kernel
theorem d_Plan_findRow_91 : decode b_Plan_findRow 91 = .ok (.iload 5, 2) := by decide +kernel
theorem d_Plan_findRow_93 : decode b_Plan_findRow 93 = .ok (.iload 6, 2) := by decide +kernel
theorem d_Plan_findRow_95 : decode b_Plan_findRow 95 = .ok (.aload_n 0, 1) := by decide +kernel
theorem d_Plan_findRow_96 : decode b_Plan_findRow 96 = .ok (.getfield 9, 3) := by decide +kernel
theorem d_Plan_findRow_99 : decode b_Plan_findRow 99 = .ok (.iload 4, 2) := by decide +kernel
theorem d_Plan_findRow_101 : decode b_Plan_findRow 101 = .ok (.iaload, 1) := by decide +kernel
theorem d_Plan_findRow_102 : decode b_Plan_findRow 102 = .ok (.isub, 1) := by decide +kernel
theorem d_Plan_findRow_103 : decode b_Plan_findRow 103 = .ok (.iastore, 1) := by decide +kernel
theorem d_Plan_findRow_104 : decode b_Plan_findRow 104 = .ok (.return_, 1) := by decide +kernel
theorem d_Plan_findRow_105 : decode b_Plan_findRow 105 = .ok (.iinc 7 1, 3) := by decide +kernel
theorem d_Plan_findRow_108 : decode b_Plan_findRow 108 = .ok (.goto (-85), 3) := by decide +kernel
theorem d_Plan_findRow_111 : decode b_Plan_findRow 111 = .ok (.return_, 1) := by decide +kernel
def f_Plan_findRow_L23 (w : Mp) (h0 : Nat) (r1 : Option Nat) (x2 : Int32) (x3 : Int32) (x4 : Int32) (x5 : Int32) : Nat → Int32 → Int32 → Option (Nat × Int32 × Int32)
  | 0, _, _ => none
  | n + 1, x6, x7 => if x2 ≤ x7 then (some (0, x6, x7)) else (xJ1 (fun (_u : Unit) => (aR w r1 1 x7).bind fun v_4 => (gI w v_4 1 3).bind fun v_5 => (gR w (some h0) 4 0).bind fun v_6 => (aI w v_6 0 x4).bind fun v_7 => if (x6 + v_5) < v_7 then (f_Plan_findRow_L23 w h0 r1 x2 x3 x4 x5 n (x6 + v_5) (x7 + 1)) else (some (2, x6 + v_5, x7))) fun J_3 => if x7 ≤ x3 then (J_3 ()) else ((aR w r1 1 x7).bind fun v_8 => (aR w r1 1 (x7 - (1 : Int32))).bind fun v_9 => (xo w v_8 1).bind fun b_11 => (f_Leaf_follows w b_11 v_9).bind fun q_10 => if q_10 = 0 then (some (1, x6, x7)) else (J_3 ())))
set_option maxHeartbeats 4000000 in
set_option maxRecDepth 100000 in
theorem w_Plan_findRow_L23 {p : Program} {l : Launch} {e : Env} {R : Room} {s : State} {m : MethodId} {args : Array Value} {below : List Frame} {meth : Method} {c : Code} {Q : State → Prop} {cells slots sz : Nat} {G : Gx} {h0 : Nat} {r1 : Option Nat} {x2 : Int32} {x3 : Int32} {x4 : Int32} {x5 : Int32} (C0 : CallFix p m c b_Plan_findRow 8 s args wA R_Plan) (hE : xE G vwCl xaty s) (hR1 : 1 ≤ R.frames) (hR2 : 21 ≤ R.locals) (hR3 : cells ≤ R.cells) (hR4 : slots ≤ R.slots) {w : Mp} {H : Heap} {locs : List Loc} (hH : xhd G vwCl w H) (hS : xS G s H locs) (hz : H.size = sz) : ∀ (n : Nat) (x6 : Int32) (x7 : Int32) (q : Nat × Int32 × Int32) (ls : Array Slot), xL ls 8 [(0, .inr (.inl (some h0))), (1, .inr (.inl r1)), (2, .inl x2), (3, .inl x3), (4, .inl x4), (5, .inl x5), (6, .inl x6), (7, .inl x7)] → f_Plan_findRow_L23 w h0 r1 x2 x3 x4 x5 n x6 x7 = some q → ((q.1 = 0 → ∀ (ls : Array Slot), xL ls 8 [(0, .inr (.inl (some h0))), (1, .inr (.inl r1)), (2, .inl x2), (3, .inl x3), (4, .inl x4), (5, .inl x5), (6, .inl q.2.1), (7, .inl q.2.2)] → W p l e R s m args below meth c H locs cells slots Q (F0 m 111 ls [])) ∧ (q.1 = 1 → ∀ (ls : Array Slot), xL ls 8 [(0, .inr (.inl (some h0))), (1, .inr (.inl r1)), (2, .inl x2), (3, .inl x3), (4, .inl x4), (5, .inl x5), (6, .inl q.2.1), (7, .inl q.2.2)] → W p l e R s m args below meth c H locs cells slots Q (F0 m 51 ls [])) ∧ (q.1 = 2 → ∀ (ls : Array Slot), xL ls 8 [(0, .inr (.inl (some h0))), (1, .inr (.inl r1)), (2, .inl x2), (3, .inl x3), (4, .inl x4), (5, .inl x5), (6, .inl q.2.1), (7, .inl q.2.2)] → W p l e R s m args below meth c H locs cells slots Q (F0 m 76 ls []))) → W p l e R s m args below meth c H locs cells slots Q (F0 m 23 ls []) := by
  intro n
  induction n with
  | zero => intro _ _ q ls hl h; cases h
  | succ n ih =>
    intro x6 x7 q ls hl h K
    rw [f_Plan_findRow_L23] at h
    refine x_iload C0 hl 7 d_Plan_findRow_23 rfl ?_
    refine x_iload_n C0 hl 2 d_Plan_findRow_25 rfl rfl ?_
    refine x_icmp_ge C0 111 d_Plan_findRow_26 (by decide) h (fun h => ?_) (fun h => ?_)
    · cases h
      exact K.1 rfl ls (x_sub hl [0, 1, 2, 3, 4, 5, 6, 7] rfl)
    · refine x_iload C0 hl 7 d_Plan_findRow_29 rfl ?_
      refine x_iload_n C0 hl 3 d_Plan_findRow_31 rfl rfl ?_
      refine xj1 h (fun J_3 eJ_3 h => ?_)
      have kJ_3 : ∀ (_u : Unit) (ls : Array Slot), xL ls 8 [(0, .inr (.inl (some h0))), (1, .inr (.inl r1)), (2, .inl x2), (3, .inl x3), (4, .inl x4), (5, .inl x5), (6, .inl x6), (7, .inl x7)] → J_3 _u = some q → W p l e R s m args below meth c H locs cells slots Q (F0 m 52 ls []) := by
        intro _u ls hl h
        rw [eJ_3] at h
        refine x_iload C0 hl 6 d_Plan_findRow_52 rfl ?_
        refine x_aload_n C0 hl 1 d_Plan_findRow_54 rfl rfl ?_
        refine x_iload C0 hl 7 d_Plan_findRow_55 rfl ?_
        refine x_aald C0 hE hH (t := 1) rfl d_Plan_findRow_57 h (fun v_4 h => ?_)
        refine x_getI C0 hE hH (ci := 1) rfl i_Leaf 3 (by decide) kw_1_219 d_Plan_findRow_58 h (fun v_5 h => ?_)
        refine lv_iadd C0.1 C0.2.1 d_Plan_findRow_61 ?_
        refine x_istore (lv' := [(6, .inl (x6 + v_5)), (0, .inr (.inl (some h0))), (1, .inr (.inl r1)), (2, .inl x2), (3, .inl x3), (4, .inl x4), (5, .inl x5), (7, .inl x7)]) C0 hl d_Plan_findRow_62 (by decide) rfl (fun ls hl => ?_)
        refine x_iload C0 hl 0 d_Plan_findRow_64 rfl ?_
        refine x_aload_n C0 hl 1 d_Plan_findRow_66 rfl rfl ?_
        refine x_getR C0 hE hH (ci := 4) rfl i_Plan 0 (by decide) kw_1_42 d_Plan_findRow_67 h (fun v_6 h => ?_)
        refine x_iload C0 hl 5 d_Plan_findRow_70 rfl ?_
        refine x_iald C0 hE hH (t := 0) rfl d_Plan_findRow_72 h (fun v_7 h => ?_)
        refine x_icmp_lt C0 105 d_Plan_findRow_73 (by decide) h (fun h => ?_) (fun h => ?_)
        · refine x_iinc (v := 1) (lv' := [(7, .inl (x7 + 1)), (6, .inl (x6 + v_5)), (0, .inr (.inl (some h0))), (1, .inr (.inl r1)), (2, .inl x2), (3, .inl x3), (4, .inl x4), (5, .inl x5)]) C0 hl 7 d_Plan_findRow_105 rfl (by decide) (by decide) rfl (fun ls hl => ?_)
          refine x_goto C0 23 d_Plan_findRow_108 (by decide) ?_
          exact ih _ _ q ls (x_sub hl [2, 3, 4, 5, 6, 7, 1, 0] rfl) h K
        · cases h
          exact K.2.2 rfl ls (x_sub hl [1, 2, 3, 4, 5, 6, 0, 7] rfl)
      refine x_icmp_le C0 52 d_Plan_findRow_32 (by decide) h (fun h => ?_) (fun h => ?_)
      · exact kJ_3 _ ls (x_sub hl [0, 1, 2, 3, 4, 5, 6, 7] rfl) h
      · refine x_aload_n C0 hl 1 d_Plan_findRow_35 rfl rfl ?_
        refine x_iload C0 hl 7 d_Plan_findRow_36 rfl ?_
        refine x_aald C0 hE hH (t := 1) rfl d_Plan_findRow_38 h (fun v_8 h => ?_)
        refine x_aload_n C0 hl 1 d_Plan_findRow_39 rfl rfl ?_
        refine x_iload C0 hl 7 d_Plan_findRow_40 rfl ?_
        refine lv_iconst (v := 1) C0.1 C0.2.1 d_Plan_findRow_42 (by decide) ?_
        refine lv_isub C0.1 C0.2.1 d_Plan_findRow_43 ?_
        refine x_aald C0 hE hH (t := 1) rfl d_Plan_findRow_44 h (fun v_9 h => ?_)
        obtain ⟨b_11, e9, h⟩ := Option.bind_eq_some_iff.mp h
        obtain ⟨e8, fs9, hb9⟩ := xo_inv e9
        obtain ⟨q_10, e9, h⟩ := Option.bind_eq_some_iff.mp h
        refine x_callP (va_runV (As := [va_rf v_9]) (rest := []) C0 (c_Leaf_follows l G w _ b_11 v_9 q_10 e9) (x_cwV 1 C0 kw_4_44 kw_2_91 kw_1_9 kw_2_89 kw_2_90 (by decide +kernel) (x_rm hR1 hR2 (by decide) (by decide))) (x_preV hE hH hS (ci := 1) rfl hb9) rfl rfl hl.1 (by rw [e8]; rfl) (lv_room (by simp only [List.map_cons, List.map_nil, List.sum_cons, List.sum_nil, va_rf_cat, x_catI, x_catL, x_catA] <;> decide)) d_Plan_findRow_45 (x_le0 hR3 hR4)) ?_
        refine x_if_ne C0 52 d_Plan_findRow_48 (by decide) h (fun h => ?_) (fun h => ?_)
        · exact kJ_3 _ ls (x_sub hl [0, 1, 2, 3, 4, 5, 6, 7] rfl) h
        · cases h
          exact K.2.1 rfl ls (x_sub hl [0, 1, 2, 3, 4, 5, 6, 7] rfl)
def f_Plan_findRow (w : Mp) (h0 : Nat) (r1 : Option Nat) (x2 : Int32) (x3 : Int32) (x4 : Int32) : Option (Unit × Mp) := (gR w (some h0) 4 5).bind fun v_1 => (sI w v_1 0 ((x3 * (8 : Int32)) + x4) (0 : Int32)).bind fun w_2 => (f_Plan_findRow_L23 w_2 h0 r1 x2 x3 x4 ((x3 * (8 : Int32)) + x4) 100000 (0 : Int32) x3).bind fun q_12 => if q_12.1 = 0 then (some ((), w_2)) else (if q_12.1 = 1 then (some ((), w_2)) else (if q_12.1 = 2 then ((gR w_2 (some h0) 4 5).bind fun v_13 => (sI w_2 v_13 0 ((x3 * (8 : Int32)) + x4) (q_12.2.2 + (1 : Int32))).bind fun w_14 => (gR w_14 (some h0) 4 6).bind fun v_15 => (gR w_14 (some h0) 4 0).bind fun v_16 => (aI w_14 v_16 0 x4).bind fun v_17 => (sI w_14 v_15 0 ((x3 * (8 : Int32)) + x4) (q_12.2.1 - v_17)).bind fun w_18 => some ((), w_18)) else (none)))
set_option maxHeartbeats 4000000 in
set_option maxRecDepth 100000 in
theorem c_Plan_findRow (l : Launch) (G : Gx) (w : Mp) (sz : Nat) (h0 : Nat) (r1 : Option Nat) (x2 : Int32) (x3 : Int32) (x4 : Int32) (res : Unit × Mp) (hf : f_Plan_findRow w h0 r1 x2 x3 x4 = some res) : Met l y_Plan_findRow (xws y_Plan_findRow b_Plan_findRow 8 none) { frames := 1, cells := 0, slots := 0, locals := 21 } (xPc G vwCl xaty w sz [va_rf (some h0), va_rf r1, .int x2, .int x3, .int x4]) (xQ G vwCl (none) res.2 sz) 0 0 (xA G) := by
  refine Met.ofW (cc := b_Plan_findRow) (maxL := 8) (ret := none) (by decide) rfl ?_
  intro p e s m args below meth c s₁ B hml hv
  obtain ⟨ha, hE, hH, hz⟩ := hv
  have C0 : CallFix p m c b_Plan_findRow 8 s args wA R_Plan := ⟨B.exec, B.bytes, hml, findClass_of_methodNamed B.named, fun w hw => atoms_spec (ws := xws y_Plan_findRow b_Plan_findRow 8 none) B.pre w (List.mem_cons_of_mem _ hw)⟩
  have hr := B.returns
  have hlocks := B.notSynchronized
  obtain ⟨R, hR⟩ : ∃ R, R = (headSpec (xws y_Plan_findRow b_Plan_findRow 8 none) { frames := 1, cells := 0, slots := 0, locals := 21 }).room := ⟨_, rfl⟩
  have hR1 : 1 ≤ R.frames := by rw [hR]; exact Nat.le_of_ble_eq_true rfl
  have hR2 : 21 ≤ R.locals := by rw [hR]; exact Nat.le_of_ble_eq_true rfl
  have hR3 : 0 ≤ R.cells := Nat.zero_le _
  have hR4 : 0 ≤ R.slots := Nat.zero_le _
  rw [← hR]
  obtain ⟨Q, hQ⟩ : ∃ Q, Q = MQ below (xQ G vwCl (none) res.2 sz) args s 0 0 (xA G) := ⟨_, rfl⟩
  rw [← hQ]
  have hS : xS G s s.heap [] := va_S.rf
  obtain ⟨ls, he, hl⟩ := x_entry m [.inr (.inl (some h0)), .inr (.inl r1), .inl x2, .inl x3, .inl x4] 8 (Nat.le_of_ble_eq_true rfl)
  rw [show entryFrame m args 8 = F0 m 0 ls [] by rw [ha]; exact he]
  have hl : xL ls 8 [(0, .inr (.inl (some h0))), (1, .inr (.inl r1)), (2, .inl x2), (3, .inl x3), (4, .inl x4)] := hl
  have h := hf
  unfold f_Plan_findRow at h
  suffices hmain : ∀ (H : Heap) (locs : List Loc), xhd G vwCl w H → xS G s H locs → H.size = sz → (H = s.heap ∧ locs = []) → W p l e R s m args below meth c H locs 0 0 Q (F0 m 0 ls []) from hmain _ _ hH hS hz ⟨rfl, rfl⟩
  clear hH hS hz
  intro H locs hH hS hz hP0
  refine x_iload_n C0 hl 3 d_Plan_findRow_0 rfl rfl ?_
  refine lv_bipush (v := 8) C0.1 C0.2.1 d_Plan_findRow_1 (by decide) ?_
  refine lv_imul C0.1 C0.2.1 d_Plan_findRow_3 ?_
  refine x_iload C0 hl 4 d_Plan_findRow_4 rfl ?_
  refine lv_iadd C0.1 C0.2.1 d_Plan_findRow_6 ?_
  refine x_istore (lv' := [(5, .inl ((x3 * (8 : Int32)) + x4)), (0, .inr (.inl (some h0))), (1, .inr (.inl r1)), (2, .inl x2), (3, .inl x3), (4, .inl x4)]) C0 hl d_Plan_findRow_7 (by decide) rfl (fun ls hl => ?_)
  refine lv_iconst (v := 0) C0.1 C0.2.1 d_Plan_findRow_9 (by decide) ?_
  refine x_istore (lv' := [(6, .inl (0 : Int32)), (5, .inl ((x3 * (8 : Int32)) + x4)), (0, .inr (.inl (some h0))), (1, .inr (.inl r1)), (2, .inl x2), (3, .inl x3), (4, .inl x4)]) C0 hl d_Plan_findRow_10 (by decide) rfl (fun ls hl => ?_)
  refine x_aload_n C0 hl 2 d_Plan_findRow_12 rfl rfl ?_
  refine x_getR C0 hE hH (ci := 4) rfl i_Plan 5 (by decide) kw_1_51 d_Plan_findRow_13 h (fun v_1 h => ?_)
  refine x_iload C0 hl 1 d_Plan_findRow_16 rfl ?_
  refine lv_iconst (v := 0) C0.1 C0.2.1 d_Plan_findRow_18 (by decide) ?_
  refine x_iast C0 hE hH hS (t := 0) rfl d_Plan_findRow_19 h (fun w_2 H locs hH hS hz9 h => ?_)
  have hz := hz9.trans hz
  refine x_iload_n C0 hl 5 d_Plan_findRow_20 rfl rfl ?_
  refine x_istore (lv' := [(7, .inl x3), (6, .inl (0 : Int32)), (5, .inl ((x3 * (8 : Int32)) + x4)), (0, .inr (.inl (some h0))), (1, .inr (.inl r1)), (2, .inl x2), (3, .inl x3), (4, .inl x4)]) C0 hl d_Plan_findRow_21 (by decide) rfl (fun ls hl => ?_)
  obtain ⟨q_12, e9, h⟩ := Option.bind_eq_some_iff.mp h
  refine w_Plan_findRow_L23 C0 hE hR1 hR2 hR3 hR4 hH hS hz 100000 _ _ q_12 ls (x_sub hl [3, 4, 5, 6, 7, 2, 1, 0] rfl) e9 ⟨fun z9 ls hl => ?_, fun z9 ls hl => ?_, fun z9 ls hl => ?_⟩
  · rw [if_pos z9] at h
    cases h
    rw [hQ]
    exact x_vret C0 hr hlocks hH hS hz d_Plan_findRow_111
  · rw [if_neg (by rw [z9]; decide), if_pos z9] at h
    cases h
    rw [hQ]
    exact x_vret C0 hr hlocks hH hS hz d_Plan_findRow_51
  · rw [if_neg (by rw [z9]; decide), if_neg (by rw [z9]; decide), if_pos z9] at h
    refine x_aload_n C0 hl 0 d_Plan_findRow_76 rfl rfl ?_
    refine x_getR C0 hE hH (ci := 4) rfl i_Plan 5 (by decide) kw_1_51 d_Plan_findRow_77 h (fun v_13 h => ?_)
    refine x_iload C0 hl 5 d_Plan_findRow_80 rfl ?_
    refine x_iload C0 hl 7 d_Plan_findRow_82 rfl ?_
    refine lv_iconst (v := 1) C0.1 C0.2.1 d_Plan_findRow_84 (by decide) ?_
    refine lv_iadd C0.1 C0.2.1 d_Plan_findRow_85 ?_
    refine x_iast C0 hE hH hS (t := 0) rfl d_Plan_findRow_86 h (fun w_14 H locs hH hS hz9 h => ?_)
    have hz := hz9.trans hz
    refine x_aload_n C0 hl 0 d_Plan_findRow_87 rfl rfl ?_
    refine x_getR C0 hE hH (ci := 4) rfl i_Plan 6 (by decide) kw_1_52 d_Plan_findRow_88 h (fun v_15 h => ?_)
    refine x_iload C0 hl 5 d_Plan_findRow_91 rfl ?_
    refine x_iload C0 hl 6 d_Plan_findRow_93 rfl ?_
    refine x_aload_n C0 hl 0 d_Plan_findRow_95 rfl rfl ?_
    refine x_getR C0 hE hH (ci := 4) rfl i_Plan 0 (by decide) kw_1_42 d_Plan_findRow_96 h (fun v_16 h => ?_)
    refine x_iload C0 hl 4 d_Plan_findRow_99 rfl ?_
    refine x_iald C0 hE hH (t := 0) rfl d_Plan_findRow_101 h (fun v_17 h => ?_)
    refine lv_isub C0.1 C0.2.1 d_Plan_findRow_102 ?_
    refine x_iast C0 hE hH hS (t := 0) rfl d_Plan_findRow_103 h (fun w_18 H locs hH hS hz9 h => ?_)
    have hz := hz9.trans hz
    cases h
    rw [hQ]
    exact x_vret C0 hr hlocks hH hS hz d_Plan_findRow_104
theorem d_Plan_findRows_0 : decode b_Plan_findRows 0 = .ok (.iconst 0, 1) := by decide +kernel
theorem d_Plan_findRows_1 : decode b_Plan_findRows 1 = .ok (.istore_n 3, 1) := by decide +kernel
theorem d_Plan_findRows_2 : decode b_Plan_findRows 2 = .ok (.iload_n 3, 1) := by decide +kernel
theorem d_Plan_findRows_3 : decode b_Plan_findRows 3 = .ok (.iload_n 2, 1) := by decide +kernel
theorem d_Plan_findRows_4 : decode b_Plan_findRows 4 = .ok (.if_icmp .ge 36, 3) := by decide +kernel
theorem d_Plan_findRows_7 : decode b_Plan_findRows 7 = .ok (.iconst 0, 1) := by decide +kernel
theorem d_Plan_findRows_8 : decode b_Plan_findRows 8 = .ok (.istore 4, 2) := by decide +kernel
theorem d_Plan_findRows_10 : decode b_Plan_findRows 10 = .ok (.iload 4, 2) := by decide +kernel
theorem d_Plan_findRows_12 : decode b_Plan_findRows 12 = .ok (.aload_n 0, 1) := by decide +kernel
theorem d_Plan_findRows_13 : decode b_Plan_findRows 13 = .ok (.getfield 15, 3) := by decide +kernel
theorem d_Plan_findRows_16 : decode b_Plan_findRows 16 = .ok (.if_icmp .ge 18, 3) := by decide +kernel
theorem d_Plan_findRows_19 : decode b_Plan_findRows 19 = .ok (.aload_n 0, 1) := by decide +kernel
theorem d_Plan_findRows_20 : decode b_Plan_findRows 20 = .ok (.aload_n 1, 1) := by decide +kernel
theorem d_Plan_findRows_21 : decode b_Plan_findRows 21 = .ok (.iload_n 2, 1) := by decide +kernel
theorem d_Plan_findRows_22 : decode b_Plan_findRows 22 = .ok (.iload_n 3, 1) := by decide +kernel
theorem d_Plan_findRows_23 : decode b_Plan_findRows 23 = .ok (.iload 4, 2) := by decide +kernel
theorem d_Plan_findRows_25 : decode b_Plan_findRows 25 = .ok (.invokevirtual 66, 3) := by decide +kernel
theorem d_Plan_findRows_28 : decode b_Plan_findRows 28 = .ok (.iinc 4 1, 3) := by decide +kernel
theorem d_Plan_findRows_31 : decode b_Plan_findRows 31 = .ok (.goto (-21), 3) := by decide +kernel
theorem d_Plan_findRows_34 : decode b_Plan_findRows 34 = .ok (.iinc 3 1, 3) := by decide +kernel
theorem d_Plan_findRows_37 : decode b_Plan_findRows 37 = .ok (.goto (-35), 3) := by decide +kernel
theorem d_Plan_findRows_40 : decode b_Plan_findRows 40 = .ok (.return_, 1) := by decide +kernel
def f_Plan_findRows_L10 (h0 : Nat) (r1 : Option Nat) (x2 : Int32) (x3 : Int32) : Nat → Int32 → Mp → Option (Nat × Int32 × Mp)
  | 0, _, _ => none
  | n + 1, x4, w => (gI w (some h0) 4 1).bind fun v_1 => if v_1 ≤ x4 then (some (0, x4, w)) else ((xo w (some h0) 4).bind fun b_3 => (f_Plan_findRow w b_3 r1 x2 x3 x4).bind fun q_2 => f_Plan_findRows_L10 h0 r1 x2 x3 n (x4 + 1) q_2.2)
set_option maxHeartbeats 4000000 in
set_option maxRecDepth 100000 in
theorem w_Plan_findRows_L10 {p : Program} {l : Launch} {e : Env} {R : Room} {s : State} {m : MethodId} {args : Array Value} {below : List Frame} {meth : Method} {c : Code} {Q : State → Prop} {cells slots sz : Nat} {G : Gx} {h0 : Nat} {r1 : Option Nat} {x2 : Int32} {x3 : Int32} (C0 : CallFix p m c b_Plan_findRows 5 s args wA R_Plan) (hE : xE G vwCl xaty s) (hR1 : 2 ≤ R.frames) (hR2 : 48 ≤ R.locals) (hR3 : cells ≤ R.cells) (hR4 : slots ≤ R.slots) : ∀ (n : Nat) (x4 : Int32) (w : Mp) (H : Heap) (locs : List Loc) (q : Nat × Int32 × Mp) (ls : Array Slot), xhd G vwCl w H → xS G s H locs → H.size = sz → xL ls 5 [(0, .inr (.inl (some h0))), (1, .inr (.inl r1)), (2, .inl x2), (3, .inl x3), (4, .inl x4)] → f_Plan_findRows_L10 h0 r1 x2 x3 n x4 w = some q → (∀ (H : Heap) (locs : List Loc) (ls : Array Slot), xhd G vwCl q.2.2 H → xS G s H locs → H.size = sz → xL ls 5 [(0, .inr (.inl (some h0))), (1, .inr (.inl r1)), (2, .inl x2), (3, .inl x3), (4, .inl q.2.1)] → W p l e R s m args below meth c H locs cells slots Q (F0 m 34 ls [])) → W p l e R s m args below meth c H locs cells slots Q (F0 m 10 ls []) := by
  intro n
  induction n with
  | zero => intro _ _ _ _ q ls hH hS hz hl h; cases h
  | succ n ih =>
    intro x4 w H locs q ls hH hS hz hl h K
    rw [f_Plan_findRows_L10] at h
    refine x_iload C0 hl 4 d_Plan_findRows_10 rfl ?_
    refine x_aload_n C0 hl 0 d_Plan_findRows_12 rfl rfl ?_
    refine x_getI C0 hE hH (ci := 4) rfl i_Plan 1 (by decide) kw_1_43 d_Plan_findRows_13 h (fun v_1 h => ?_)
    refine x_icmp_ge C0 34 d_Plan_findRows_16 (by decide) h (fun h => ?_) (fun h => ?_)
    · cases h
      exact K _ _ ls hH hS hz (x_sub hl [0, 1, 2, 3, 4] rfl)
    · refine x_aload_n C0 hl 0 d_Plan_findRows_19 rfl rfl ?_
      refine x_aload_n C0 hl 1 d_Plan_findRows_20 rfl rfl ?_
      refine x_iload_n C0 hl 2 d_Plan_findRows_21 rfl rfl ?_
      refine x_iload_n C0 hl 3 d_Plan_findRows_22 rfl rfl ?_
      refine x_iload C0 hl 4 d_Plan_findRows_23 rfl ?_
      obtain ⟨b_3, e9, h⟩ := Option.bind_eq_some_iff.mp h
      obtain ⟨e8, fs9, hb9⟩ := xo_inv e9
      obtain ⟨q_2, e9, h⟩ := Option.bind_eq_some_iff.mp h
      refine x_call0 hS (va_runV (As := [va_rf r1, .int x2, .int x3, .int x4]) (rest := []) C0 (c_Plan_findRow l G w _ b_3 r1 x2 x3 x4 q_2 e9) (x_cwV 4 C0 kw_4_40 kw_4_43 kw_1_2 kw_4_42 kw_0_10 (by decide +kernel) (x_rm hR1 hR2 (by decide) (by decide))) (x_preV hE hH hS (ci := 4) rfl hb9) rfl rfl hl.1 (by rw [e8]; rfl) (lv_room (by simp only [List.map_cons, List.map_nil, List.sum_cons, List.sum_nil, va_rf_cat, x_catI, x_catL, x_catA] <;> decide)) d_Plan_findRows_25 (x_le0 hR3 hR4)) (fun H locs hH hS hz9 => ?_)
      have hz := hz9.trans hz
      refine x_iinc (v := 1) (lv' := [(4, .inl (x4 + 1)), (0, .inr (.inl (some h0))), (1, .inr (.inl r1)), (2, .inl x2), (3, .inl x3)]) C0 hl 4 d_Plan_findRows_28 rfl (by decide) (by decide) rfl (fun ls hl => ?_)
      refine x_goto C0 10 d_Plan_findRows_31 (by decide) ?_
      exact ih _ _ _ _ q ls hH hS hz (x_sub hl [1, 2, 3, 4, 0] rfl) h K
def f_Plan_findRows_L2 (h0 : Nat) (r1 : Option Nat) (x2 : Int32) : Nat → Int32 → Mp → Option (Nat × Int32 × Mp)
  | 0, _, _ => none
  | n + 1, x3, w => if x2 ≤ x3 then (some (0, x3, w)) else ((f_Plan_findRows_L10 h0 r1 x2 x3 100000 (0 : Int32) w).bind fun q_4 => f_Plan_findRows_L2 h0 r1 x2 n (x3 + 1) q_4.2.2)
set_option maxHeartbeats 4000000 in
set_option maxRecDepth 100000 in
theorem w_Plan_findRows_L2 {p : Program} {l : Launch} {e : Env} {R : Room} {s : State} {m : MethodId} {args : Array Value} {below : List Frame} {meth : Method} {c : Code} {Q : State → Prop} {cells slots sz : Nat} {G : Gx} {h0 : Nat} {r1 : Option Nat} {x2 : Int32} (C0 : CallFix p m c b_Plan_findRows 5 s args wA R_Plan) (hE : xE G vwCl xaty s) (hR1 : 2 ≤ R.frames) (hR2 : 48 ≤ R.locals) (hR3 : cells ≤ R.cells) (hR4 : slots ≤ R.slots) : ∀ (n : Nat) (x3 : Int32) (w : Mp) (H : Heap) (locs : List Loc) (q : Nat × Int32 × Mp) (ls : Array Slot), xhd G vwCl w H → xS G s H locs → H.size = sz → xL ls 5 [(0, .inr (.inl (some h0))), (1, .inr (.inl r1)), (2, .inl x2), (3, .inl x3)] → f_Plan_findRows_L2 h0 r1 x2 n x3 w = some q → (∀ (H : Heap) (locs : List Loc) (ls : Array Slot), xhd G vwCl q.2.2 H → xS G s H locs → H.size = sz → xL ls 5 [(0, .inr (.inl (some h0))), (1, .inr (.inl r1)), (2, .inl x2), (3, .inl q.2.1)] → W p l e R s m args below meth c H locs cells slots Q (F0 m 40 ls [])) → W p l e R s m args below meth c H locs cells slots Q (F0 m 2 ls []) := by
  intro n
  induction n with
  | zero => intro _ _ _ _ q ls hH hS hz hl h; cases h
  | succ n ih =>
    intro x3 w H locs q ls hH hS hz hl h K
    rw [f_Plan_findRows_L2] at h
    refine x_iload_n C0 hl 3 d_Plan_findRows_2 rfl rfl ?_
    refine x_iload_n C0 hl 2 d_Plan_findRows_3 rfl rfl ?_
    refine x_icmp_ge C0 40 d_Plan_findRows_4 (by decide) h (fun h => ?_) (fun h => ?_)
    · cases h
      exact K _ _ ls hH hS hz (x_sub hl [0, 1, 2, 3] rfl)
    · refine lv_iconst (v := 0) C0.1 C0.2.1 d_Plan_findRows_7 (by decide) ?_
      refine x_istore (lv' := [(4, .inl (0 : Int32)), (0, .inr (.inl (some h0))), (1, .inr (.inl r1)), (2, .inl x2), (3, .inl x3)]) C0 hl d_Plan_findRows_8 (by decide) rfl (fun ls hl => ?_)
      obtain ⟨q_4, e9, h⟩ := Option.bind_eq_some_iff.mp h
      refine w_Plan_findRows_L10 C0 hE hR1 hR2 hR3 hR4 100000 _ _ _ _ q_4 ls hH hS hz (x_sub hl [1, 2, 3, 4, 0] rfl) e9 (fun H locs ls hH hS hz hl => ?_)
      refine x_iinc (v := 1) (lv' := [(3, .inl (x3 + 1)), (0, .inr (.inl (some h0))), (1, .inr (.inl r1)), (2, .inl x2), (4, .inl q_4.2.1)]) C0 hl 3 d_Plan_findRows_34 rfl (by decide) (by decide) rfl (fun ls hl => ?_)
      refine x_goto C0 2 d_Plan_findRows_37 (by decide) ?_
      exact ih _ _ _ _ q ls hH hS hz (x_sub hl [1, 2, 3, 0] rfl) h K
def f_Plan_findRows (w : Mp) (h0 : Nat) (r1 : Option Nat) (x2 : Int32) : Option (Unit × Mp) := (f_Plan_findRows_L2 h0 r1 x2 100000 (0 : Int32) w).bind fun q_5 => some ((), q_5.2.2)
set_option maxHeartbeats 4000000 in
set_option maxRecDepth 100000 in
theorem c_Plan_findRows (l : Launch) (G : Gx) (w : Mp) (sz : Nat) (h0 : Nat) (r1 : Option Nat) (x2 : Int32) (res : Unit × Mp) (hf : f_Plan_findRows w h0 r1 x2 = some res) : Met l y_Plan_findRows (xws y_Plan_findRows b_Plan_findRows 5 none) { frames := 2, cells := 0, slots := 0, locals := 48 } (xPc G vwCl xaty w sz [va_rf (some h0), va_rf r1, .int x2]) (xQ G vwCl (none) res.2 sz) 0 0 (xA G) := by
  refine Met.ofW (cc := b_Plan_findRows) (maxL := 5) (ret := none) (by decide) rfl ?_
  intro p e s m args below meth c s₁ B hml hv
  obtain ⟨ha, hE, hH, hz⟩ := hv
  have C0 : CallFix p m c b_Plan_findRows 5 s args wA R_Plan := ⟨B.exec, B.bytes, hml, findClass_of_methodNamed B.named, fun w hw => atoms_spec (ws := xws y_Plan_findRows b_Plan_findRows 5 none) B.pre w (List.mem_cons_of_mem _ hw)⟩
  have hr := B.returns
  have hlocks := B.notSynchronized
  obtain ⟨R, hR⟩ : ∃ R, R = (headSpec (xws y_Plan_findRows b_Plan_findRows 5 none) { frames := 2, cells := 0, slots := 0, locals := 48 }).room := ⟨_, rfl⟩
  have hR1 : 2 ≤ R.frames := by rw [hR]; exact Nat.le_of_ble_eq_true rfl
  have hR2 : 48 ≤ R.locals := by rw [hR]; exact Nat.le_of_ble_eq_true rfl
  have hR3 : 0 ≤ R.cells := Nat.zero_le _
  have hR4 : 0 ≤ R.slots := Nat.zero_le _
  rw [← hR]
  obtain ⟨Q, hQ⟩ : ∃ Q, Q = MQ below (xQ G vwCl (none) res.2 sz) args s 0 0 (xA G) := ⟨_, rfl⟩
  rw [← hQ]
  have hS : xS G s s.heap [] := va_S.rf
  obtain ⟨ls, he, hl⟩ := x_entry m [.inr (.inl (some h0)), .inr (.inl r1), .inl x2] 5 (Nat.le_of_ble_eq_true rfl)
  rw [show entryFrame m args 5 = F0 m 0 ls [] by rw [ha]; exact he]
  have hl : xL ls 5 [(0, .inr (.inl (some h0))), (1, .inr (.inl r1)), (2, .inl x2)] := hl
  have h := hf
  unfold f_Plan_findRows at h
  suffices hmain : ∀ (H : Heap) (locs : List Loc), xhd G vwCl w H → xS G s H locs → H.size = sz → (H = s.heap ∧ locs = []) → W p l e R s m args below meth c H locs 0 0 Q (F0 m 0 ls []) from hmain _ _ hH hS hz ⟨rfl, rfl⟩
  clear hH hS hz
  intro H locs hH hS hz hP0
  refine lv_iconst (v := 0) C0.1 C0.2.1 d_Plan_findRows_0 (by decide) ?_
  refine x_istore_n (lv' := [(3, .inl (0 : Int32)), (0, .inr (.inl (some h0))), (1, .inr (.inl r1)), (2, .inl x2)]) C0 hl d_Plan_findRows_1 rfl (by decide) rfl (fun ls hl => ?_)
  obtain ⟨q_5, e9, h⟩ := Option.bind_eq_some_iff.mp h
  refine w_Plan_findRows_L2 C0 hE hR1 hR2 hR3 hR4 100000 _ _ _ _ q_5 ls hH hS hz (x_sub hl [1, 2, 3, 0] rfl) e9 (fun H locs ls hH hS hz hl => ?_)
  cases h
  rw [hQ]
  exact x_vret C0 hr hlocks hH hS hz d_Plan_findRows_40
theorem d_Plan_lowerByFace_0 : decode b_Plan_lowerByFace 0 = .ok (.iconst 1, 1) := by decide +kernel
theorem d_Plan_lowerByFace_1 : decode b_Plan_lowerByFace 1 = .ok (.iload_n 2, 1) := by decide +kernel
theorem d_Plan_lowerByFace_2 : decode b_Plan_lowerByFace 2 = .ok (.ishl, 1) := by decide +kernel
theorem d_Plan_lowerByFace_3 : decode b_Plan_lowerByFace 3 = .ok (.istore_n 3, 1) := by decide +kernel
theorem d_Plan_lowerByFace_4 : decode b_Plan_lowerByFace 4 = .ok (.aload_n 0, 1) := by decide +kernel
theorem d_Plan_lowerByFace_5 : decode b_Plan_lowerByFace 5 = .ok (.getfield 29, 3) := by decide +kernel
theorem d_Plan_lowerByFace_8 : decode b_Plan_lowerByFace 8 = .ok (.iload_n 1, 1) := by decide +kernel
theorem d_Plan_lowerByFace_9 : decode b_Plan_lowerByFace 9 = .ok (.bipush 8, 2) := by decide +kernel
theorem d_Plan_lowerByFace_11 : decode b_Plan_lowerByFace 11 = .ok (.imul, 1) := by decide +kernel
theorem d_Plan_lowerByFace_12 : decode b_Plan_lowerByFace 12 = .ok (.iload_n 2, 1) := by decide +kernel
theorem d_Plan_lowerByFace_13 : decode b_Plan_lowerByFace 13 = .ok (.iadd, 1) := by decide +kernel
theorem d_Plan_lowerByFace_14 : decode b_Plan_lowerByFace 14 = .ok (.iaload, 1) := by decide +kernel
theorem d_Plan_lowerByFace_15 : decode b_Plan_lowerByFace 15 = .ok (.istore 4, 2) := by decide +kernel
theorem d_Plan_lowerByFace_17 : decode b_Plan_lowerByFace 17 = .ok (.aload_n 0, 1) := by decide +kernel
theorem d_Plan_lowerByFace_18 : decode b_Plan_lowerByFace 18 = .ok (.getfield 32, 3) := by decide +kernel
theorem d_Plan_lowerByFace_21 : decode b_Plan_lowerByFace 21 = .ok (.iload_n 1, 1) := by decide +kernel
theorem d_Plan_lowerByFace_22 : decode b_Plan_lowerByFace 22 = .ok (.bipush 8, 2) := by decide +kernel
theorem d_Plan_lowerByFace_24 : decode b_Plan_lowerByFace 24 = .ok (.imul, 1) := by decide +kernel
theorem d_Plan_lowerByFace_25 : decode b_Plan_lowerByFace 25 = .ok (.iload_n 2, 1) := by decide +kernel
theorem d_Plan_lowerByFace_26 : decode b_Plan_lowerByFace 26 = .ok (.iadd, 1) := by decide +kernel
theorem d_Plan_lowerByFace_27 : decode b_Plan_lowerByFace 27 = .ok (.iaload, 1) := by decide +kernel
theorem d_Plan_lowerByFace_28 : decode b_Plan_lowerByFace 28 = .ok (.istore 5, 2) := by decide +kernel
theorem d_Plan_lowerByFace_30 : decode b_Plan_lowerByFace 30 = .ok (.iload 4, 2) := by decide +kernel
theorem d_Plan_lowerByFace_32 : decode b_Plan_lowerByFace 32 = .ok (.ifCond .ne 4, 3) := by decide +kernel
theorem d_Plan_lowerByFace_35 : decode b_Plan_lowerByFace 35 = .ok (.return_, 1) := by decide +kernel
theorem d_Plan_lowerByFace_36 : decode b_Plan_lowerByFace 36 = .ok (.iconst 0, 1) := by decide +kernel
theorem d_Plan_lowerByFace_37 : decode b_Plan_lowerByFace 37 = .ok (.istore 6, 2) := by decide +kernel
theorem d_Plan_lowerByFace_39 : decode b_Plan_lowerByFace 39 = .ok (.iload 6, 2) := by decide +kernel
theorem d_Plan_lowerByFace_41 : decode b_Plan_lowerByFace 41 = .ok (.aload_n 0, 1) := by decide +kernel
theorem d_Plan_lowerByFace_42 : decode b_Plan_lowerByFace 42 = .ok (.getfield 38, 3) := by decide +kernel
theorem d_Plan_lowerByFace_45 : decode b_Plan_lowerByFace 45 = .ok (.if_icmp .ge 71, 3) := by decide +kernel
theorem d_Plan_lowerByFace_48 : decode b_Plan_lowerByFace 48 = .ok (.iload 6, 2) := by decide +kernel
theorem d_Plan_lowerByFace_50 : decode b_Plan_lowerByFace 50 = .ok (.iload_n 3, 1) := by decide +kernel
theorem d_Plan_lowerByFace_51 : decode b_Plan_lowerByFace 51 = .ok (.iand, 1) := by decide +kernel
theorem d_Plan_lowerByFace_52 : decode b_Plan_lowerByFace 52 = .ok (.ifCond .ne 58, 3) := by decide +kernel
theorem d_Plan_lowerByFace_55 : decode b_Plan_lowerByFace 55 = .ok (.iload 5, 2) := by decide +kernel
theorem d_Plan_lowerByFace_57 : decode b_Plan_lowerByFace 57 = .ok (.aload_n 0, 1) := by decide +kernel
theorem d_Plan_lowerByFace_58 : decode b_Plan_lowerByFace 58 = .ok (.getfield 35, 3) := by decide +kernel
theorem d_Plan_lowerByFace_61 : decode b_Plan_lowerByFace 61 = .ok (.iload 4, 2) := by decide +kernel
theorem d_Plan_lowerByFace_63 : decode b_Plan_lowerByFace 63 = .ok (.aload_n 0, 1) := by decide +kernel
theorem d_Plan_lowerByFace_64 : decode b_Plan_lowerByFace 64 = .ok (.getfield 38, 3) := by decide +kernel
theorem d_Plan_lowerByFace_67 : decode b_Plan_lowerByFace 67 = .ok (.imul, 1) := by decide +kernel
theorem d_Plan_lowerByFace_68 : decode b_Plan_lowerByFace 68 = .ok (.iload 6, 2) := by decide +kernel
theorem d_Plan_lowerByFace_70 : decode b_Plan_lowerByFace 70 = .ok (.iload_n 3, 1) := by decide +kernel
theorem d_Plan_lowerByFace_71 : decode b_Plan_lowerByFace 71 = .ok (.ior, 1) := by decide +kernel
theorem d_Plan_lowerByFace_72 : decode b_Plan_lowerByFace 72 = .ok (.iadd, 1) := by decide +kernel
theorem d_Plan_lowerByFace_73 : decode b_Plan_lowerByFace 73 = .ok (.iaload, 1) := by decide +kernel
theorem d_Plan_lowerByFace_74 : decode b_Plan_lowerByFace 74 = .ok (.iadd, 1) := by decide +kernel
theorem d_Plan_lowerByFace_75 : decode b_Plan_lowerByFace 75 = .ok (.istore 7, 2) := by decide +kernel
theorem d_Plan_lowerByFace_77 : decode b_Plan_lowerByFace 77 = .ok (.aload_n 0, 1) := by decide +kernel
theorem d_Plan_lowerByFace_78 : decode b_Plan_lowerByFace 78 = .ok (.getfield 35, 3) := by decide +kernel
theorem d_Plan_lowerByFace_81 : decode b_Plan_lowerByFace 81 = .ok (.iload_n 1, 1) := by decide +kernel
theorem d_Plan_lowerByFace_82 : decode b_Plan_lowerByFace 82 = .ok (.aload_n 0, 1) := by decide +kernel
theorem d_Plan_lowerByFace_83 : decode b_Plan_lowerByFace 83 = .ok (.getfield 38, 3) := by decide +kernel
theorem d_Plan_lowerByFace_86 : decode b_Plan_lowerByFace 86 = .ok (.imul, 1) := by decide +kernel
theorem d_Plan_lowerByFace_87 : decode b_Plan_lowerByFace 87 = .ok (.iload 6, 2) := by decide +kernel
theorem d_Plan_lowerByFace_89 : decode b_Plan_lowerByFace 89 = .ok (.iadd, 1) := by decide +kernel
theorem d_Plan_lowerByFace_90 : decode b_Plan_lowerByFace 90 = .ok (.iload 7, 2) := by decide +kernel
theorem d_Plan_lowerByFace_92 : decode b_Plan_lowerByFace 92 = .ok (.aload_n 0, 1) := by decide +kernel
theorem d_Plan_lowerByFace_93 : decode b_Plan_lowerByFace 93 = .ok (.getfield 35, 3) := by decide +kernel
theorem d_Plan_lowerByFace_96 : decode b_Plan_lowerByFace 96 = .ok (.iload_n 1, 1) := by decide +kernel
theorem d_Plan_lowerByFace_97 : decode b_Plan_lowerByFace 97 = .ok (.aload_n 0, 1) := by decide +kernel
theorem d_Plan_lowerByFace_98 : decode b_Plan_lowerByFace 98 = .ok (.getfield 38, 3) := by decide +kernel
theorem d_Plan_lowerByFace_101 : decode b_Plan_lowerByFace 101 = .ok (.imul, 1) := by decide +kernel
theorem d_Plan_lowerByFace_102 : decode b_Plan_lowerByFace 102 = .ok (.iload 6, 2) := by decide +kernel
theorem d_Plan_lowerByFace_104 : decode b_Plan_lowerByFace 104 = .ok (.iadd, 1) := by decide +kernel
theorem d_Plan_lowerByFace_105 : decode b_Plan_lowerByFace 105 = .ok (.iaload, 1) := by decide +kernel
theorem d_Plan_lowerByFace_106 : decode b_Plan_lowerByFace 106 = .ok (.invokestatic 83, 3) := by decide +kernel
theorem d_Plan_lowerByFace_109 : decode b_Plan_lowerByFace 109 = .ok (.iastore, 1) := by decide +kernel
theorem d_Plan_lowerByFace_110 : decode b_Plan_lowerByFace 110 = .ok (.iinc 6 1, 3) := by decide +kernel
theorem d_Plan_lowerByFace_113 : decode b_Plan_lowerByFace 113 = .ok (.goto (-74), 3) := by decide +kernel
theorem d_Plan_lowerByFace_116 : decode b_Plan_lowerByFace 116 = .ok (.return_, 1) := by decide +kernel
def f_Plan_lowerByFace_L39 (h0 : Nat) (x1 : Int32) (x3 : Int32) (x4 : Int32) (x5 : Int32) : Nat → Int32 → Mp → Option (Nat × Int32 × Mp)
  | 0, _, _ => none
  | n + 1, x6, w => (gI w (some h0) 4 8).bind fun v_5 => if v_5 ≤ x6 then (some (0, x6, w)) else (if (x6 &&& x3) = 0 then ((gR w (some h0) 4 7).bind fun v_6 => (gI w (some h0) 4 8).bind fun v_7 => (aI w v_6 0 ((x4 * v_7) + (x6 ||| x3))).bind fun v_8 => (gR w (some h0) 4 7).bind fun v_9 => (gI w (some h0) 4 8).bind fun v_10 => (gR w (some h0) 4 7).bind fun v_11 => (gI w (some h0) 4 8).bind fun v_12 => (aI w v_11 0 ((x1 * v_12) + x6)).bind fun v_13 => (sI w v_9 0 ((x1 * v_10) + x6) (if v_13 < (x5 + v_8) then v_13 else (x5 + v_8))).bind fun w_14 => f_Plan_lowerByFace_L39 h0 x1 x3 x4 x5 n (x6 + 1) w_14) else (f_Plan_lowerByFace_L39 h0 x1 x3 x4 x5 n (x6 + 1) w))
set_option maxHeartbeats 4000000 in
set_option maxRecDepth 100000 in
theorem w_Plan_lowerByFace_L39 {p : Program} {l : Launch} {e : Env} {R : Room} {s : State} {m : MethodId} {args : Array Value} {below : List Frame} {meth : Method} {c : Code} {Q : State → Prop} {cells slots sz : Nat} {G : Gx} {h0 : Nat} {x1 : Int32} {x3 : Int32} {x4 : Int32} {x5 : Int32} (C0 : CallFix p m c b_Plan_lowerByFace 8 s args wA R_Plan) (hE : xE G vwCl xaty s) (hR1 : 1 ≤ R.frames) (hR2 : 24 ≤ R.locals) (hR3 : cells ≤ R.cells) (hR4 : slots ≤ R.slots) : ∀ (n : Nat) (x6 : Int32) (w : Mp) (H : Heap) (locs : List Loc) (q : Nat × Int32 × Mp) (ls : Array Slot), xhd G vwCl w H → xS G s H locs → H.size = sz → xL ls 8 [(0, .inr (.inl (some h0))), (1, .inl x1), (3, .inl x3), (4, .inl x4), (5, .inl x5), (6, .inl x6)] → f_Plan_lowerByFace_L39 h0 x1 x3 x4 x5 n x6 w = some q → (∀ (H : Heap) (locs : List Loc) (ls : Array Slot), xhd G vwCl q.2.2 H → xS G s H locs → H.size = sz → xL ls 8 [(0, .inr (.inl (some h0))), (1, .inl x1), (3, .inl x3), (4, .inl x4), (5, .inl x5), (6, .inl q.2.1)] → W p l e R s m args below meth c H locs cells slots Q (F0 m 116 ls [])) → W p l e R s m args below meth c H locs cells slots Q (F0 m 39 ls []) := by
  intro n
  induction n with
  | zero => intro _ _ _ _ q ls hH hS hz hl h; cases h
  | succ n ih =>
    intro x6 w H locs q ls hH hS hz hl h K
    rw [f_Plan_lowerByFace_L39] at h
    refine x_iload C0 hl 5 d_Plan_lowerByFace_39 rfl ?_
    refine x_aload_n C0 hl 0 d_Plan_lowerByFace_41 rfl rfl ?_
    refine x_getI C0 hE hH (ci := 4) rfl i_Plan 8 (by decide) kw_1_54 d_Plan_lowerByFace_42 h (fun v_5 h => ?_)
    refine x_icmp_ge C0 116 d_Plan_lowerByFace_45 (by decide) h (fun h => ?_) (fun h => ?_)
    · cases h
      exact K _ _ ls hH hS hz (x_sub hl [0, 1, 2, 3, 4, 5] rfl)
    · refine x_iload C0 hl 5 d_Plan_lowerByFace_48 rfl ?_
      refine x_iload_n C0 hl 2 d_Plan_lowerByFace_50 rfl rfl ?_
      refine lv_iand C0.1 C0.2.1 d_Plan_lowerByFace_51 ?_
      refine x_if_ne C0 110 d_Plan_lowerByFace_52 (by decide) h (fun h => ?_) (fun h => ?_)
      · refine x_iinc (v := 1) (lv' := [(6, .inl (x6 + 1)), (0, .inr (.inl (some h0))), (1, .inl x1), (3, .inl x3), (4, .inl x4), (5, .inl x5)]) C0 hl 5 d_Plan_lowerByFace_110 rfl (by decide) (by decide) rfl (fun ls hl => ?_)
        refine x_goto C0 39 d_Plan_lowerByFace_113 (by decide) ?_
        exact ih _ _ _ _ q ls hH hS hz (x_sub hl [1, 2, 3, 4, 5, 0] rfl) h K
      · refine x_iload C0 hl 4 d_Plan_lowerByFace_55 rfl ?_
        refine x_aload_n C0 hl 0 d_Plan_lowerByFace_57 rfl rfl ?_
        refine x_getR C0 hE hH (ci := 4) rfl i_Plan 7 (by decide) kw_1_53 d_Plan_lowerByFace_58 h (fun v_6 h => ?_)
        refine x_iload C0 hl 3 d_Plan_lowerByFace_61 rfl ?_
        refine x_aload_n C0 hl 0 d_Plan_lowerByFace_63 rfl rfl ?_
        refine x_getI C0 hE hH (ci := 4) rfl i_Plan 8 (by decide) kw_1_54 d_Plan_lowerByFace_64 h (fun v_7 h => ?_)
        refine lv_imul C0.1 C0.2.1 d_Plan_lowerByFace_67 ?_
        refine x_iload C0 hl 5 d_Plan_lowerByFace_68 rfl ?_
        refine x_iload_n C0 hl 2 d_Plan_lowerByFace_70 rfl rfl ?_
        refine lv_ior C0.1 C0.2.1 d_Plan_lowerByFace_71 ?_
        refine lv_iadd C0.1 C0.2.1 d_Plan_lowerByFace_72 ?_
        refine x_iald C0 hE hH (t := 0) rfl d_Plan_lowerByFace_73 h (fun v_8 h => ?_)
        refine lv_iadd C0.1 C0.2.1 d_Plan_lowerByFace_74 ?_
        refine x_istore (lv' := [(7, .inl (x5 + v_8)), (0, .inr (.inl (some h0))), (1, .inl x1), (3, .inl x3), (4, .inl x4), (5, .inl x5), (6, .inl x6)]) C0 hl d_Plan_lowerByFace_75 (by decide) rfl (fun ls hl => ?_)
        refine x_aload_n C0 hl 1 d_Plan_lowerByFace_77 rfl rfl ?_
        refine x_getR C0 hE hH (ci := 4) rfl i_Plan 7 (by decide) kw_1_53 d_Plan_lowerByFace_78 h (fun v_9 h => ?_)
        refine x_iload_n C0 hl 2 d_Plan_lowerByFace_81 rfl rfl ?_
        refine x_aload_n C0 hl 1 d_Plan_lowerByFace_82 rfl rfl ?_
        refine x_getI C0 hE hH (ci := 4) rfl i_Plan 8 (by decide) kw_1_54 d_Plan_lowerByFace_83 h (fun v_10 h => ?_)
        refine lv_imul C0.1 C0.2.1 d_Plan_lowerByFace_86 ?_
        refine x_iload C0 hl 6 d_Plan_lowerByFace_87 rfl ?_
        refine lv_iadd C0.1 C0.2.1 d_Plan_lowerByFace_89 ?_
        refine x_iload C0 hl 0 d_Plan_lowerByFace_90 rfl ?_
        refine x_aload_n C0 hl 1 d_Plan_lowerByFace_92 rfl rfl ?_
        refine x_getR C0 hE hH (ci := 4) rfl i_Plan 7 (by decide) kw_1_53 d_Plan_lowerByFace_93 h (fun v_11 h => ?_)
        refine x_iload_n C0 hl 2 d_Plan_lowerByFace_96 rfl rfl ?_
        refine x_aload_n C0 hl 1 d_Plan_lowerByFace_97 rfl rfl ?_
        refine x_getI C0 hE hH (ci := 4) rfl i_Plan 8 (by decide) kw_1_54 d_Plan_lowerByFace_98 h (fun v_12 h => ?_)
        refine lv_imul C0.1 C0.2.1 d_Plan_lowerByFace_101 ?_
        refine x_iload C0 hl 6 d_Plan_lowerByFace_102 rfl ?_
        refine lv_iadd C0.1 C0.2.1 d_Plan_lowerByFace_104 ?_
        refine x_iald C0 hE hH (t := 0) rfl d_Plan_lowerByFace_105 h (fun v_13 h => ?_)
        refine va_mmin C0.1 C0.2.1 (C0.2.2.1.trans hl.1.symm) C0.2.2.2.1 (C0.2.2.2.2 _ kw_4_54) (C0.2.2.2.2 _ kw_2_217) (C0.2.2.2.2 _ kw_1_13) (C0.2.2.2.2 _ kw_2_218) (Nat.le_trans (by decide) hR1) (Nat.le_trans (by simp only [List.map_cons, List.map_nil, List.sum_cons, List.sum_nil, va_rf_cat, x_catI, x_catL, x_catA] <;> decide) hR2) hR3 hR4 d_Plan_lowerByFace_106 ?_
        refine x_iast C0 hE hH hS (t := 0) rfl d_Plan_lowerByFace_109 h (fun w_14 H locs hH hS hz9 h => ?_)
        have hz := hz9.trans hz
        refine x_iinc (v := 1) (lv' := [(6, .inl (x6 + 1)), (7, .inl (x5 + v_8)), (0, .inr (.inl (some h0))), (1, .inl x1), (3, .inl x3), (4, .inl x4), (5, .inl x5)]) C0 hl 6 d_Plan_lowerByFace_110 rfl (by decide) (by decide) rfl (fun ls hl => ?_)
        refine x_goto C0 39 d_Plan_lowerByFace_113 (by decide) ?_
        exact ih _ _ _ _ q ls hH hS hz (x_sub hl [2, 3, 4, 5, 6, 0] rfl) h K
def f_Plan_lowerByFace (w : Mp) (h0 : Nat) (x1 : Int32) (x2 : Int32) : Option (Unit × Mp) := (gR w (some h0) 4 5).bind fun v_1 => (aI w v_1 0 ((x1 * (8 : Int32)) + x2)).bind fun v_2 => (gR w (some h0) 4 6).bind fun v_3 => (aI w v_3 0 ((x1 * (8 : Int32)) + x2)).bind fun v_4 => if v_2 = 0 then (some ((), w)) else ((f_Plan_lowerByFace_L39 h0 x1 ((1 : Int32) <<< (x2 &&& 31)) v_2 v_4 100000 (0 : Int32) w).bind fun q_15 => some ((), q_15.2.2))
set_option maxHeartbeats 4000000 in
set_option maxRecDepth 100000 in
theorem c_Plan_lowerByFace (l : Launch) (G : Gx) (w : Mp) (sz : Nat) (h0 : Nat) (x1 : Int32) (x2 : Int32) (res : Unit × Mp) (hf : f_Plan_lowerByFace w h0 x1 x2 = some res) : Met l y_Plan_lowerByFace (xws y_Plan_lowerByFace b_Plan_lowerByFace 8 none) { frames := 1, cells := 0, slots := 0, locals := 24 } (xPc G vwCl xaty w sz [va_rf (some h0), .int x1, .int x2]) (xQ G vwCl (none) res.2 sz) 0 0 (xA G) := by
  refine Met.ofW (cc := b_Plan_lowerByFace) (maxL := 8) (ret := none) (by decide) rfl ?_
  intro p e s m args below meth c s₁ B hml hv
  obtain ⟨ha, hE, hH, hz⟩ := hv
  have C0 : CallFix p m c b_Plan_lowerByFace 8 s args wA R_Plan := ⟨B.exec, B.bytes, hml, findClass_of_methodNamed B.named, fun w hw => atoms_spec (ws := xws y_Plan_lowerByFace b_Plan_lowerByFace 8 none) B.pre w (List.mem_cons_of_mem _ hw)⟩
  have hr := B.returns
  have hlocks := B.notSynchronized
  obtain ⟨R, hR⟩ : ∃ R, R = (headSpec (xws y_Plan_lowerByFace b_Plan_lowerByFace 8 none) { frames := 1, cells := 0, slots := 0, locals := 24 }).room := ⟨_, rfl⟩
  have hR1 : 1 ≤ R.frames := by rw [hR]; exact Nat.le_of_ble_eq_true rfl
  have hR2 : 24 ≤ R.locals := by rw [hR]; exact Nat.le_of_ble_eq_true rfl
  have hR3 : 0 ≤ R.cells := Nat.zero_le _
  have hR4 : 0 ≤ R.slots := Nat.zero_le _
  rw [← hR]
  obtain ⟨Q, hQ⟩ : ∃ Q, Q = MQ below (xQ G vwCl (none) res.2 sz) args s 0 0 (xA G) := ⟨_, rfl⟩
  rw [← hQ]
  have hS : xS G s s.heap [] := va_S.rf
  obtain ⟨ls, he, hl⟩ := x_entry m [.inr (.inl (some h0)), .inl x1, .inl x2] 8 (Nat.le_of_ble_eq_true rfl)
  rw [show entryFrame m args 8 = F0 m 0 ls [] by rw [ha]; exact he]
  have hl : xL ls 8 [(0, .inr (.inl (some h0))), (1, .inl x1), (2, .inl x2)] := hl
  have h := hf
  unfold f_Plan_lowerByFace at h
  suffices hmain : ∀ (H : Heap) (locs : List Loc), xhd G vwCl w H → xS G s H locs → H.size = sz → (H = s.heap ∧ locs = []) → W p l e R s m args below meth c H locs 0 0 Q (F0 m 0 ls []) from hmain _ _ hH hS hz ⟨rfl, rfl⟩
  clear hH hS hz
  intro H locs hH hS hz hP0
  refine lv_iconst (v := 1) C0.1 C0.2.1 d_Plan_lowerByFace_0 (by decide) ?_
  refine x_iload_n C0 hl 2 d_Plan_lowerByFace_1 rfl rfl ?_
  refine lv_ishl C0.1 C0.2.1 d_Plan_lowerByFace_2 ?_
  refine x_istore_n (lv' := [(3, .inl ((1 : Int32) <<< (x2 &&& 31))), (0, .inr (.inl (some h0))), (1, .inl x1), (2, .inl x2)]) C0 hl d_Plan_lowerByFace_3 rfl (by decide) rfl (fun ls hl => ?_)
  refine x_aload_n C0 hl 1 d_Plan_lowerByFace_4 rfl rfl ?_
  refine x_getR C0 hE hH (ci := 4) rfl i_Plan 5 (by decide) kw_1_51 d_Plan_lowerByFace_5 h (fun v_1 h => ?_)
  refine x_iload_n C0 hl 2 d_Plan_lowerByFace_8 rfl rfl ?_
  refine lv_bipush (v := 8) C0.1 C0.2.1 d_Plan_lowerByFace_9 (by decide) ?_
  refine lv_imul C0.1 C0.2.1 d_Plan_lowerByFace_11 ?_
  refine x_iload_n C0 hl 3 d_Plan_lowerByFace_12 rfl rfl ?_
  refine lv_iadd C0.1 C0.2.1 d_Plan_lowerByFace_13 ?_
  refine x_iald C0 hE hH (t := 0) rfl d_Plan_lowerByFace_14 h (fun v_2 h => ?_)
  refine x_istore (lv' := [(4, .inl v_2), (3, .inl ((1 : Int32) <<< (x2 &&& 31))), (0, .inr (.inl (some h0))), (1, .inl x1), (2, .inl x2)]) C0 hl d_Plan_lowerByFace_15 (by decide) rfl (fun ls hl => ?_)
  refine x_aload_n C0 hl 2 d_Plan_lowerByFace_17 rfl rfl ?_
  refine x_getR C0 hE hH (ci := 4) rfl i_Plan 6 (by decide) kw_1_52 d_Plan_lowerByFace_18 h (fun v_3 h => ?_)
  refine x_iload_n C0 hl 3 d_Plan_lowerByFace_21 rfl rfl ?_
  refine lv_bipush (v := 8) C0.1 C0.2.1 d_Plan_lowerByFace_22 (by decide) ?_
  refine lv_imul C0.1 C0.2.1 d_Plan_lowerByFace_24 ?_
  refine x_iload_n C0 hl 4 d_Plan_lowerByFace_25 rfl rfl ?_
  refine lv_iadd C0.1 C0.2.1 d_Plan_lowerByFace_26 ?_
  refine x_iald C0 hE hH (t := 0) rfl d_Plan_lowerByFace_27 h (fun v_4 h => ?_)
  refine x_istore (lv' := [(5, .inl v_4), (4, .inl v_2), (3, .inl ((1 : Int32) <<< (x2 &&& 31))), (0, .inr (.inl (some h0))), (1, .inl x1), (2, .inl x2)]) C0 hl d_Plan_lowerByFace_28 (by decide) rfl (fun ls hl => ?_)
  refine x_iload C0 hl 1 d_Plan_lowerByFace_30 rfl ?_
  refine x_if_ne C0 36 d_Plan_lowerByFace_32 (by decide) h (fun h => ?_) (fun h => ?_)
  · refine lv_iconst (v := 0) C0.1 C0.2.1 d_Plan_lowerByFace_36 (by decide) ?_
    refine x_istore (lv' := [(6, .inl (0 : Int32)), (5, .inl v_4), (4, .inl v_2), (3, .inl ((1 : Int32) <<< (x2 &&& 31))), (0, .inr (.inl (some h0))), (1, .inl x1), (2, .inl x2)]) C0 hl d_Plan_lowerByFace_37 (by decide) rfl (fun ls hl => ?_)
    obtain ⟨q_15, e9, h⟩ := Option.bind_eq_some_iff.mp h
    refine w_Plan_lowerByFace_L39 C0 hE hR1 hR2 hR3 hR4 100000 _ _ _ _ q_15 ls hH hS hz (x_sub hl [4, 5, 3, 2, 1, 0] rfl) e9 (fun H locs ls hH hS hz hl => ?_)
    cases h
    rw [hQ]
    exact x_vret C0 hr hlocks hH hS hz d_Plan_lowerByFace_116
  · cases h
    rw [hQ]
    exact x_vret C0 hr hlocks hH hS hz d_Plan_lowerByFace_35
theorem d_Plan_findLeastLoss_0 : decode b_Plan_findLeastLoss 0 = .ok (.iconst 0, 1) := by decide +kernel
theorem d_Plan_findLeastLoss_1 : decode b_Plan_findLeastLoss 1 = .ok (.istore_n 2, 1) := by decide +kernel
theorem d_Plan_findLeastLoss_2 : decode b_Plan_findLeastLoss 2 = .ok (.iload_n 2, 1) := by decide +kernel
theorem d_Plan_findLeastLoss_3 : decode b_Plan_findLeastLoss 3 = .ok (.aload_n 0, 1) := by decide +kernel
theorem d_Plan_findLeastLoss_4 : decode b_Plan_findLeastLoss 4 = .ok (.getfield 38, 3) := by decide +kernel
theorem d_Plan_findLeastLoss_7 : decode b_Plan_findLeastLoss 7 = .ok (.if_icmp .ge 38, 3) := by decide +kernel
theorem d_Plan_findLeastLoss_10 : decode b_Plan_findLeastLoss 10 = .ok (.aload_n 0, 1) := by decide +kernel
theorem d_Plan_findLeastLoss_11 : decode b_Plan_findLeastLoss 11 = .ok (.getfield 35, 3) := by decide +kernel
theorem d_Plan_findLeastLoss_14 : decode b_Plan_findLeastLoss 14 = .ok (.iload_n 1, 1) := by decide +kernel
theorem d_Plan_findLeastLoss_15 : decode b_Plan_findLeastLoss 15 = .ok (.aload_n 0, 1) := by decide +kernel
theorem d_Plan_findLeastLoss_16 : decode b_Plan_findLeastLoss 16 = .ok (.getfield 38, 3) := by decide +kernel
theorem d_Plan_findLeastLoss_19 : decode b_Plan_findLeastLoss 19 = .ok (.imul, 1) := by decide +kernel
theorem d_Plan_findLeastLoss_20 : decode b_Plan_findLeastLoss 20 = .ok (.iload_n 2, 1) := by decide +kernel
theorem d_Plan_findLeastLoss_21 : decode b_Plan_findLeastLoss 21 = .ok (.iadd, 1) := by decide +kernel
theorem d_Plan_findLeastLoss_22 : decode b_Plan_findLeastLoss 22 = .ok (.iload_n 2, 1) := by decide +kernel
theorem d_Plan_findLeastLoss_23 : decode b_Plan_findLeastLoss 23 = .ok (.aload_n 0, 1) := by decide +kernel
theorem d_Plan_findLeastLoss_24 : decode b_Plan_findLeastLoss 24 = .ok (.getfield 38, 3) := by decide +kernel
theorem d_Plan_findLeastLoss_27 : decode b_Plan_findLeastLoss 27 = .ok (.iconst 1, 1) := by decide +kernel
theorem d_Plan_findLeastLoss_28 : decode b_Plan_findLeastLoss 28 = .ok (.isub, 1) := by decide +kernel
theorem d_Plan_findLeastLoss_29 : decode b_Plan_findLeastLoss 29 = .ok (.if_icmp .ne 7, 3) := by decide +kernel
theorem d_Plan_findLeastLoss_32 : decode b_Plan_findLeastLoss 32 = .ok (.iconst 0, 1) := by decide +kernel
theorem d_Plan_findLeastLoss_33 : decode b_Plan_findLeastLoss 33 = .ok (.goto 5, 3) := by decide +kernel
theorem d_Plan_findLeastLoss_36 : decode b_Plan_findLeastLoss 36 = .ok (.ldc 52, 2) := by decide +kernel
theorem d_Plan_findLeastLoss_38 : decode b_Plan_findLeastLoss 38 = .ok (.iastore, 1) := by decide +kernel
theorem d_Plan_findLeastLoss_39 : decode b_Plan_findLeastLoss 39 = .ok (.iinc 2 1, 3) := by decide +kernel
theorem d_Plan_findLeastLoss_42 : decode b_Plan_findLeastLoss 42 = .ok (.goto (-40), 3) := by decide +kernel
theorem d_Plan_findLeastLoss_45 : decode b_Plan_findLeastLoss 45 = .ok (.iload_n 1, 1) := by decide +kernel
theorem d_Plan_findLeastLoss_46 : decode b_Plan_findLeastLoss 46 = .ok (.iconst 1, 1) := by decide +kernel
theorem d_Plan_findLeastLoss_47 : decode b_Plan_findLeastLoss 47 = .ok (.isub, 1) := by decide +kernel
theorem d_Plan_findLeastLoss_48 : decode b_Plan_findLeastLoss 48 = .ok (.istore_n 2, 1) := by decide +kernel
theorem d_Plan_findLeastLoss_49 : decode b_Plan_findLeastLoss 49 = .ok (.iload_n 2, 1) := by decide +kernel
theorem d_Plan_findLeastLoss_50 : decode b_Plan_findLeastLoss 50 = .ok (.ifCond .lt 75, 3) := by decide +kernel
theorem d_Plan_findLeastLoss_53 : decode b_Plan_findLeastLoss 53 = .ok (.iconst 0, 1) := by decide +kernel
theorem d_Plan_findLeastLoss_54 : decode b_Plan_findLeastLoss 54 = .ok (.istore_n 3, 1) := by decide +kernel
theorem d_Plan_findLeastLoss_55 : decode b_Plan_findLeastLoss 55 = .ok (.iload_n 3, 1) := by decide +kernel
theorem d_Plan_findLeastLoss_56 : decode b_Plan_findLeastLoss 56 = .ok (.aload_n 0, 1) := by decide +kernel
theorem d_Plan_findLeastLoss_57 : decode b_Plan_findLeastLoss 57 = .ok (.getfield 38, 3) := by decide +kernel
theorem d_Plan_findLeastLoss_60 : decode b_Plan_findLeastLoss 60 = .ok (.if_icmp .ge 37, 3) := by decide +kernel
theorem d_Plan_findLeastLoss_63 : decode b_Plan_findLeastLoss 63 = .ok (.aload_n 0, 1) := by decide +kernel
theorem d_Plan_findLeastLoss_64 : decode b_Plan_findLeastLoss 64 = .ok (.getfield 35, 3) := by decide +kernel
theorem d_Plan_findLeastLoss_67 : decode b_Plan_findLeastLoss 67 = .ok (.iload_n 2, 1) := by decide +kernel
theorem d_Plan_findLeastLoss_68 : decode b_Plan_findLeastLoss 68 = .ok (.aload_n 0, 1) := by decide +kernel
theorem d_Plan_findLeastLoss_69 : decode b_Plan_findLeastLoss 69 = .ok (.getfield 38, 3) := by decide +kernel
theorem d_Plan_findLeastLoss_72 : decode b_Plan_findLeastLoss 72 = .ok (.imul, 1) := by decide +kernel
theorem d_Plan_findLeastLoss_73 : decode b_Plan_findLeastLoss 73 = .ok (.iload_n 3, 1) := by decide +kernel
theorem d_Plan_findLeastLoss_74 : decode b_Plan_findLeastLoss 74 = .ok (.iadd, 1) := by decide +kernel
theorem d_Plan_findLeastLoss_75 : decode b_Plan_findLeastLoss 75 = .ok (.aload_n 0, 1) := by decide +kernel
theorem d_Plan_findLeastLoss_76 : decode b_Plan_findLeastLoss 76 = .ok (.getfield 35, 3) := by decide +kernel
theorem d_Plan_findLeastLoss_79 : decode b_Plan_findLeastLoss 79 = .ok (.iload_n 2, 1) := by decide +kernel
theorem d_Plan_findLeastLoss_80 : decode b_Plan_findLeastLoss 80 = .ok (.iconst 1, 1) := by decide +kernel
theorem d_Plan_findLeastLoss_81 : decode b_Plan_findLeastLoss 81 = .ok (.iadd, 1) := by decide +kernel
theorem d_Plan_findLeastLoss_82 : decode b_Plan_findLeastLoss 82 = .ok (.aload_n 0, 1) := by decide +kernel
theorem d_Plan_findLeastLoss_83 : decode b_Plan_findLeastLoss 83 = .ok (.getfield 38, 3) := by decide +kernel
theorem d_Plan_findLeastLoss_86 : decode b_Plan_findLeastLoss 86 = .ok (.imul, 1) := by decide +kernel
theorem d_Plan_findLeastLoss_87 : decode b_Plan_findLeastLoss 87 = .ok (.iload_n 3, 1) := by decide +kernel
theorem d_Plan_findLeastLoss_88 : decode b_Plan_findLeastLoss 88 = .ok (.iadd, 1) := by decide +kernel
theorem d_Plan_findLeastLoss_89 : decode b_Plan_findLeastLoss 89 = .ok (.iaload, 1) := by decide +kernel
theorem d_Plan_findLeastLoss_90 : decode b_Plan_findLeastLoss 90 = .ok (.iastore, 1) := by decide +kernel
theorem d_Plan_findLeastLoss_91 : decode b_Plan_findLeastLoss 91 = .ok (.iinc 3 1, 3) := by decide +kernel
theorem d_Plan_findLeastLoss_94 : decode b_Plan_findLeastLoss 94 = .ok (.goto (-39), 3) := by decide +kernel
theorem d_Plan_findLeastLoss_97 : decode b_Plan_findLeastLoss 97 = .ok (.iconst 0, 1) := by decide +kernel
theorem d_Plan_findLeastLoss_98 : decode b_Plan_findLeastLoss 98 = .ok (.istore_n 3, 1) := by decide +kernel
theorem d_Plan_findLeastLoss_99 : decode b_Plan_findLeastLoss 99 = .ok (.iload_n 3, 1) := by decide +kernel
theorem d_Plan_findLeastLoss_100 : decode b_Plan_findLeastLoss 100 = .ok (.aload_n 0, 1) := by decide +kernel
theorem d_Plan_findLeastLoss_101 : decode b_Plan_findLeastLoss 101 = .ok (.getfield 15, 3) := by decide +kernel
theorem d_Plan_findLeastLoss_104 : decode b_Plan_findLeastLoss 104 = .ok (.if_icmp .ge 15, 3) := by decide +kernel
theorem d_Plan_findLeastLoss_107 : decode b_Plan_findLeastLoss 107 = .ok (.aload_n 0, 1) := by decide +kernel
theorem d_Plan_findLeastLoss_108 : decode b_Plan_findLeastLoss 108 = .ok (.iload_n 2, 1) := by decide +kernel
theorem d_Plan_findLeastLoss_109 : decode b_Plan_findLeastLoss 109 = .ok (.iload_n 3, 1) := by decide +kernel
theorem d_Plan_findLeastLoss_110 : decode b_Plan_findLeastLoss 110 = .ok (.invokevirtual 79, 3) := by decide +kernel
theorem d_Plan_findLeastLoss_113 : decode b_Plan_findLeastLoss 113 = .ok (.iinc 3 1, 3) := by decide +kernel
theorem d_Plan_findLeastLoss_116 : decode b_Plan_findLeastLoss 116 = .ok (.goto (-17), 3) := by decide +kernel
theorem d_Plan_findLeastLoss_119 : decode b_Plan_findLeastLoss 119 = .ok (.iinc 2 (-1), 3) := by decide +kernel
theorem d_Plan_findLeastLoss_122 : decode b_Plan_findLeastLoss 122 = .ok (.goto (-73), 3) := by decide +kernel
theorem d_Plan_findLeastLoss_125 : decode b_Plan_findLeastLoss 125 = .ok (.return_, 1) := by decide +kernel
def f_Plan_findLeastLoss_L2 (h0 : Nat) (x1 : Int32) : Nat → Int32 → Mp → Option (Nat × Int32 × Mp)
  | 0, _, _ => none
  | n + 1, x2, w => (gI w (some h0) 4 8).bind fun v_1 => if v_1 ≤ x2 then (some (0, x2, w)) else ((gR w (some h0) 4 7).bind fun v_2 => (gI w (some h0) 4 8).bind fun v_3 => (gI w (some h0) 4 8).bind fun v_4 => if x2 = (v_4 - (1 : Int32)) then ((sI w v_2 0 ((x1 * v_3) + x2) (0 : Int32)).bind fun w_6 => f_Plan_findLeastLoss_L2 h0 x1 n (x2 + 1) w_6) else ((sI w v_2 0 ((x1 * v_3) + x2) (1000000 : Int32)).bind fun w_5 => f_Plan_findLeastLoss_L2 h0 x1 n (x2 + 1) w_5))
set_option maxHeartbeats 4000000 in
set_option maxRecDepth 100000 in
theorem w_Plan_findLeastLoss_L2 {p : Program} {l : Launch} {e : Env} {R : Room} {s : State} {m : MethodId} {args : Array Value} {below : List Frame} {meth : Method} {c : Code} {Q : State → Prop} {cells slots sz : Nat} {G : Gx} {h0 : Nat} {x1 : Int32} (C0 : CallFix p m c b_Plan_findLeastLoss 4 s args wA R_Plan) (hE : xE G vwCl xaty s) (hR1 : 2 ≤ R.frames) (hR2 : 51 ≤ R.locals) (hR3 : cells ≤ R.cells) (hR4 : slots ≤ R.slots) : ∀ (n : Nat) (x2 : Int32) (w : Mp) (H : Heap) (locs : List Loc) (q : Nat × Int32 × Mp) (ls : Array Slot), xhd G vwCl w H → xS G s H locs → H.size = sz → xL ls 4 [(0, .inr (.inl (some h0))), (1, .inl x1), (2, .inl x2)] → f_Plan_findLeastLoss_L2 h0 x1 n x2 w = some q → (∀ (H : Heap) (locs : List Loc) (ls : Array Slot), xhd G vwCl q.2.2 H → xS G s H locs → H.size = sz → xL ls 4 [(0, .inr (.inl (some h0))), (1, .inl x1), (2, .inl q.2.1)] → W p l e R s m args below meth c H locs cells slots Q (F0 m 45 ls [])) → W p l e R s m args below meth c H locs cells slots Q (F0 m 2 ls []) := by
  intro n
  induction n with
  | zero => intro _ _ _ _ q ls hH hS hz hl h; cases h
  | succ n ih =>
    intro x2 w H locs q ls hH hS hz hl h K
    rw [f_Plan_findLeastLoss_L2] at h
    refine x_iload_n C0 hl 2 d_Plan_findLeastLoss_2 rfl rfl ?_
    refine x_aload_n C0 hl 0 d_Plan_findLeastLoss_3 rfl rfl ?_
    refine x_getI C0 hE hH (ci := 4) rfl i_Plan 8 (by decide) kw_1_54 d_Plan_findLeastLoss_4 h (fun v_1 h => ?_)
    refine x_icmp_ge C0 45 d_Plan_findLeastLoss_7 (by decide) h (fun h => ?_) (fun h => ?_)
    · cases h
      exact K _ _ ls hH hS hz (x_sub hl [0, 1, 2] rfl)
    · refine x_aload_n C0 hl 0 d_Plan_findLeastLoss_10 rfl rfl ?_
      refine x_getR C0 hE hH (ci := 4) rfl i_Plan 7 (by decide) kw_1_53 d_Plan_findLeastLoss_11 h (fun v_2 h => ?_)
      refine x_iload_n C0 hl 1 d_Plan_findLeastLoss_14 rfl rfl ?_
      refine x_aload_n C0 hl 0 d_Plan_findLeastLoss_15 rfl rfl ?_
      refine x_getI C0 hE hH (ci := 4) rfl i_Plan 8 (by decide) kw_1_54 d_Plan_findLeastLoss_16 h (fun v_3 h => ?_)
      refine lv_imul C0.1 C0.2.1 d_Plan_findLeastLoss_19 ?_
      refine x_iload_n C0 hl 2 d_Plan_findLeastLoss_20 rfl rfl ?_
      refine lv_iadd C0.1 C0.2.1 d_Plan_findLeastLoss_21 ?_
      refine x_iload_n C0 hl 2 d_Plan_findLeastLoss_22 rfl rfl ?_
      refine x_aload_n C0 hl 0 d_Plan_findLeastLoss_23 rfl rfl ?_
      refine x_getI C0 hE hH (ci := 4) rfl i_Plan 8 (by decide) kw_1_54 d_Plan_findLeastLoss_24 h (fun v_4 h => ?_)
      refine lv_iconst (v := 1) C0.1 C0.2.1 d_Plan_findLeastLoss_27 (by decide) ?_
      refine lv_isub C0.1 C0.2.1 d_Plan_findLeastLoss_28 ?_
      refine x_icmp_ne C0 36 d_Plan_findLeastLoss_29 (by decide) h (fun h => ?_) (fun h => ?_)
      · refine lv_ldc (v := 1000000) C0.1 C0.2.1 C0.2.2.2.1 (C0.2.2.2.2 _ kw_4_49) d_Plan_findLeastLoss_36 ?_
        refine x_iast C0 hE hH hS (t := 0) rfl d_Plan_findLeastLoss_38 h (fun w_5 H locs hH hS hz9 h => ?_)
        have hz := hz9.trans hz
        refine x_iinc (v := 1) (lv' := [(2, .inl (x2 + 1)), (0, .inr (.inl (some h0))), (1, .inl x1)]) C0 hl 2 d_Plan_findLeastLoss_39 rfl (by decide) (by decide) rfl (fun ls hl => ?_)
        refine x_goto C0 2 d_Plan_findLeastLoss_42 (by decide) ?_
        exact ih _ _ _ _ q ls hH hS hz (x_sub hl [1, 2, 0] rfl) h K
      · refine lv_iconst (v := 0) C0.1 C0.2.1 d_Plan_findLeastLoss_32 (by decide) ?_
        refine x_goto C0 38 d_Plan_findLeastLoss_33 (by decide) ?_
        refine x_iast C0 hE hH hS (t := 0) rfl d_Plan_findLeastLoss_38 h (fun w_6 H locs hH hS hz9 h => ?_)
        have hz := hz9.trans hz
        refine x_iinc (v := 1) (lv' := [(2, .inl (x2 + 1)), (0, .inr (.inl (some h0))), (1, .inl x1)]) C0 hl 2 d_Plan_findLeastLoss_39 rfl (by decide) (by decide) rfl (fun ls hl => ?_)
        refine x_goto C0 2 d_Plan_findLeastLoss_42 (by decide) ?_
        exact ih _ _ _ _ q ls hH hS hz (x_sub hl [1, 2, 0] rfl) h K
def f_Plan_findLeastLoss_L55 (h0 : Nat) (x2 : Int32) : Nat → Int32 → Mp → Option (Nat × Int32 × Mp)
  | 0, _, _ => none
  | n + 1, x3, w => (gI w (some h0) 4 8).bind fun v_8 => if v_8 ≤ x3 then (some (0, x3, w)) else ((gR w (some h0) 4 7).bind fun v_9 => (gI w (some h0) 4 8).bind fun v_10 => (gR w (some h0) 4 7).bind fun v_11 => (gI w (some h0) 4 8).bind fun v_12 => (aI w v_11 0 (((x2 + (1 : Int32)) * v_12) + x3)).bind fun v_13 => (sI w v_9 0 ((x2 * v_10) + x3) v_13).bind fun w_14 => f_Plan_findLeastLoss_L55 h0 x2 n (x3 + 1) w_14)
set_option maxHeartbeats 4000000 in
set_option maxRecDepth 100000 in
theorem w_Plan_findLeastLoss_L55 {p : Program} {l : Launch} {e : Env} {R : Room} {s : State} {m : MethodId} {args : Array Value} {below : List Frame} {meth : Method} {c : Code} {Q : State → Prop} {cells slots sz : Nat} {G : Gx} {h0 : Nat} {x2 : Int32} (C0 : CallFix p m c b_Plan_findLeastLoss 4 s args wA R_Plan) (hE : xE G vwCl xaty s) (hR1 : 2 ≤ R.frames) (hR2 : 51 ≤ R.locals) (hR3 : cells ≤ R.cells) (hR4 : slots ≤ R.slots) : ∀ (n : Nat) (x3 : Int32) (w : Mp) (H : Heap) (locs : List Loc) (q : Nat × Int32 × Mp) (ls : Array Slot), xhd G vwCl w H → xS G s H locs → H.size = sz → xL ls 4 [(0, .inr (.inl (some h0))), (2, .inl x2), (3, .inl x3)] → f_Plan_findLeastLoss_L55 h0 x2 n x3 w = some q → (∀ (H : Heap) (locs : List Loc) (ls : Array Slot), xhd G vwCl q.2.2 H → xS G s H locs → H.size = sz → xL ls 4 [(0, .inr (.inl (some h0))), (2, .inl x2), (3, .inl q.2.1)] → W p l e R s m args below meth c H locs cells slots Q (F0 m 97 ls [])) → W p l e R s m args below meth c H locs cells slots Q (F0 m 55 ls []) := by
  intro n
  induction n with
  | zero => intro _ _ _ _ q ls hH hS hz hl h; cases h
  | succ n ih =>
    intro x3 w H locs q ls hH hS hz hl h K
    rw [f_Plan_findLeastLoss_L55] at h
    refine x_iload_n C0 hl 2 d_Plan_findLeastLoss_55 rfl rfl ?_
    refine x_aload_n C0 hl 0 d_Plan_findLeastLoss_56 rfl rfl ?_
    refine x_getI C0 hE hH (ci := 4) rfl i_Plan 8 (by decide) kw_1_54 d_Plan_findLeastLoss_57 h (fun v_8 h => ?_)
    refine x_icmp_ge C0 97 d_Plan_findLeastLoss_60 (by decide) h (fun h => ?_) (fun h => ?_)
    · cases h
      exact K _ _ ls hH hS hz (x_sub hl [0, 1, 2] rfl)
    · refine x_aload_n C0 hl 0 d_Plan_findLeastLoss_63 rfl rfl ?_
      refine x_getR C0 hE hH (ci := 4) rfl i_Plan 7 (by decide) kw_1_53 d_Plan_findLeastLoss_64 h (fun v_9 h => ?_)
      refine x_iload_n C0 hl 1 d_Plan_findLeastLoss_67 rfl rfl ?_
      refine x_aload_n C0 hl 0 d_Plan_findLeastLoss_68 rfl rfl ?_
      refine x_getI C0 hE hH (ci := 4) rfl i_Plan 8 (by decide) kw_1_54 d_Plan_findLeastLoss_69 h (fun v_10 h => ?_)
      refine lv_imul C0.1 C0.2.1 d_Plan_findLeastLoss_72 ?_
      refine x_iload_n C0 hl 2 d_Plan_findLeastLoss_73 rfl rfl ?_
      refine lv_iadd C0.1 C0.2.1 d_Plan_findLeastLoss_74 ?_
      refine x_aload_n C0 hl 0 d_Plan_findLeastLoss_75 rfl rfl ?_
      refine x_getR C0 hE hH (ci := 4) rfl i_Plan 7 (by decide) kw_1_53 d_Plan_findLeastLoss_76 h (fun v_11 h => ?_)
      refine x_iload_n C0 hl 1 d_Plan_findLeastLoss_79 rfl rfl ?_
      refine lv_iconst (v := 1) C0.1 C0.2.1 d_Plan_findLeastLoss_80 (by decide) ?_
      refine lv_iadd C0.1 C0.2.1 d_Plan_findLeastLoss_81 ?_
      refine x_aload_n C0 hl 0 d_Plan_findLeastLoss_82 rfl rfl ?_
      refine x_getI C0 hE hH (ci := 4) rfl i_Plan 8 (by decide) kw_1_54 d_Plan_findLeastLoss_83 h (fun v_12 h => ?_)
      refine lv_imul C0.1 C0.2.1 d_Plan_findLeastLoss_86 ?_
      refine x_iload_n C0 hl 2 d_Plan_findLeastLoss_87 rfl rfl ?_
      refine lv_iadd C0.1 C0.2.1 d_Plan_findLeastLoss_88 ?_
      refine x_iald C0 hE hH (t := 0) rfl d_Plan_findLeastLoss_89 h (fun v_13 h => ?_)
      refine x_iast C0 hE hH hS (t := 0) rfl d_Plan_findLeastLoss_90 h (fun w_14 H locs hH hS hz9 h => ?_)
      have hz := hz9.trans hz
      refine x_iinc (v := 1) (lv' := [(3, .inl (x3 + 1)), (0, .inr (.inl (some h0))), (2, .inl x2)]) C0 hl 2 d_Plan_findLeastLoss_91 rfl (by decide) (by decide) rfl (fun ls hl => ?_)
      refine x_goto C0 55 d_Plan_findLeastLoss_94 (by decide) ?_
      exact ih _ _ _ _ q ls hH hS hz (x_sub hl [1, 2, 0] rfl) h K
def f_Plan_findLeastLoss_L99 (h0 : Nat) (x2 : Int32) : Nat → Int32 → Mp → Option (Nat × Int32 × Mp)
  | 0, _, _ => none
  | n + 1, x3, w => (gI w (some h0) 4 1).bind fun v_16 => if v_16 ≤ x3 then (some (0, x3, w)) else ((xo w (some h0) 4).bind fun b_18 => (f_Plan_lowerByFace w b_18 x2 x3).bind fun q_17 => f_Plan_findLeastLoss_L99 h0 x2 n (x3 + 1) q_17.2)
set_option maxHeartbeats 4000000 in
set_option maxRecDepth 100000 in
theorem w_Plan_findLeastLoss_L99 {p : Program} {l : Launch} {e : Env} {R : Room} {s : State} {m : MethodId} {args : Array Value} {below : List Frame} {meth : Method} {c : Code} {Q : State → Prop} {cells slots sz : Nat} {G : Gx} {h0 : Nat} {x2 : Int32} (C0 : CallFix p m c b_Plan_findLeastLoss 4 s args wA R_Plan) (hE : xE G vwCl xaty s) (hR1 : 2 ≤ R.frames) (hR2 : 51 ≤ R.locals) (hR3 : cells ≤ R.cells) (hR4 : slots ≤ R.slots) : ∀ (n : Nat) (x3 : Int32) (w : Mp) (H : Heap) (locs : List Loc) (q : Nat × Int32 × Mp) (ls : Array Slot), xhd G vwCl w H → xS G s H locs → H.size = sz → xL ls 4 [(0, .inr (.inl (some h0))), (2, .inl x2), (3, .inl x3)] → f_Plan_findLeastLoss_L99 h0 x2 n x3 w = some q → (∀ (H : Heap) (locs : List Loc) (ls : Array Slot), xhd G vwCl q.2.2 H → xS G s H locs → H.size = sz → xL ls 4 [(0, .inr (.inl (some h0))), (2, .inl x2), (3, .inl q.2.1)] → W p l e R s m args below meth c H locs cells slots Q (F0 m 119 ls [])) → W p l e R s m args below meth c H locs cells slots Q (F0 m 99 ls []) := by
  intro n
  induction n with
  | zero => intro _ _ _ _ q ls hH hS hz hl h; cases h
  | succ n ih =>
    intro x3 w H locs q ls hH hS hz hl h K
    rw [f_Plan_findLeastLoss_L99] at h
    refine x_iload_n C0 hl 2 d_Plan_findLeastLoss_99 rfl rfl ?_
    refine x_aload_n C0 hl 0 d_Plan_findLeastLoss_100 rfl rfl ?_
    refine x_getI C0 hE hH (ci := 4) rfl i_Plan 1 (by decide) kw_1_43 d_Plan_findLeastLoss_101 h (fun v_16 h => ?_)
    refine x_icmp_ge C0 119 d_Plan_findLeastLoss_104 (by decide) h (fun h => ?_) (fun h => ?_)
    · cases h
      exact K _ _ ls hH hS hz (x_sub hl [0, 1, 2] rfl)
    · refine x_aload_n C0 hl 0 d_Plan_findLeastLoss_107 rfl rfl ?_
      refine x_iload_n C0 hl 1 d_Plan_findLeastLoss_108 rfl rfl ?_
      refine x_iload_n C0 hl 2 d_Plan_findLeastLoss_109 rfl rfl ?_
      obtain ⟨b_18, e9, h⟩ := Option.bind_eq_some_iff.mp h
      obtain ⟨e8, fs9, hb9⟩ := xo_inv e9
      obtain ⟨q_17, e9, h⟩ := Option.bind_eq_some_iff.mp h
      refine x_call0 hS (va_runV (As := [.int x2, .int x3]) (rest := []) C0 (c_Plan_lowerByFace l G w _ b_18 x2 x3 q_17 e9) (x_cwV 2 C0 kw_4_50 kw_4_53 kw_1_2 kw_4_52 kw_0_12 (by decide +kernel) (x_rm hR1 hR2 (by decide) (by decide))) (x_preV hE hH hS (ci := 4) rfl hb9) rfl rfl hl.1 (by rw [e8]; rfl) (lv_room (by simp only [List.map_cons, List.map_nil, List.sum_cons, List.sum_nil, va_rf_cat, x_catI, x_catL, x_catA] <;> decide)) d_Plan_findLeastLoss_110 (x_le0 hR3 hR4)) (fun H locs hH hS hz9 => ?_)
      have hz := hz9.trans hz
      refine x_iinc (v := 1) (lv' := [(3, .inl (x3 + 1)), (0, .inr (.inl (some h0))), (2, .inl x2)]) C0 hl 2 d_Plan_findLeastLoss_113 rfl (by decide) (by decide) rfl (fun ls hl => ?_)
      refine x_goto C0 99 d_Plan_findLeastLoss_116 (by decide) ?_
      exact ih _ _ _ _ q ls hH hS hz (x_sub hl [1, 2, 0] rfl) h K
def f_Plan_findLeastLoss_L49 (h0 : Nat) : Nat → Int32 → Mp → Option (Nat × Int32 × Mp)
  | 0, _, _ => none
  | n + 1, x2, w => if x2 < 0 then (some (0, x2, w)) else ((f_Plan_findLeastLoss_L55 h0 x2 100000 (0 : Int32) w).bind fun q_15 => (f_Plan_findLeastLoss_L99 h0 x2 100000 (0 : Int32) q_15.2.2).bind fun q_19 => f_Plan_findLeastLoss_L49 h0 n (x2 + (-1)) q_19.2.2)
set_option maxHeartbeats 4000000 in
set_option maxRecDepth 100000 in
theorem w_Plan_findLeastLoss_L49 {p : Program} {l : Launch} {e : Env} {R : Room} {s : State} {m : MethodId} {args : Array Value} {below : List Frame} {meth : Method} {c : Code} {Q : State → Prop} {cells slots sz : Nat} {G : Gx} {h0 : Nat} (C0 : CallFix p m c b_Plan_findLeastLoss 4 s args wA R_Plan) (hE : xE G vwCl xaty s) (hR1 : 2 ≤ R.frames) (hR2 : 51 ≤ R.locals) (hR3 : cells ≤ R.cells) (hR4 : slots ≤ R.slots) : ∀ (n : Nat) (x2 : Int32) (w : Mp) (H : Heap) (locs : List Loc) (q : Nat × Int32 × Mp) (ls : Array Slot), xhd G vwCl w H → xS G s H locs → H.size = sz → xL ls 4 [(0, .inr (.inl (some h0))), (2, .inl x2)] → f_Plan_findLeastLoss_L49 h0 n x2 w = some q → (∀ (H : Heap) (locs : List Loc) (ls : Array Slot), xhd G vwCl q.2.2 H → xS G s H locs → H.size = sz → xL ls 4 [(0, .inr (.inl (some h0))), (2, .inl q.2.1)] → W p l e R s m args below meth c H locs cells slots Q (F0 m 125 ls [])) → W p l e R s m args below meth c H locs cells slots Q (F0 m 49 ls []) := by
  intro n
  induction n with
  | zero => intro _ _ _ _ q ls hH hS hz hl h; cases h
  | succ n ih =>
    intro x2 w H locs q ls hH hS hz hl h K
    rw [f_Plan_findLeastLoss_L49] at h
    refine x_iload_n C0 hl 1 d_Plan_findLeastLoss_49 rfl rfl ?_
    refine x_if_lt C0 125 d_Plan_findLeastLoss_50 (by decide) h (fun h => ?_) (fun h => ?_)
    · cases h
      exact K _ _ ls hH hS hz (x_sub hl [0, 1] rfl)
    · refine lv_iconst (v := 0) C0.1 C0.2.1 d_Plan_findLeastLoss_53 (by decide) ?_
      refine x_istore_n (lv' := [(3, .inl (0 : Int32)), (0, .inr (.inl (some h0))), (2, .inl x2)]) C0 hl d_Plan_findLeastLoss_54 rfl (by decide) rfl (fun ls hl => ?_)
      obtain ⟨q_15, e9, h⟩ := Option.bind_eq_some_iff.mp h
      refine w_Plan_findLeastLoss_L55 C0 hE hR1 hR2 hR3 hR4 100000 _ _ _ _ q_15 ls hH hS hz (x_sub hl [1, 2, 0] rfl) e9 (fun H locs ls hH hS hz hl => ?_)
      refine lv_iconst (v := 0) C0.1 C0.2.1 d_Plan_findLeastLoss_97 (by decide) ?_
      refine x_istore_n (lv' := [(3, .inl (0 : Int32)), (0, .inr (.inl (some h0))), (2, .inl x2)]) C0 hl d_Plan_findLeastLoss_98 rfl (by decide) rfl (fun ls hl => ?_)
      obtain ⟨q_19, e9, h⟩ := Option.bind_eq_some_iff.mp h
      refine w_Plan_findLeastLoss_L99 C0 hE hR1 hR2 hR3 hR4 100000 _ _ _ _ q_19 ls hH hS hz (x_sub hl [1, 2, 0] rfl) e9 (fun H locs ls hH hS hz hl => ?_)
      refine x_iinc (v := -1) (lv' := [(2, .inl (x2 + (-1))), (0, .inr (.inl (some h0))), (3, .inl q_19.2.1)]) C0 hl 1 d_Plan_findLeastLoss_119 rfl (by decide) (by decide) rfl (fun ls hl => ?_)
      refine x_goto C0 49 d_Plan_findLeastLoss_122 (by decide) ?_
      exact ih _ _ _ _ q ls hH hS hz (x_sub hl [1, 0] rfl) h K
def f_Plan_findLeastLoss (w : Mp) (h0 : Nat) (x1 : Int32) : Option (Unit × Mp) := (f_Plan_findLeastLoss_L2 h0 x1 100000 (0 : Int32) w).bind fun q_7 => (f_Plan_findLeastLoss_L49 h0 100000 (x1 - (1 : Int32)) q_7.2.2).bind fun q_20 => some ((), q_20.2.2)
set_option maxHeartbeats 4000000 in
set_option maxRecDepth 100000 in
theorem c_Plan_findLeastLoss (l : Launch) (G : Gx) (w : Mp) (sz : Nat) (h0 : Nat) (x1 : Int32) (res : Unit × Mp) (hf : f_Plan_findLeastLoss w h0 x1 = some res) : Met l y_Plan_findLeastLoss (xws y_Plan_findLeastLoss b_Plan_findLeastLoss 4 none) { frames := 2, cells := 0, slots := 0, locals := 51 } (xPc G vwCl xaty w sz [va_rf (some h0), .int x1]) (xQ G vwCl (none) res.2 sz) 0 0 (xA G) := by
  refine Met.ofW (cc := b_Plan_findLeastLoss) (maxL := 4) (ret := none) (by decide) rfl ?_
  intro p e s m args below meth c s₁ B hml hv
  obtain ⟨ha, hE, hH, hz⟩ := hv
  have C0 : CallFix p m c b_Plan_findLeastLoss 4 s args wA R_Plan := ⟨B.exec, B.bytes, hml, findClass_of_methodNamed B.named, fun w hw => atoms_spec (ws := xws y_Plan_findLeastLoss b_Plan_findLeastLoss 4 none) B.pre w (List.mem_cons_of_mem _ hw)⟩
  have hr := B.returns
  have hlocks := B.notSynchronized
  obtain ⟨R, hR⟩ : ∃ R, R = (headSpec (xws y_Plan_findLeastLoss b_Plan_findLeastLoss 4 none) { frames := 2, cells := 0, slots := 0, locals := 51 }).room := ⟨_, rfl⟩
  have hR1 : 2 ≤ R.frames := by rw [hR]; exact Nat.le_of_ble_eq_true rfl
  have hR2 : 51 ≤ R.locals := by rw [hR]; exact Nat.le_of_ble_eq_true rfl
  have hR3 : 0 ≤ R.cells := Nat.zero_le _
  have hR4 : 0 ≤ R.slots := Nat.zero_le _
  rw [← hR]
  obtain ⟨Q, hQ⟩ : ∃ Q, Q = MQ below (xQ G vwCl (none) res.2 sz) args s 0 0 (xA G) := ⟨_, rfl⟩
  rw [← hQ]
  have hS : xS G s s.heap [] := va_S.rf
  obtain ⟨ls, he, hl⟩ := x_entry m [.inr (.inl (some h0)), .inl x1] 4 (Nat.le_of_ble_eq_true rfl)
  rw [show entryFrame m args 4 = F0 m 0 ls [] by rw [ha]; exact he]
  have hl : xL ls 4 [(0, .inr (.inl (some h0))), (1, .inl x1)] := hl
  have h := hf
  unfold f_Plan_findLeastLoss at h
  suffices hmain : ∀ (H : Heap) (locs : List Loc), xhd G vwCl w H → xS G s H locs → H.size = sz → (H = s.heap ∧ locs = []) → W p l e R s m args below meth c H locs 0 0 Q (F0 m 0 ls []) from hmain _ _ hH hS hz ⟨rfl, rfl⟩
  clear hH hS hz
  intro H locs hH hS hz hP0
  refine lv_iconst (v := 0) C0.1 C0.2.1 d_Plan_findLeastLoss_0 (by decide) ?_
  refine x_istore_n (lv' := [(2, .inl (0 : Int32)), (0, .inr (.inl (some h0))), (1, .inl x1)]) C0 hl d_Plan_findLeastLoss_1 rfl (by decide) rfl (fun ls hl => ?_)
  obtain ⟨q_7, e9, h⟩ := Option.bind_eq_some_iff.mp h
  refine w_Plan_findLeastLoss_L2 C0 hE hR1 hR2 hR3 hR4 100000 _ _ _ _ q_7 ls hH hS hz (x_sub hl [1, 2, 0] rfl) e9 (fun H locs ls hH hS hz hl => ?_)
  refine x_iload_n C0 hl 1 d_Plan_findLeastLoss_45 rfl rfl ?_
  refine lv_iconst (v := 1) C0.1 C0.2.1 d_Plan_findLeastLoss_46 (by decide) ?_
  refine lv_isub C0.1 C0.2.1 d_Plan_findLeastLoss_47 ?_
  refine x_istore_n (lv' := [(2, .inl (x1 - (1 : Int32))), (0, .inr (.inl (some h0))), (1, .inl x1)]) C0 hl d_Plan_findLeastLoss_48 rfl (by decide) rfl (fun ls hl => ?_)
  obtain ⟨q_20, e9, h⟩ := Option.bind_eq_some_iff.mp h
  refine w_Plan_findLeastLoss_L49 C0 hE hR1 hR2 hR3 hR4 100000 _ _ _ _ q_20 ls hH hS hz (x_sub hl [1, 0] rfl) e9 (fun H locs ls hH hS hz hl => ?_)
  cases h
  rw [hQ]
  exact x_vret C0 hr hlocks hH hS hz d_Plan_findLeastLoss_125
theorem d_Plan_keepPlan_0 : decode b_Plan_keepPlan 0 = .ok (.iconst 0, 1) := by decide +kernel
theorem d_Plan_keepPlan_1 : decode b_Plan_keepPlan 1 = .ok (.istore_n 3, 1) := by decide +kernel
theorem d_Plan_keepPlan_2 : decode b_Plan_keepPlan 2 = .ok (.iconst 0, 1) := by decide +kernel
theorem d_Plan_keepPlan_3 : decode b_Plan_keepPlan 3 = .ok (.istore 4, 2) := by decide +kernel
theorem d_Plan_keepPlan_5 : decode b_Plan_keepPlan 5 = .ok (.iconst 0, 1) := by decide +kernel
theorem d_Plan_keepPlan_6 : decode b_Plan_keepPlan 6 = .ok (.istore 5, 2) := by decide +kernel
theorem d_Plan_keepPlan_8 : decode b_Plan_keepPlan 8 = .ok (.iload 5, 2) := by decide +kernel
theorem d_Plan_keepPlan_10 : decode b_Plan_keepPlan 10 = .ok (.iload_n 2, 1) := by decide +kernel
theorem d_Plan_keepPlan_11 : decode b_Plan_keepPlan 11 = .ok (.if_icmp .ge 83, 3) := by decide +kernel
theorem d_Plan_keepPlan_14 : decode b_Plan_keepPlan 14 = .ok (.iload 5, 2) := by decide +kernel
theorem d_Plan_keepPlan_16 : decode b_Plan_keepPlan 16 = .ok (.iload 4, 2) := by decide +kernel
theorem d_Plan_keepPlan_18 : decode b_Plan_keepPlan 18 = .ok (.if_icmp .ge 7, 3) := by decide +kernel
theorem d_Plan_keepPlan_21 : decode b_Plan_keepPlan 21 = .ok (.iconst (-1), 1) := by decide +kernel
theorem d_Plan_keepPlan_22 : decode b_Plan_keepPlan 22 = .ok (.goto 10, 3) := by decide +kernel
theorem d_Plan_keepPlan_25 : decode b_Plan_keepPlan 25 = .ok (.aload_n 0, 1) := by decide +kernel
theorem d_Plan_keepPlan_26 : decode b_Plan_keepPlan 26 = .ok (.iload 5, 2) := by decide +kernel
theorem d_Plan_keepPlan_28 : decode b_Plan_keepPlan 28 = .ok (.iload_n 3, 1) := by decide +kernel
theorem d_Plan_keepPlan_29 : decode b_Plan_keepPlan 29 = .ok (.invokevirtual 86, 3) := by decide +kernel
theorem d_Plan_keepPlan_32 : decode b_Plan_keepPlan 32 = .ok (.istore 6, 2) := by decide +kernel
theorem d_Plan_keepPlan_34 : decode b_Plan_keepPlan 34 = .ok (.iload 6, 2) := by decide +kernel
theorem d_Plan_keepPlan_36 : decode b_Plan_keepPlan 36 = .ok (.iconst (-1), 1) := by decide +kernel
theorem d_Plan_keepPlan_37 : decode b_Plan_keepPlan 37 = .ok (.if_icmp .eq 51, 3) := by decide +kernel
theorem d_Plan_keepPlan_40 : decode b_Plan_keepPlan 40 = .ok (.aload_n 0, 1) := by decide +kernel
theorem d_Plan_keepPlan_41 : decode b_Plan_keepPlan 41 = .ok (.getfield 29, 3) := by decide +kernel
theorem d_Plan_keepPlan_44 : decode b_Plan_keepPlan 44 = .ok (.iload 5, 2) := by decide +kernel
theorem d_Plan_keepPlan_46 : decode b_Plan_keepPlan 46 = .ok (.bipush 8, 2) := by decide +kernel
theorem d_Plan_keepPlan_48 : decode b_Plan_keepPlan 48 = .ok (.imul, 1) := by decide +kernel
theorem d_Plan_keepPlan_49 : decode b_Plan_keepPlan 49 = .ok (.iload 6, 2) := by decide +kernel
theorem d_Plan_keepPlan_51 : decode b_Plan_keepPlan 51 = .ok (.iadd, 1) := by decide +kernel
theorem d_Plan_keepPlan_52 : decode b_Plan_keepPlan 52 = .ok (.iaload, 1) := by decide +kernel
theorem d_Plan_keepPlan_53 : decode b_Plan_keepPlan 53 = .ok (.istore 4, 2) := by decide +kernel
theorem d_Plan_keepPlan_55 : decode b_Plan_keepPlan 55 = .ok (.aload_n 0, 1) := by decide +kernel
theorem d_Plan_keepPlan_56 : decode b_Plan_keepPlan 56 = .ok (.getfield 23, 3) := by decide +kernel
theorem d_Plan_keepPlan_59 : decode b_Plan_keepPlan 59 = .ok (.iload 6, 2) := by decide +kernel
theorem d_Plan_keepPlan_61 : decode b_Plan_keepPlan 61 = .ok (.aload_n 1, 1) := by decide +kernel
theorem d_Plan_keepPlan_62 : decode b_Plan_keepPlan 62 = .ok (.iload 5, 2) := by decide +kernel
theorem d_Plan_keepPlan_64 : decode b_Plan_keepPlan 64 = .ok (.aaload, 1) := by decide +kernel
theorem d_Plan_keepPlan_65 : decode b_Plan_keepPlan 65 = .ok (.getfield 89, 3) := by decide +kernel
theorem d_Plan_keepPlan_68 : decode b_Plan_keepPlan 68 = .ok (.iastore, 1) := by decide +kernel
theorem d_Plan_keepPlan_69 : decode b_Plan_keepPlan 69 = .ok (.aload_n 0, 1) := by decide +kernel
theorem d_Plan_keepPlan_70 : decode b_Plan_keepPlan 70 = .ok (.getfield 26, 3) := by decide +kernel
theorem d_Plan_keepPlan_73 : decode b_Plan_keepPlan 73 = .ok (.iload 6, 2) := by decide +kernel
theorem d_Plan_keepPlan_75 : decode b_Plan_keepPlan 75 = .ok (.iload 4, 2) := by decide +kernel
theorem d_Plan_keepPlan_77 : decode b_Plan_keepPlan 77 = .ok (.iload 5, 2) := by decide +kernel
theorem d_Plan_keepPlan_79 : decode b_Plan_keepPlan 79 = .ok (.isub, 1) := by decide +kernel
theorem d_Plan_keepPlan_80 : decode b_Plan_keepPlan 80 = .ok (.iastore, 1) := by decide +kernel
theorem d_Plan_keepPlan_81 : decode b_Plan_keepPlan 81 = .ok (.iload_n 3, 1) := by decide +kernel
theorem d_Plan_keepPlan_82 : decode b_Plan_keepPlan 82 = .ok (.iconst 1, 1) := by decide +kernel
theorem d_Plan_keepPlan_83 : decode b_Plan_keepPlan 83 = .ok (.iload 6, 2) := by decide +kernel
theorem d_Plan_keepPlan_85 : decode b_Plan_keepPlan 85 = .ok (.ishl, 1) := by decide +kernel
theorem d_Plan_keepPlan_86 : decode b_Plan_keepPlan 86 = .ok (.ior, 1) := by decide +kernel
theorem d_Plan_keepPlan_87 : decode b_Plan_keepPlan 87 = .ok (.istore_n 3, 1) := by decide +kernel
theorem d_Plan_keepPlan_88 : decode b_Plan_keepPlan 88 = .ok (.iinc 5 1, 3) := by decide +kernel
theorem d_Plan_keepPlan_91 : decode b_Plan_keepPlan 91 = .ok (.goto (-83), 3) := by decide +kernel
theorem d_Plan_keepPlan_94 : decode b_Plan_keepPlan 94 = .ok (.return_, 1) := by decide +kernel
def f_Plan_keepPlan_L8 (h0 : Nat) (r1 : Option Nat) (x2 : Int32) : Nat → Int32 → Int32 → Int32 → Mp → Option (Nat × Int32 × Int32 × Int32 × Mp)
  | 0, _, _, _, _ => none
  | n + 1, x3, x4, x5, w => if x2 ≤ x5 then (some (0, x3, x4, x5, w)) else (xJ1 (fun (x_1 : Int32) => if x_1 = (-1 : Int32) then (f_Plan_keepPlan_L8 h0 r1 x2 n x3 x4 (x5 + 1) w) else ((gR w (some h0) 4 5).bind fun v_3 => (aI w v_3 0 ((x5 * (8 : Int32)) + x_1)).bind fun v_4 => (gR w (some h0) 4 3).bind fun v_5 => (aR w r1 1 x5).bind fun v_6 => (gI w v_6 1 0).bind fun v_7 => (sI w v_5 0 x_1 v_7).bind fun w_8 => (gR w_8 (some h0) 4 4).bind fun v_9 => (sI w_8 v_9 0 x_1 (v_4 - x5)).bind fun w_10 => f_Plan_keepPlan_L8 h0 r1 x2 n (x3 ||| ((1 : Int32) <<< (x_1 &&& 31))) v_4 (x5 + 1) w_10)) fun J_2 => if x4 ≤ x5 then ((xo w (some h0) 4).bind fun b_12 => (f_Plan_faceBegunAt w b_12 x5 x3).bind fun q_11 => J_2 q_11) else (J_2 (-1 : Int32)))
set_option maxHeartbeats 4000000 in
set_option maxRecDepth 100000 in
theorem w_Plan_keepPlan_L8 {p : Program} {l : Launch} {e : Env} {R : Room} {s : State} {m : MethodId} {args : Array Value} {below : List Frame} {meth : Method} {c : Code} {Q : State → Prop} {cells slots sz : Nat} {G : Gx} {h0 : Nat} {r1 : Option Nat} {x2 : Int32} (C0 : CallFix p m c b_Plan_keepPlan 7 s args wA R_Plan) (hE : xE G vwCl xaty s) (hR1 : 1 ≤ R.frames) (hR2 : 26 ≤ R.locals) (hR3 : cells ≤ R.cells) (hR4 : slots ≤ R.slots) : ∀ (n : Nat) (x3 : Int32) (x4 : Int32) (x5 : Int32) (w : Mp) (H : Heap) (locs : List Loc) (q : Nat × Int32 × Int32 × Int32 × Mp) (ls : Array Slot), xhd G vwCl w H → xS G s H locs → H.size = sz → xL ls 7 [(0, .inr (.inl (some h0))), (1, .inr (.inl r1)), (2, .inl x2), (3, .inl x3), (4, .inl x4), (5, .inl x5)] → f_Plan_keepPlan_L8 h0 r1 x2 n x3 x4 x5 w = some q → (∀ (H : Heap) (locs : List Loc) (ls : Array Slot), xhd G vwCl q.2.2.2.2 H → xS G s H locs → H.size = sz → xL ls 7 [(0, .inr (.inl (some h0))), (1, .inr (.inl r1)), (2, .inl x2), (3, .inl q.2.1), (4, .inl q.2.2.1), (5, .inl q.2.2.2.1)] → W p l e R s m args below meth c H locs cells slots Q (F0 m 94 ls [])) → W p l e R s m args below meth c H locs cells slots Q (F0 m 8 ls []) := by
  intro n
  induction n with
  | zero => intro _ _ _ _ _ _ q ls hH hS hz hl h; cases h
  | succ n ih =>
    intro x3 x4 x5 w H locs q ls hH hS hz hl h K
    rw [f_Plan_keepPlan_L8] at h
    refine x_iload C0 hl 5 d_Plan_keepPlan_8 rfl ?_
    refine x_iload_n C0 hl 2 d_Plan_keepPlan_10 rfl rfl ?_
    refine x_icmp_ge C0 94 d_Plan_keepPlan_11 (by decide) h (fun h => ?_) (fun h => ?_)
    · cases h
      exact K _ _ ls hH hS hz (x_sub hl [0, 1, 2, 3, 4, 5] rfl)
    · refine x_iload C0 hl 5 d_Plan_keepPlan_14 rfl ?_
      refine x_iload C0 hl 4 d_Plan_keepPlan_16 rfl ?_
      refine xj1 h (fun J_2 eJ_2 h => ?_)
      have kJ_2 : ∀ (x_1 : Int32) (ls : Array Slot), xL ls 7 [(0, .inr (.inl (some h0))), (1, .inr (.inl r1)), (2, .inl x2), (3, .inl x3), (4, .inl x4), (5, .inl x5)] → J_2 x_1 = some q → W p l e R s m args below meth c H locs cells slots Q (F0 m 32 ls [.int x_1]) := by
        intro x_1 ls hl h
        rw [eJ_2] at h
        refine x_istore (lv' := [(6, .inl x_1), (0, .inr (.inl (some h0))), (1, .inr (.inl r1)), (2, .inl x2), (3, .inl x3), (4, .inl x4), (5, .inl x5)]) C0 hl d_Plan_keepPlan_32 (by decide) rfl (fun ls hl => ?_)
        refine x_iload C0 hl 0 d_Plan_keepPlan_34 rfl ?_
        refine lv_iconst (v := -1) C0.1 C0.2.1 d_Plan_keepPlan_36 (by decide) ?_
        refine x_icmp_eq C0 88 d_Plan_keepPlan_37 (by decide) h (fun h => ?_) (fun h => ?_)
        · refine x_iinc (v := 1) (lv' := [(5, .inl (x5 + 1)), (6, .inl x_1), (0, .inr (.inl (some h0))), (1, .inr (.inl r1)), (2, .inl x2), (3, .inl x3), (4, .inl x4)]) C0 hl 6 d_Plan_keepPlan_88 rfl (by decide) (by decide) rfl (fun ls hl => ?_)
          refine x_goto C0 8 d_Plan_keepPlan_91 (by decide) ?_
          exact ih _ _ _ _ _ _ q ls hH hS hz (x_sub hl [2, 3, 4, 5, 6, 0] rfl) h K
        · refine x_aload_n C0 hl 1 d_Plan_keepPlan_40 rfl rfl ?_
          refine x_getR C0 hE hH (ci := 4) rfl i_Plan 5 (by decide) kw_1_51 d_Plan_keepPlan_41 h (fun v_3 h => ?_)
          refine x_iload C0 hl 6 d_Plan_keepPlan_44 rfl ?_
          refine lv_bipush (v := 8) C0.1 C0.2.1 d_Plan_keepPlan_46 (by decide) ?_
          refine lv_imul C0.1 C0.2.1 d_Plan_keepPlan_48 ?_
          refine x_iload C0 hl 0 d_Plan_keepPlan_49 rfl ?_
          refine lv_iadd C0.1 C0.2.1 d_Plan_keepPlan_51 ?_
          refine x_iald C0 hE hH (t := 0) rfl d_Plan_keepPlan_52 h (fun v_4 h => ?_)
          refine x_istore (lv' := [(4, .inl v_4), (6, .inl x_1), (0, .inr (.inl (some h0))), (1, .inr (.inl r1)), (2, .inl x2), (3, .inl x3), (5, .inl x5)]) C0 hl d_Plan_keepPlan_53 (by decide) rfl (fun ls hl => ?_)
          refine x_aload_n C0 hl 2 d_Plan_keepPlan_55 rfl rfl ?_
          refine x_getR C0 hE hH (ci := 4) rfl i_Plan 3 (by decide) kw_1_47 d_Plan_keepPlan_56 h (fun v_5 h => ?_)
          refine x_iload C0 hl 1 d_Plan_keepPlan_59 rfl ?_
          refine x_aload_n C0 hl 3 d_Plan_keepPlan_61 rfl rfl ?_
          refine x_iload C0 hl 6 d_Plan_keepPlan_62 rfl ?_
          refine x_aald C0 hE hH (t := 1) rfl d_Plan_keepPlan_64 h (fun v_6 h => ?_)
          refine x_getI C0 hE hH (ci := 1) rfl i_Leaf 0 (by decide) kw_1_211 d_Plan_keepPlan_65 h (fun v_7 h => ?_)
          refine x_iast C0 hE hH hS (t := 0) rfl d_Plan_keepPlan_68 h (fun w_8 H locs hH hS hz9 h => ?_)
          have hz := hz9.trans hz
          refine x_aload_n C0 hl 2 d_Plan_keepPlan_69 rfl rfl ?_
          refine x_getR C0 hE hH (ci := 4) rfl i_Plan 4 (by decide) kw_1_49 d_Plan_keepPlan_70 h (fun v_9 h => ?_)
          refine x_iload C0 hl 1 d_Plan_keepPlan_73 rfl ?_
          refine x_iload C0 hl 0 d_Plan_keepPlan_75 rfl ?_
          refine x_iload C0 hl 6 d_Plan_keepPlan_77 rfl ?_
          refine lv_isub C0.1 C0.2.1 d_Plan_keepPlan_79 ?_
          refine x_iast C0 hE hH hS (t := 0) rfl d_Plan_keepPlan_80 h (fun w_10 H locs hH hS hz9 h => ?_)
          have hz := hz9.trans hz
          refine x_iload_n C0 hl 5 d_Plan_keepPlan_81 rfl rfl ?_
          refine lv_iconst (v := 1) C0.1 C0.2.1 d_Plan_keepPlan_82 (by decide) ?_
          refine x_iload C0 hl 1 d_Plan_keepPlan_83 rfl ?_
          refine lv_ishl C0.1 C0.2.1 d_Plan_keepPlan_85 ?_
          refine lv_ior C0.1 C0.2.1 d_Plan_keepPlan_86 ?_
          refine x_istore_n (lv' := [(3, .inl (x3 ||| ((1 : Int32) <<< (x_1 &&& 31)))), (4, .inl v_4), (6, .inl x_1), (0, .inr (.inl (some h0))), (1, .inr (.inl r1)), (2, .inl x2), (5, .inl x5)]) C0 hl d_Plan_keepPlan_87 rfl (by decide) rfl (fun ls hl => ?_)
          refine x_iinc (v := 1) (lv' := [(5, .inl (x5 + 1)), (3, .inl (x3 ||| ((1 : Int32) <<< (x_1 &&& 31)))), (4, .inl v_4), (6, .inl x_1), (0, .inr (.inl (some h0))), (1, .inr (.inl r1)), (2, .inl x2)]) C0 hl 6 d_Plan_keepPlan_88 rfl (by decide) (by decide) rfl (fun ls hl => ?_)
          refine x_goto C0 8 d_Plan_keepPlan_91 (by decide) ?_
          exact ih _ _ _ _ _ _ q ls hH hS hz (x_sub hl [4, 5, 6, 1, 2, 0] rfl) h K
      refine x_icmp_ge C0 25 d_Plan_keepPlan_18 (by decide) h (fun h => ?_) (fun h => ?_)
      · refine x_aload_n C0 hl 0 d_Plan_keepPlan_25 rfl rfl ?_
        refine x_iload C0 hl 5 d_Plan_keepPlan_26 rfl ?_
        refine x_iload_n C0 hl 3 d_Plan_keepPlan_28 rfl rfl ?_
        obtain ⟨b_12, e9, h⟩ := Option.bind_eq_some_iff.mp h
        obtain ⟨e8, fs9, hb9⟩ := xo_inv e9
        obtain ⟨q_11, e9, h⟩ := Option.bind_eq_some_iff.mp h
        refine x_callP (va_runV (As := [.int x5, .int x3]) (rest := []) C0 (c_Plan_faceBegunAt l G w _ b_12 x5 x3 q_11 e9) (x_cwV 2 C0 kw_4_59 kw_4_62 kw_1_2 kw_4_61 kw_0_14 (by decide +kernel) (x_rm hR1 hR2 (by decide) (by decide))) (x_preV hE hH hS (ci := 4) rfl hb9) rfl rfl hl.1 (by rw [e8]; rfl) (lv_room (by simp only [List.map_cons, List.map_nil, List.sum_cons, List.sum_nil, va_rf_cat, x_catI, x_catL, x_catA] <;> decide)) d_Plan_keepPlan_29 (x_le0 hR3 hR4)) ?_
        exact kJ_2 _ ls (x_sub hl [0, 1, 2, 3, 4, 5] rfl) h
      · refine lv_iconst (v := -1) C0.1 C0.2.1 d_Plan_keepPlan_21 (by decide) ?_
        refine x_goto C0 32 d_Plan_keepPlan_22 (by decide) ?_
        exact kJ_2 _ ls (x_sub hl [0, 1, 2, 3, 4, 5] rfl) h
def f_Plan_keepPlan (w : Mp) (h0 : Nat) (r1 : Option Nat) (x2 : Int32) : Option (Unit × Mp) := (f_Plan_keepPlan_L8 h0 r1 x2 100000 (0 : Int32) (0 : Int32) (0 : Int32) w).bind fun q_13 => some ((), q_13.2.2.2.2)
set_option maxHeartbeats 4000000 in
set_option maxRecDepth 100000 in
theorem c_Plan_keepPlan (l : Launch) (G : Gx) (w : Mp) (sz : Nat) (h0 : Nat) (r1 : Option Nat) (x2 : Int32) (res : Unit × Mp) (hf : f_Plan_keepPlan w h0 r1 x2 = some res) : Met l y_Plan_keepPlan (xws y_Plan_keepPlan b_Plan_keepPlan 7 none) { frames := 1, cells := 0, slots := 0, locals := 26 } (xPc G vwCl xaty w sz [va_rf (some h0), va_rf r1, .int x2]) (xQ G vwCl (none) res.2 sz) 0 0 (xA G) := by
  refine Met.ofW (cc := b_Plan_keepPlan) (maxL := 7) (ret := none) (by decide) rfl ?_
  intro p e s m args below meth c s₁ B hml hv
  obtain ⟨ha, hE, hH, hz⟩ := hv
  have C0 : CallFix p m c b_Plan_keepPlan 7 s args wA R_Plan := ⟨B.exec, B.bytes, hml, findClass_of_methodNamed B.named, fun w hw => atoms_spec (ws := xws y_Plan_keepPlan b_Plan_keepPlan 7 none) B.pre w (List.mem_cons_of_mem _ hw)⟩
  have hr := B.returns
  have hlocks := B.notSynchronized
  obtain ⟨R, hR⟩ : ∃ R, R = (headSpec (xws y_Plan_keepPlan b_Plan_keepPlan 7 none) { frames := 1, cells := 0, slots := 0, locals := 26 }).room := ⟨_, rfl⟩
  have hR1 : 1 ≤ R.frames := by rw [hR]; exact Nat.le_of_ble_eq_true rfl
  have hR2 : 26 ≤ R.locals := by rw [hR]; exact Nat.le_of_ble_eq_true rfl
  have hR3 : 0 ≤ R.cells := Nat.zero_le _
  have hR4 : 0 ≤ R.slots := Nat.zero_le _
  rw [← hR]
  obtain ⟨Q, hQ⟩ : ∃ Q, Q = MQ below (xQ G vwCl (none) res.2 sz) args s 0 0 (xA G) := ⟨_, rfl⟩
  rw [← hQ]
  have hS : xS G s s.heap [] := va_S.rf
  obtain ⟨ls, he, hl⟩ := x_entry m [.inr (.inl (some h0)), .inr (.inl r1), .inl x2] 7 (Nat.le_of_ble_eq_true rfl)
  rw [show entryFrame m args 7 = F0 m 0 ls [] by rw [ha]; exact he]
  have hl : xL ls 7 [(0, .inr (.inl (some h0))), (1, .inr (.inl r1)), (2, .inl x2)] := hl
  have h := hf
  unfold f_Plan_keepPlan at h
  suffices hmain : ∀ (H : Heap) (locs : List Loc), xhd G vwCl w H → xS G s H locs → H.size = sz → (H = s.heap ∧ locs = []) → W p l e R s m args below meth c H locs 0 0 Q (F0 m 0 ls []) from hmain _ _ hH hS hz ⟨rfl, rfl⟩
  clear hH hS hz
  intro H locs hH hS hz hP0
  refine lv_iconst (v := 0) C0.1 C0.2.1 d_Plan_keepPlan_0 (by decide) ?_
  refine x_istore_n (lv' := [(3, .inl (0 : Int32)), (0, .inr (.inl (some h0))), (1, .inr (.inl r1)), (2, .inl x2)]) C0 hl d_Plan_keepPlan_1 rfl (by decide) rfl (fun ls hl => ?_)
  refine lv_iconst (v := 0) C0.1 C0.2.1 d_Plan_keepPlan_2 (by decide) ?_
  refine x_istore (lv' := [(4, .inl (0 : Int32)), (3, .inl (0 : Int32)), (0, .inr (.inl (some h0))), (1, .inr (.inl r1)), (2, .inl x2)]) C0 hl d_Plan_keepPlan_3 (by decide) rfl (fun ls hl => ?_)
  refine lv_iconst (v := 0) C0.1 C0.2.1 d_Plan_keepPlan_5 (by decide) ?_
  refine x_istore (lv' := [(5, .inl (0 : Int32)), (4, .inl (0 : Int32)), (3, .inl (0 : Int32)), (0, .inr (.inl (some h0))), (1, .inr (.inl r1)), (2, .inl x2)]) C0 hl d_Plan_keepPlan_6 (by decide) rfl (fun ls hl => ?_)
  obtain ⟨q_13, e9, h⟩ := Option.bind_eq_some_iff.mp h
  refine w_Plan_keepPlan_L8 C0 hE hR1 hR2 hR3 hR4 100000 _ _ _ _ _ _ q_13 ls hH hS hz (x_sub hl [3, 4, 5, 2, 1, 0] rfl) e9 (fun H locs ls hH hS hz hl => ?_)
  cases h
  rw [hQ]
  exact x_vret C0 hr hlocks hH hS hz d_Plan_keepPlan_94
end
