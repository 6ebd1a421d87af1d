/-! THE WORLD AS A FUNCTION: an address gives a cell or nothing. Objects: the class's number and its fields; arrays: the array class's number, length, contents. -/
abbrev Cel : Type := (Nat × List Value) ⊕ (Nat × vp_A)
abbrev Mp : Type := Nat → Option Cel
/-- where the world begins, classes and slots, array classes, addresses of constants -/
abbrev Gx : Type := Nat × va_G × (Nat → ClassId) × (Nat → Nat)
def xce (G : Gx) (e : Cel) : va_E := match e with
  | .inl o => .inr o
  | .inr q => .inl (G.2.2.1 q.1, q.2)
def xhd (G : Gx) (cl : List vw_C) (w : Mp) (H : Heap) : Prop := ∀ (a : Nat) (e : Cel), w a = some e → G.1 ≤ a ∧ va_at G.2.1 cl (a, xce G e) H
abbrev xA (G : Gx) : Nat → Prop := fun q => G.1 ≤ q
abbrev xS (G : Gx) (s : State) (H : Heap) (locs : List Loc) : Prop := va_S (xA G) s.heap H locs
def oI (v : Value) : Option Int32 := match v with
  | .int x => some x
  | _ => none
def oR (v : Value) : Option (Option Nat) := match v with
  | .null => some none
  | .ref a => some (some a)
  | _ => none
def gF (w : Mp) (r : Option Nat) (ci k : Nat) : Option Value := match r with
  | none => none
  | some a => match w a with
    | some (.inl o) => if o.1 = ci then o.2[k]? else none
    | _ => none
def gI (w : Mp) (r : Option Nat) (ci k : Nat) : Option Int32 := (gF w r ci k).bind oI
def gR (w : Mp) (r : Option Nat) (ci k : Nat) : Option (Option Nat) := (gF w r ci k).bind oR
def pF (w : Mp) (r : Option Nat) (ci k : Nat) (v : Value) : Option Mp := match r with
  | none => none
  | some a => match w a with
    | some (.inl o) => if o.1 = ci ∧ k < o.2.length then some (va_up w a (some (.inl (ci, o.2.set k v)))) else none
    | _ => none
def aI (w : Mp) (r : Option Nat) (t : Nat) (i : Int32) : Option Int32 := match r with
  | none => none
  | some a => match w a with
    | some (.inr (t', n, .inl f)) => if t' = t ∧ ¬ (i < 0 ∨ n ≤ i.toNatClampNeg) then some (f i.toNatClampNeg) else none
    | _ => none
def aL (w : Mp) (r : Option Nat) (t : Nat) : Option Int32 := match r with
  | none => none
  | some a => match w a with
    | some (.inr (t', n, _)) => if t' = t then some (Int32.ofNat n) else none
    | _ => none
def sI (w : Mp) (r : Option Nat) (t : Nat) (i x : Int32) : Option Mp := match r with
  | none => none
  | some a => match w a with
    | some (.inr (t', n, .inl f)) => if t' = t ∧ ¬ (i < 0 ∨ n ≤ i.toNatClampNeg) then some (va_up w a (some (.inr (t, n, .inl (upd f i.toNatClampNeg x))))) else none
    | _ => none
def aR (w : Mp) (r : Option Nat) (t : Nat) (i : Int32) : Option (Option Nat) := match r with
  | none => none
  | some a => match w a with
    | some (.inr (t', n, .inr (.inr (.inr (.inr f))))) => if t' = t ∧ ¬ (i < 0 ∨ n ≤ i.toNatClampNeg) then some (f i.toNatClampNeg) else none
    | _ => none
/-- the class of what a reference names, if it names something -/
def xis (w : Mp) (ci : Nat) (v : Option Nat) : Bool := match v with
  | none => true
  | some b => match w b with
    | some (.inl o) => o.1 == ci
    | _ => false
def sR (w : Mp) (r : Option Nat) (t ci : Nat) (i : Int32) (v : Option Nat) : Option Mp := match r with
  | none => none
  | some a => match w a with
    | some (.inr (t', n, .inr (.inr (.inr (.inr f))))) => if (t' = t ∧ ¬ (i < 0 ∨ n ≤ i.toNatClampNeg)) ∧ xis w ci v = true then some (va_up w a (some (.inr (t, n, .inr (.inr (.inr (.inr (va_up f i.toNatClampNeg v)))))))) else none
    | _ => none
theorem gF_inv {w : Mp} {r : Option Nat} {ci k : Nat} {v : Value} (h : gF w r ci k = some v) : ∃ a fs, r = some a ∧ w a = some (.inl (ci, fs)) ∧ fs[k]? = some v := by
  unfold gF at h
  split at h
  · cases h
  · rename_i a
    split at h
    · rename_i o ho
      split at h
      · rename_i hc
        exact ⟨a, o.2, rfl, by rw [ho, ← hc], h⟩
      · cases h
    · cases h
theorem oI_inv {v : Value} {x : Int32} (h : oI v = some x) : v = .int x := by
  unfold oI at h
  split at h
  · cases h; rfl
  · cases h
theorem oR_inv {v : Value} {r : Option Nat} (h : oR v = some r) : v = va_rf r := by
  unfold oR at h
  split at h
  · cases h; rfl
  · cases h; rfl
  · cases h
theorem gI_inv {w : Mp} {r : Option Nat} {ci k : Nat} {x : Int32} (h : gI w r ci k = some x) : ∃ a fs, r = some a ∧ w a = some (.inl (ci, fs)) ∧ fs[k]? = some (.int x) := by
  obtain ⟨v, hv, hx⟩ := Option.bind_eq_some_iff.mp h
  obtain ⟨a, fs, h1, h2, h3⟩ := gF_inv hv
  exact ⟨a, fs, h1, h2, by rw [h3, oI_inv hx]⟩
theorem gR_inv {w : Mp} {r : Option Nat} {ci k : Nat} {x : Option Nat} (h : gR w r ci k = some x) : ∃ a fs, r = some a ∧ w a = some (.inl (ci, fs)) ∧ fs[k]? = some (va_rf x) := by
  obtain ⟨v, hv, hx⟩ := Option.bind_eq_some_iff.mp h
  obtain ⟨a, fs, h1, h2, h3⟩ := gF_inv hv
  exact ⟨a, fs, h1, h2, by rw [h3, oR_inv hx]⟩
theorem pF_inv {w w' : Mp} {r : Option Nat} {ci k : Nat} {v : Value} (h : pF w r ci k v = some w') : ∃ a fs, r = some a ∧ w a = some (.inl (ci, fs)) ∧ k < fs.length ∧ w' = va_up w a (some (.inl (ci, fs.set k v))) := by
  unfold pF at h
  split at h
  · cases h
  · rename_i a
    split at h
    · rename_i o ho
      split at h
      · rename_i hc
        cases h
        exact ⟨a, o.2, rfl, by rw [ho, ← hc.1], hc.2, rfl⟩
      · cases h
    · cases h
theorem aI_inv {w : Mp} {r : Option Nat} {t : Nat} {i x : Int32} (h : aI w r t i = some x) : ∃ a n f, r = some a ∧ w a = some (.inr (t, n, .inl f)) ∧ vp_in i n ∧ x = f i.toNatClampNeg := by
  unfold aI at h
  split at h
  · cases h
  · rename_i a
    split at h
    · rename_i t' n f ho
      split at h
      · rename_i hc
        cases h
        exact ⟨a, n, f, rfl, by rw [ho, hc.1], hc.2, rfl⟩
      · cases h
    · cases h
theorem aL_inv {w : Mp} {r : Option Nat} {t : Nat} {x : Int32} (h : aL w r t = some x) : ∃ a q, r = some a ∧ w a = some (.inr (t, q)) ∧ x = Int32.ofNat q.1 := by
  unfold aL at h
  split at h
  · cases h
  · rename_i a
    split at h
    · rename_i t' n f ho
      split at h
      · rename_i hc
        cases h
        exact ⟨a, (n, f), rfl, by rw [ho, hc], rfl⟩
      · cases h
    · cases h
theorem sI_inv {w w' : Mp} {r : Option Nat} {t : Nat} {i x : Int32} (h : sI w r t i x = some w') : ∃ a n f, r = some a ∧ w a = some (.inr (t, n, .inl f)) ∧ vp_in i n ∧ w' = va_up w a (some (.inr (t, n, .inl (upd f i.toNatClampNeg x)))) := by
  unfold sI at h
  split at h
  · cases h
  · rename_i a
    split at h
    · rename_i t' n f ho
      split at h
      · rename_i hc
        cases h
        exact ⟨a, n, f, rfl, by rw [ho, hc.1], hc.2, rfl⟩
      · cases h
    · cases h
theorem aR_inv {w : Mp} {r : Option Nat} {t : Nat} {i : Int32} {x : Option Nat} (h : aR w r t i = some x) : ∃ a n f, r = some a ∧ w a = some (.inr (t, n, .inr (.inr (.inr (.inr f))))) ∧ vp_in i n ∧ x = f i.toNatClampNeg := by
  unfold aR at h
  split at h
  · cases h
  · rename_i a
    split at h
    · rename_i t' n f ho
      split at h
      · rename_i hc
        cases h
        exact ⟨a, n, f, rfl, by rw [ho, hc.1], hc.2, rfl⟩
      · cases h
    · cases h
theorem sR_inv {w w' : Mp} {r : Option Nat} {t ci : Nat} {i : Int32} {v : Option Nat} (h : sR w r t ci i v = some w') : ∃ a n f, r = some a ∧ w a = some (.inr (t, n, .inr (.inr (.inr (.inr f))))) ∧ vp_in i n ∧ (∀ b, v = some b → ∃ fs, w b = some (.inl (ci, fs))) ∧ w' = va_up w a (some (.inr (t, n, .inr (.inr (.inr (.inr (va_up f i.toNatClampNeg v))))))) := by
  unfold sR at h
  split at h
  · cases h
  · rename_i a
    split at h
    · rename_i t' n f ho
      split at h
      · rename_i hc
        cases h
        refine ⟨a, n, f, rfl, by rw [ho, hc.1.1], hc.1.2, fun b hb => ?_, rfl⟩
        have h2 := hc.2
        subst hb
        unfold xis at h2
        dsimp only at h2
        split at h2
        · rename_i o ho2
          exact ⟨o.2, by rw [ho2, ← eq_of_beq h2]⟩
        · cases h2
      · cases h
    · cases h
theorem xhd_one {G : Gx} {cl : List vw_C} {w : Mp} {H : Heap} (h : xhd G cl w H) {a : Nat} {e : Cel} (he : w a = some e) : va_P G.2.1 cl [(a, xce G e)] H := by
  intro k q hk
  match k, hk with
  | 0, hk => cases hk; exact (h a e he).2
  | k + 1, hk => simp at hk
/-- a cell is written: all others stay -/
theorem xhd_set {G : Gx} {cl : List vw_C} {w : Mp} {H H1 : Heap} (h : xhd G cl w H) {a : Nat} {e0 e : Cel} (h0 : w a = some e0) (he : va_at G.2.1 cl (a, xce G e) H1) (oq : ∀ q : Nat, q ≠ a → H1[q]? = H[q]?) : xhd G cl (va_up w a (some e)) H1 := by
  intro b x hx
  unfold va_up at hx
  split at hx
  · rename_i hb
    cases hx
    rw [hb]
    exact ⟨(h a e0 h0).1, he⟩
  · rename_i hb
    obtain ⟨h1, h2⟩ := h b x hx
    exact ⟨h1, h2.kept (oq b hb)⟩
/-- a cell is made -/
theorem xhd_new {G : Gx} {cl : List vw_C} {w : Mp} {H H1 : Heap} (h : xhd G cl w H) {e : Cel} (hB : G.1 ≤ H.size) (he : va_at G.2.1 cl (H.size, xce G e) H1) (oq : ∀ q : Nat, q < H.size → H1[q]? = H[q]?) : xhd G cl (va_up w H.size (some e)) H1 := by
  intro b x hx
  unfold va_up at hx
  split at hx
  · rename_i hb
    cases hx
    rw [hb]
    exact ⟨hB, he⟩
  · obtain ⟨h1, h2⟩ := h b x hx
    exact ⟨h1, h2.kept (oq b h2.lt)⟩
theorem va_rf_cat (r : Option Nat) : (va_rf r).category = 1 := by cases r <;> rfl
