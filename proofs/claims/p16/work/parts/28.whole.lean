theorem num_ok (B : Nat) : NumOK B := fun g w sz n a b c h => by
  obtain ⟨T, K, V, R, I, O, N, a5, a6, a7, h1, h2, h3, h4, h5, h6, h7⟩ := h
  refine (n_number h1 h2 h3 h4).mono (fun q hq => ?_)
  obtain ⟨q1, q2, q3⟩ := hq
  refine ⟨⟨T, K, V, R, I, O, N, a5, a6, a7, CW_re q1 (fun _ _ => rfl), h2, h3.le q2, by omega, h5, h6, h7⟩, fun x x1 x2 => CW_fr q1 x1 x2, ?_⟩
  rcases q3 with e | e | e
  · exact Or.inl e
  · exact Or.inr ⟨2, by decide, e⟩
  · exact Or.inr ⟨1, by decide, e⟩
theorem whole_start {p : Program} {e : Env} {s : State} {m : MethodId} {below : List Frame} {meth : Method} {c : Code} (l : Launch) (hlt : l.stackTraces = false) {b L : Nat} {xs : Nat → Int32} (hL : L ≤ 2560) (C0 : lw_At p s m meth c b L xs) : W p l e room_1 s m #[Value.ref b] below meth c s.heap [] 0 0 (lw_Z below #[Value.ref b] s) (entryFrame m ([Value.ref b] : List Value).toArray 8) :=
  start_of l hlt (law_pure hL xs s.heap.size b (num_ok _)) C0
