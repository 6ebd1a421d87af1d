/-! THE START: what the tables and the premises give at the law's entry -/
theorem xs_p {args : Array Value} {s : State} {ty : FieldType} (h : (Cond.arrayClass ty).before args s = true) : ∃ cA : ClassId, ArrOfT s cA ty ∧ s.vm.findClass ("[" ++ ty.toString) = some cA := by
  obtain ⟨cA, kA, comp, h1, h2, h3⟩ := Cond.arrayClass_spec h
  exact ⟨cA, fun n z => ⟨fun k h => (by cases h), kA, h2, comp, h3⟩, h1⟩
theorem xs_o {args : Array Value} {s : State} {C : String} (h : (Cond.arrayOver (.object C)).before args s = true) : ∃ cA : ClassId, ArrOfT s cA (.object C) ∧ va_RA s cA (.object C) := by
  obtain ⟨comp, cA, kA, h1, h2, h3, h4, h5⟩ := Cond.arrayOver_spec h
  exact ⟨cA, fun n z => ⟨fun k h => (by cases h), kA, h3, comp, h4⟩, kA, comp, h3, h4, h1, h5⟩
theorem xs_strT : ∀ q ∈ xstr, Cond.stringRef q.1 q.2.1 q.2.2 ∈ lw_tbl := by decide +kernel
theorem xs_aoT : ∀ q ∈ xao, Cond.arrayOver (.object q) ∈ lw_tbl := by decide +kernel
set_option maxHeartbeats 4000000 in
set_option maxRecDepth 100000 in
theorem xs_facts {s : State} {args : Array Value} (h : (Jvm.Cond.and given_1 narrow_1).before args s = true) :
    (∀ q ∈ xstr, (Cond.exactly (.string q.1 q.2.1) "java/lang/String").before args s = true) ∧ (∀ q ∈ xnc, (Cond.not (.castable q.1 q.2)).before args s = true) ∧
    (Cond.arrayOf (.static "LeafMatches" "SHIFTS" "[I") .int).before args s = true ∧ (Cond.eq (.length (.static "LeafMatches" "SHIFTS" "[I")) (.int 7)).before args s = true ∧
    (∀ j : Fin 7, (Cond.eq (.elem (.static "LeafMatches" "SHIFTS" "[I") (.int (Int32.ofNat j.val))) (.int (xsh j.val))).before args s = true) ∧
    (Cond.isRef (.static Bundle.tN "UNASSIGNED_STACK" Bundle.steD)).before args s = true ∧ (Cond.isRef (.static Bundle.tN "SUPPRESSED_SENTINEL" Bundle.listD)).before args s = true := by
  have hs := flat_of_before _ h
  exact ⟨fun q hq => hs _ ((show ∀ q ∈ xstr, Cond.exactly (.string q.1 q.2.1) "java/lang/String" ∈ flatC (Jvm.Cond.and given_1 narrow_1) by decide +kernel) q hq),
    fun q hq => hs _ ((show ∀ q ∈ xnc, Cond.not (.castable q.1 q.2) ∈ flatC (Jvm.Cond.and given_1 narrow_1) by decide +kernel) q hq),
    hs _ (by decide +kernel), hs _ (by decide +kernel), fun j => hs _ ((show ∀ j : Fin 7, Cond.eq (.elem (.static "LeafMatches" "SHIFTS" "[I") (.int (Int32.ofNat j.val))) (.int (xsh j.val)) ∈ flatC (Jvm.Cond.and given_1 narrow_1) by decide +kernel) j), hs _ (by decide +kernel), hs _ (by decide +kernel)⟩
set_option maxRecDepth 100000 in
theorem xj_b1 : ((flatC (Jvm.Cond.and given_1 narrow_1)).drop 24).take 100 = (List.range 100).map (fun j => Cond.eq (.elem (.static "java/lang/Integer" "DigitOnes" "[B") (.int (Int32.ofNat j))) (.int (xd1 j))) := by decide +kernel
set_option maxRecDepth 100000 in
theorem xj_b2 : ((flatC (Jvm.Cond.and given_1 narrow_1)).drop 127).take 100 = (List.range 100).map (fun j => Cond.eq (.elem (.static "java/lang/Integer" "DigitTens" "[B") (.int (Int32.ofNat j))) (.int (xd2 j))) := by decide +kernel
theorem xj_in {α : Type} {l : List α} {k n : Nat} {f : Nat → α} (h : (l.drop k).take n = (List.range n).map f) {j : Nat} (hj : j < n) : f j ∈ l := List.mem_of_mem_drop (List.mem_of_mem_take (by rw [h]; exact List.mem_map.mpr ⟨j, List.mem_range.mpr hj, rfl⟩))
set_option maxHeartbeats 4000000 in
set_option maxRecDepth 100000 in
theorem xj_facts {s : State} {args : Array Value} (h : (Jvm.Cond.and given_1 narrow_1).before args s = true) :
    (Cond.eq (.static "java/lang/String" "COMPACT_STRINGS" "Z") (.int 1)).before args s = true ∧
    ((Cond.arrayOf (.static "java/lang/Integer" "DigitOnes" "[B") .byte).before args s = true ∧ (Cond.eq (.length (.static "java/lang/Integer" "DigitOnes" "[B")) (.int 100)).before args s = true ∧
      (∀ j : Fin 100, (Cond.eq (.elem (.static "java/lang/Integer" "DigitOnes" "[B") (.int (Int32.ofNat j.val))) (.int (xd1 j.val))).before args s = true)) ∧
    ((Cond.arrayOf (.static "java/lang/Integer" "DigitTens" "[B") .byte).before args s = true ∧ (Cond.eq (.length (.static "java/lang/Integer" "DigitTens" "[B")) (.int 100)).before args s = true ∧
      (∀ j : Fin 100, (Cond.eq (.elem (.static "java/lang/Integer" "DigitTens" "[B") (.int (Int32.ofNat j.val))) (.int (xd2 j.val))).before args s = true)) ∧
    (Cond.isRef (.static "jdk/internal/util/Preconditions" "SIOOBE_FORMATTER" "Ljava/util/function/BiFunction;")).before args s = true := by
  have hs := flat_of_before _ h
  exact ⟨hs _ (by decide +kernel), ⟨hs _ (by decide +kernel), hs _ (by decide +kernel), fun j => hs _ (xj_in xj_b1 j.isLt)⟩,
    ⟨hs _ (by decide +kernel), hs _ (by decide +kernel), fun j => hs _ (xj_in xj_b2 j.isLt)⟩, hs _ (by decide +kernel)⟩
set_option maxHeartbeats 4000000 in
set_option maxRecDepth 100000 in
theorem xj_text {s : State} {args : Array Value} (h : (Jvm.Cond.and given_1 narrow_1).before args s = true) :
    (Cond.exactly (.string "LeafMatches" 276) "java/lang/String").before args s = true ∧ (Cond.eq (.field (.string "LeafMatches" 276) "java/lang/String" "coder" "B") (.int 0)).before args s = true ∧ (Cond.arrayOf (.field (.string "LeafMatches" 276) "java/lang/String" "value" "[B") .byte).before args s = true ∧
    (Cond.eq (.length (.field (.string "LeafMatches" 276) "java/lang/String" "value" "[B")) (.int 4)).before args s = true ∧ (∀ j : Fin 4, (Cond.eq (.elem (.field (.string "LeafMatches" 276) "java/lang/String" "value" "[B") (.int (Int32.ofNat j.val))) (.int (([66, 83, 82, 68] : List Int32).getD j.val 0))).before args s = true) := by
  have hs := flat_of_before _ h
  exact ⟨hs _ (by decide +kernel), hs _ (by decide +kernel), hs _ (by decide +kernel), hs _ (by decide +kernel), fun j => hs _ ((show ∀ j : Fin 4, Cond.eq (.elem (.field (.string "LeafMatches" 276) "java/lang/String" "value" "[B") (.int (Int32.ofNat j.val))) (.int (([66, 83, 82, 68] : List Int32).getD j.val 0)) ∈ flatC (Jvm.Cond.and given_1 narrow_1) by decide +kernel) j)⟩
set_option maxHeartbeats 4000000 in
set_option maxRecDepth 100000 in
theorem xJD_start {s : State} {b : Nat} (hts : ∀ w ∈ lw_tbl, w.before #[Value.ref b] s = true) (hgv : (Jvm.Cond.and given_1 narrow_1).before #[Value.ref b] s = true) : ∃ c1 c2 c3 c4 : Nat, ∀ G : Gx, G.1 = s.heap.size → G.2.2.2 1 = c1 → G.2.2.2 2 = c2 → G.2.2.2 3 = c3 → G.2.2.2 4 = c4 → xJD G s := by
  obtain ⟨f1, ⟨f2, f3, f4⟩, ⟨f5, f6, f7⟩, f8⟩ := xj_facts hgv
  obtain ⟨t1, t2, t3, t4, t5⟩ := xj_text hgv
  have hA : ∀ a : Nat, a < s.heap.size → ¬ (fun q : Nat => s.heap.size ≤ q) a := fun a h1 h2 => absurd h1 (Nat.not_lt.mpr h2)
  obtain ⟨d1, e1, T1⟩ := va_Tof (tm := .static "java/lang/Integer" "DigitOnes" "[B") (ty := .byte) (N := 100) (f := fun j => .int (xd1 j)) (A := fun q : Nat => s.heap.size ≤ q) (by decide) f2 (va_eqt f3) (fun j hj => va_eqt (f4 ⟨j, hj⟩)) hA
  obtain ⟨d2, e2, T2⟩ := va_Tof (tm := .static "java/lang/Integer" "DigitTens" "[B") (ty := .byte) (N := 100) (f := fun j => .int (xd2 j)) (A := fun q : Nat => s.heap.size ≤ q) (by decide) f5 (va_eqt f6) (fun j hj => va_eqt (f7 ⟨j, hj⟩)) hA
  have Z0 := va_Zof (v := .int 1) (A := fun q : Nat => s.heap.size ≤ q) (hts (.laysStatic "java/lang/String" "COMPACT_STRINGS" "Z") (by decide +kernel)) (hts (.initialized "java/lang/String") (by decide +kernel)) (va_eqt f1) hA
  have Z1 := va_Zref (A := fun q : Nat => s.heap.size ≤ q) (hts (.laysStatic "java/lang/Integer" "DigitOnes" "[B") (by decide +kernel)) (hts (.initialized "java/lang/Integer") (by decide +kernel)) e1 hA
  have Z2 := va_Zref (A := fun q : Nat => s.heap.size ≤ q) (hts (.laysStatic "java/lang/Integer" "DigitTens" "[B") (by decide +kernel)) (hts (.initialized "java/lang/Integer") (by decide +kernel)) e2 hA
  have Z3 := vx_Zqof (A := fun q : Nat => s.heap.size ≤ q) (hts (.laysStatic "jdk/internal/util/Preconditions" "SIOOBE_FORMATTER" "Ljava/util/function/BiFunction;") (by decide +kernel)) (hts (.initialized "jdk/internal/util/Preconditions") (by decide +kernel)) f8 hA
  have z1 : ∀ i : Nat, i < 1 → ([4] : List Nat).getD i 0 < 2 ^ 31 := by decide
  have z2 : ∀ i : Nat, i < 1 → (Cond.eq (.length (.field (.string "LeafMatches" 276) "java/lang/String" "value" "[B")) (.int (Int32.ofNat (([4] : List Nat).getD i 0)))).before #[Value.ref b] s = true := fun i hi => by
    obtain rfl : i = 0 := by omega
    exact t4
  have z3 : ∀ i : Nat, i < 1 → ∀ j : Nat, j < ([4] : List Nat).getD i 0 → (Cond.eq (.elem (.field (.string "LeafMatches" 276) "java/lang/String" "value" "[B") (.int (Int32.ofNat j))) (.int ((([[66, 83, 82, 68]] : List (List Int32)).getD i []).getD j 0))).before #[Value.ref b] s = true := fun i hi j hj => by
    obtain rfl : i = 0 := by omega
    exact t5 ⟨j, hj⟩
  obtain ⟨aK, aV, S, hS⟩ := vk_Sof (args := #[Value.ref b]) (s := s) (N := 1) (tm := fun _ => .string "LeafMatches" 276) (len := [4]) (byt := [[66, 83, 82, 68]]) (A := fun q : Nat => s.heap.size ≤ q)
    (fun i hi => z1 i hi) (fun i _ => t1) (fun i _ => t2) (fun i _ => t3) (fun i hi => z2 i hi) (fun i hi j hj => z3 i hi j hj) (fun i j hi hj hne => by omega) hA
  have hR := vk_R.of (hts (.stringRef "LeafMatches" 276 "BSRD") (by decide +kernel)) (hS 0 (by decide))
  have hsel := va_Nw.of (w := Cond.selects "java/lang/StringBuilder" y_ens y_ens) rfl (xj_sel (C := "java/lang/StringBuilder") (y := y_ens) (z := ⟨"java/lang/AbstractStringBuilder", "isLatin1", "()Z"⟩) (n := 4) (by decide) rfl (hts (.instantiable "java/lang/StringBuilder" 4) (by decide +kernel)) (hts (.privateMethod y_ens) (by decide +kernel)) (hts (.instanceMethod y_ens) (by decide +kernel)) (hts (.instanceMethod ⟨"java/lang/AbstractStringBuilder", "isLatin1", "()Z"⟩) (by decide +kernel)) (hts (.selects "java/lang/StringBuilder" ⟨"java/lang/AbstractStringBuilder", "isLatin1", "()Z"⟩ ⟨"java/lang/AbstractStringBuilder", "isLatin1", "()Z"⟩) (by decide +kernel)))
  refine ⟨d1, d2, aK 0, aV 0, fun G g1 g2 g3 g4 g5 => ?_⟩
  have eA : xA G = fun q : Nat => s.heap.size ≤ q := by
    funext q
    show (G.1 ≤ q) = _
    rw [g1]
  unfold xJD
  rw [eA, g2, g3, g4, g5]
  refine ⟨Z0, ⟨Z1, T1⟩, ⟨Z2, T2⟩, Z3, ⟨fun i hi => ?_, fun i j hi hj _ => by omega⟩, hR, hsel⟩
  obtain rfl : i = 0 := by omega
  exact S.1 0 (by decide)
set_option maxHeartbeats 4000000 in
set_option maxRecDepth 100000 in
theorem xE_start {s : State} {b : Nat} (hts : ∀ w ∈ lw_tbl, w.before #[Value.ref b] s = true) (hgv : (Jvm.Cond.and given_1 narrow_1).before #[Value.ref b] s = true) : ∃ G : Gx, G.1 = s.heap.size ∧ xE G vwCl xaty s := by
  obtain ⟨f1, f2, f3, f4, f5, f6, f7⟩ := xs_facts hgv
  obtain ⟨c0, i0, k0⟩ := u_known (C := R_LM) (T := F_LM) (N := 6) (n := 6) hts il_LM (hts (.instantiable R_LM 6) (by decide +kernel))
  obtain ⟨c1, i1, k1⟩ := u_known (C := R_Leaf) (T := F_Leaf) (N := 8) (n := 8) hts il_Leaf (hts (.instantiable R_Leaf 8) (by decide +kernel))
  obtain ⟨c2, i2, k2⟩ := u_known (C := R_Piece) (T := F_Piece) (N := 5) (n := 5) hts il_Piece (hts (.instantiable R_Piece 5) (by decide +kernel))
  obtain ⟨c3, i3, k3⟩ := u_known (C := R_Face) (T := F_Face) (N := 2) (n := 2) hts il_Face (hts (.instantiable R_Face 2) (by decide +kernel))
  obtain ⟨c4, i4, k4⟩ := u_known (C := R_Plan) (T := F_Plan) (N := 9) (n := 9) hts il_Plan (hts (.instantiable R_Plan 9) (by decide +kernel))
  obtain ⟨c5, i5, k5⟩ := u_known (C := R_Mod) (T := F_Mod) (N := 22) (n := 22) hts il_Mod (hts (.instantiable R_Mod 22) (by decide +kernel))
  obtain ⟨c6, i6, k6⟩ := u_known (C := R_SB) (T := F_SB) (N := 4) (n := 4) hts il_SB (hts (.instantiable R_SB 4) (by decide +kernel))
  obtain ⟨a0, p0, n0⟩ := xs_p (hts (.arrayClass .int) (by decide +kernel))
  obtain ⟨a1, p1, n1⟩ := xs_o (hts (.arrayOver (.object "LeafMatches$Leaf")) (by decide +kernel))
  obtain ⟨a2, p2, n2⟩ := xs_o (hts (.arrayOver (.object "LeafMatches$Face")) (by decide +kernel))
  obtain ⟨a3, p3, n3⟩ := xs_o (hts (.arrayOver (.object "LeafMatches$Piece")) (by decide +kernel))
  obtain ⟨a4, p4, n4⟩ := xs_p (hts (.arrayClass .boolean) (by decide +kernel))
  obtain ⟨a5, p5, n5⟩ := xs_p (hts (.arrayClass .long) (by decide +kernel))
  obtain ⟨a6, p6, n6⟩ := xs_p (hts (.arrayClass .byte) (by decide +kernel))
  obtain ⟨g1, g2, g3, g4, hJ⟩ := xJD_start hts hgv
  have hA : ∀ a : Nat, a < s.heap.size → ¬ (fun q : Nat => s.heap.size ≤ q) a := fun a h1 h2 => absurd h1 (Nat.not_lt.mpr h2)
  obtain ⟨t, ht, hT⟩ := va_Tof (tm := .static "LeafMatches" "SHIFTS" "[I") (ty := .int) (N := 7) (f := fun j => .int (xsh j)) (A := fun q : Nat => s.heap.size ≤ q) (by decide) f3 (va_eqt f4) (fun j hj => va_eqt (f5 ⟨j, hj⟩)) hA
  have hZ := va_Zref (A := fun q : Nat => s.heap.size ≤ q) (hts (.laysStatic "LeafMatches" "SHIFTS" "[I") (by decide +kernel)) (hts (.initialized "LeafMatches") (by decide +kernel)) ht hA
  have hZ1 := vx_Zqof (A := fun q : Nat => s.heap.size ≤ q) (hts (.laysStatic Bundle.tN "UNASSIGNED_STACK" Bundle.steD) (by decide +kernel)) (hts (.initialized Bundle.tN) (by decide +kernel)) f6 hA
  have hZ2 := vx_Zqof (A := fun q : Nat => s.heap.size ≤ q) (hts (.laysStatic Bundle.tN "SUPPRESSED_SENTINEL" Bundle.listD) (by decide +kernel)) (hts (.initialized Bundle.tN) (by decide +kernel)) f7 hA
  refine ⟨(s.heap.size, (fun k => match k with | 0 => c0 | 1 => c1 | 2 => c2 | 3 => c3 | 4 => c4 | 5 => c5 | _ => c6, fun k => match k with | 0 => i0 | 1 => i1 | 2 => i2 | 3 => i3 | 4 => i4 | 5 => i5 | _ => i6), (fun k => match k with | 0 => a0 | 1 => a1 | 2 => a2 | 3 => a3 | 4 => a4 | 5 => a5 | _ => a6), fun k => match k with | 1 => g1 | 2 => g2 | 3 => g3 | 4 => g4 | _ => t), rfl, ⟨?_, ?_⟩, ⟨Nat.le_refl _, hJ _ rfl rfl rfl rfl rfl⟩, fun w hw => va_Nw.of (xnw_tab w hw) (hts w (xnw_in w hw)), ⟨hZ, hT⟩, ⟨hZ1, hZ2⟩, ?_, fun q hq => va_Nc.of (f2 q hq), fun q hq => va_AO.of (hts _ (xs_aoT q hq))⟩
  · intro k q hq
    match k, hq with
    | 0, hq => cases hq; exact k0
    | 1, hq => cases hq; exact k1
    | 2, hq => cases hq; exact k2
    | 3, hq => cases hq; exact k3
    | 4, hq => cases hq; exact k4
    | 5, hq => cases hq; exact k5
    | 6, hq => cases hq; exact k6
    | k + 7, hq => simp [vwCl] at hq
  · intro k q hq
    match k, hq with
    | 0, hq => cases hq; exact ⟨p0, n0⟩
    | 1, hq => cases hq; exact ⟨p1, n1⟩
    | 2, hq => cases hq; exact ⟨p2, n2⟩
    | 3, hq => cases hq; exact ⟨p3, n3⟩
    | 4, hq => cases hq; exact ⟨p4, n4⟩
    | 5, hq => cases hq; exact ⟨p5, n5⟩
    | 6, hq => cases hq; exact ⟨p6, n6⟩
    | k + 7, hq => simp [xT, xaty] at hq
  · intro q hq
    obtain ⟨a, c, cell, k, h1, -⟩ := Cond.exactly_spec (f1 q hq)
    exact ⟨a, vk_R.of (hts _ (xs_strT q hq)) h1⟩
theorem start_of {p : Program} {e : Env} {s : State} {m : MethodId} {below : List Frame} {meth : Method} {c : Code} (l : Launch) (hlt : l.stackTraces = false) {b L : Nat} {xs : Nat → Int32} (hp : ∃ res, f_Law_law L xs (fun _ => none) s.heap.size b = some res ∧ res.1 = 1) (C0 : lw_At p s m meth c b L xs) : W p l e room_1 s m #[Value.ref b] below meth c s.heap [] 0 0 (lw_Z below #[Value.ref b] s) (entryFrame m ([Value.ref b] : List Value).toArray 8) := by
  obtain ⟨hx, hb, hr, hml, hown, hts, hX, hbl, hlocks, hgv⟩ := id C0
  obtain ⟨G, hG, hE⟩ := xE_start hts hgv
  obtain ⟨res, hf, hres⟩ := hp
  have hbA : ¬ xA G b := by
    show ¬ G.1 ≤ b
    rw [hG]; exact Nat.not_le.mpr hbl
  obtain ⟨ls, he, hl⟩ := x_entry m [.inr (.inl (some b))] 8 (Nat.le_of_ble_eq_true rfl)
  refine (show entryFrame m ([Value.ref b] : List Value).toArray 8 = F0 m 0 ls [] from he) ▸ ?_
  exact law_walk hlt hG ⟨hx, hb, hml, hown, fun w hw => hts w (List.mem_filter.mp hw).1⟩ hE hX hbl hbA hr hlocks hf hres s.heap [] ls (fun a e h => by cases h) va_S.rf rfl hl
