theorem kw_1_43 : (Jvm.Cond.fieldLink "LeafMatches$Planner" (15 : Nat) "LeafMatches$Planner" "wantedCount" "I") ∈ wA := ku_1 43 rfl rfl
theorem kw_1_51 : (Jvm.Cond.fieldLink "LeafMatches$Planner" (29 : Nat) "LeafMatches$Planner" "rowEnd" "[I") ∈ wA := ku_1 51 rfl rfl
theorem kw_1_52 : (Jvm.Cond.fieldLink "LeafMatches$Planner" (32 : Nat) "LeafMatches$Planner" "rowLoss" "[I") ∈ wA := ku_1 52 rfl rfl
theorem kw_1_53 : (Jvm.Cond.fieldLink "LeafMatches$Planner" (35 : Nat) "LeafMatches$Planner" "leastLoss" "[I") ∈ wA := ku_1 53 rfl rfl
theorem kw_1_54 : (Jvm.Cond.fieldLink "LeafMatches$Planner" (38 : Nat) "LeafMatches$Planner" "sets" "I") ∈ wA := ku_1 54 rfl rfl
theorem d_Plan_faceBegunAt_0 : decode b_Plan_faceBegunAt 0 = .ok (.iconst 0, 1) := by decide +kernel
theorem d_Plan_faceBegunAt_1 : decode b_Plan_faceBegunAt 1 = .ok (.istore_n 3, 1) := by decide +kernel
theorem d_Plan_faceBegunAt_2 : decode b_Plan_faceBegunAt 2 = .ok (.iload_n 3, 1) := by decide +kernel
theorem d_Plan_faceBegunAt_3 : decode b_Plan_faceBegunAt 3 = .ok (.aload_n 0, 1) := by decide +kernel
theorem d_Plan_faceBegunAt_4 : decode b_Plan_faceBegunAt 4 = .ok (.getfield 15, 3) := by decide +kernel
theorem d_Plan_faceBegunAt_7 : decode b_Plan_faceBegunAt 7 = .ok (.if_icmp .ge 90, 3) := by decide +kernel
theorem d_Plan_faceBegunAt_10 : decode b_Plan_faceBegunAt 10 = .ok (.iconst 1, 1) := by decide +kernel
theorem d_Plan_faceBegunAt_11 : decode b_Plan_faceBegunAt 11 = .ok (.iload_n 3, 1) := by decide +kernel
theorem d_Plan_faceBegunAt_12 : decode b_Plan_faceBegunAt 12 = .ok (.ishl, 1) := by decide +kernel
theorem d_Plan_faceBegunAt_13 : decode b_Plan_faceBegunAt 13 = .ok (.istore 4, 2) := by decide +kernel
theorem d_Plan_faceBegunAt_15 : decode b_Plan_faceBegunAt 15 = .ok (.aload_n 0, 1) := by decide +kernel
theorem d_Plan_faceBegunAt_16 : decode b_Plan_faceBegunAt 16 = .ok (.getfield 29, 3) := by decide +kernel
theorem d_Plan_faceBegunAt_19 : decode b_Plan_faceBegunAt 19 = .ok (.iload_n 1, 1) := by decide +kernel
theorem d_Plan_faceBegunAt_20 : decode b_Plan_faceBegunAt 20 = .ok (.bipush 8, 2) := by decide +kernel
theorem d_Plan_faceBegunAt_22 : decode b_Plan_faceBegunAt 22 = .ok (.imul, 1) := by decide +kernel
theorem d_Plan_faceBegunAt_23 : decode b_Plan_faceBegunAt 23 = .ok (.iload_n 3, 1) := by decide +kernel
theorem d_Plan_faceBegunAt_24 : decode b_Plan_faceBegunAt 24 = .ok (.iadd, 1) := by decide +kernel
theorem d_Plan_faceBegunAt_25 : decode b_Plan_faceBegunAt 25 = .ok (.iaload, 1) := by decide +kernel
theorem d_Plan_faceBegunAt_26 : decode b_Plan_faceBegunAt 26 = .ok (.istore 5, 2) := by decide +kernel
theorem d_Plan_faceBegunAt_28 : decode b_Plan_faceBegunAt 28 = .ok (.aload_n 0, 1) := by decide +kernel
theorem d_Plan_faceBegunAt_29 : decode b_Plan_faceBegunAt 29 = .ok (.getfield 32, 3) := by decide +kernel
theorem d_Plan_faceBegunAt_32 : decode b_Plan_faceBegunAt 32 = .ok (.iload_n 1, 1) := by decide +kernel
theorem d_Plan_faceBegunAt_33 : decode b_Plan_faceBegunAt 33 = .ok (.bipush 8, 2) := by decide +kernel
theorem d_Plan_faceBegunAt_35 : decode b_Plan_faceBegunAt 35 = .ok (.imul, 1) := by decide +kernel
theorem d_Plan_faceBegunAt_36 : decode b_Plan_faceBegunAt 36 = .ok (.iload_n 3, 1) := by decide +kernel
theorem d_Plan_faceBegunAt_37 : decode b_Plan_faceBegunAt 37 = .ok (.iadd, 1) := by decide +kernel
theorem d_Plan_faceBegunAt_38 : decode b_Plan_faceBegunAt 38 = .ok (.iaload, 1) := by decide +kernel
theorem d_Plan_faceBegunAt_39 : decode b_Plan_faceBegunAt 39 = .ok (.istore 6, 2) := by decide +kernel
theorem d_Plan_faceBegunAt_41 : decode b_Plan_faceBegunAt 41 = .ok (.iload_n 2, 1) := by decide +kernel
theorem d_Plan_faceBegunAt_42 : decode b_Plan_faceBegunAt 42 = .ok (.iload 4, 2) := by decide +kernel
theorem d_Plan_faceBegunAt_44 : decode b_Plan_faceBegunAt 44 = .ok (.iand, 1) := by decide +kernel
theorem d_Plan_faceBegunAt_45 : decode b_Plan_faceBegunAt 45 = .ok (.ifCond .ne 46, 3) := by decide +kernel
theorem d_Plan_faceBegunAt_48 : decode b_Plan_faceBegunAt 48 = .ok (.iload 5, 2) := by decide +kernel
theorem d_Plan_faceBegunAt_50 : decode b_Plan_faceBegunAt 50 = .ok (.ifCond .eq 41, 3) := by decide +kernel
theorem d_Plan_faceBegunAt_53 : decode b_Plan_faceBegunAt 53 = .ok (.iload 6, 2) := by decide +kernel
theorem d_Plan_faceBegunAt_55 : decode b_Plan_faceBegunAt 55 = .ok (.aload_n 0, 1) := by decide +kernel
theorem d_Plan_faceBegunAt_56 : decode b_Plan_faceBegunAt 56 = .ok (.getfield 35, 3) := by decide +kernel
theorem d_Plan_faceBegunAt_59 : decode b_Plan_faceBegunAt 59 = .ok (.iload 5, 2) := by decide +kernel
theorem d_Plan_faceBegunAt_61 : decode b_Plan_faceBegunAt 61 = .ok (.aload_n 0, 1) := by decide +kernel
theorem d_Plan_faceBegunAt_62 : decode b_Plan_faceBegunAt 62 = .ok (.getfield 38, 3) := by decide +kernel
theorem d_Plan_faceBegunAt_65 : decode b_Plan_faceBegunAt 65 = .ok (.imul, 1) := by decide +kernel
theorem d_Plan_faceBegunAt_66 : decode b_Plan_faceBegunAt 66 = .ok (.iload_n 2, 1) := by decide +kernel
theorem d_Plan_faceBegunAt_67 : decode b_Plan_faceBegunAt 67 = .ok (.iload 4, 2) := by decide +kernel
theorem d_Plan_faceBegunAt_69 : decode b_Plan_faceBegunAt 69 = .ok (.ior, 1) := by decide +kernel
theorem d_Plan_faceBegunAt_70 : decode b_Plan_faceBegunAt 70 = .ok (.iadd, 1) := by decide +kernel
theorem d_Plan_faceBegunAt_71 : decode b_Plan_faceBegunAt 71 = .ok (.iaload, 1) := by decide +kernel
theorem d_Plan_faceBegunAt_72 : decode b_Plan_faceBegunAt 72 = .ok (.iadd, 1) := by decide +kernel
theorem d_Plan_faceBegunAt_73 : decode b_Plan_faceBegunAt 73 = .ok (.aload_n 0, 1) := by decide +kernel
theorem d_Plan_faceBegunAt_74 : decode b_Plan_faceBegunAt 74 = .ok (.getfield 35, 3) := by decide +kernel
theorem d_Plan_faceBegunAt_77 : decode b_Plan_faceBegunAt 77 = .ok (.iload_n 1, 1) := by decide +kernel
theorem d_Plan_faceBegunAt_78 : decode b_Plan_faceBegunAt 78 = .ok (.aload_n 0, 1) := by decide +kernel
theorem d_Plan_faceBegunAt_79 : decode b_Plan_faceBegunAt 79 = .ok (.getfield 38, 3) := by decide +kernel
theorem d_Plan_faceBegunAt_82 : decode b_Plan_faceBegunAt 82 = .ok (.imul, 1) := by decide +kernel
theorem d_Plan_faceBegunAt_83 : decode b_Plan_faceBegunAt 83 = .ok (.iload_n 2, 1) := by decide +kernel
theorem d_Plan_faceBegunAt_84 : decode b_Plan_faceBegunAt 84 = .ok (.iadd, 1) := by decide +kernel
theorem d_Plan_faceBegunAt_85 : decode b_Plan_faceBegunAt 85 = .ok (.iaload, 1) := by decide +kernel
theorem d_Plan_faceBegunAt_86 : decode b_Plan_faceBegunAt 86 = .ok (.if_icmp .ne 5, 3) := by decide +kernel
theorem d_Plan_faceBegunAt_89 : decode b_Plan_faceBegunAt 89 = .ok (.iload_n 3, 1) := by decide +kernel
theorem d_Plan_faceBegunAt_90 : decode b_Plan_faceBegunAt 90 = .ok (.ireturn, 1) := by decide +kernel
theorem d_Plan_faceBegunAt_91 : decode b_Plan_faceBegunAt 91 = .ok (.iinc 3 1, 3) := by decide +kernel
theorem d_Plan_faceBegunAt_94 : decode b_Plan_faceBegunAt 94 = .ok (.goto (-92), 3) := by decide +kernel
theorem d_Plan_faceBegunAt_97 : decode b_Plan_faceBegunAt 97 = .ok (.iconst (-1), 1) := by decide +kernel
theorem d_Plan_faceBegunAt_98 : decode b_Plan_faceBegunAt 98 = .ok (.ireturn, 1) := by decide +kernel
def f_Plan_faceBegunAt_L2 (w : Mp) (h0 : Nat) (x1 : Int32) (x2 : Int32) : Nat → Int32 → Option (Nat × Int32)
  | 0, _ => none
  | n + 1, x3 => (gI w (some h0) 4 1).bind fun v_1 => if v_1 ≤ x3 then (some (0, x3)) else ((gR w (some h0) 4 5).bind fun v_2 => (aI w v_2 0 ((x1 * (8 : Int32)) + x3)).bind fun v_3 => (gR w (some h0) 4 6).bind fun v_4 => (aI w v_4 0 ((x1 * (8 : Int32)) + x3)).bind fun v_5 => if (x2 &&& ((1 : Int32) <<< (x3 &&& 31))) = 0 then (if v_3 = 0 then (f_Plan_faceBegunAt_L2 w h0 x1 x2 n (x3 + 1)) else ((gR w (some h0) 4 7).bind fun v_6 => (gI w (some h0) 4 8).bind fun v_7 => (aI w v_6 0 ((v_3 * v_7) + (x2 ||| ((1 : Int32) <<< (x3 &&& 31))))).bind fun v_8 => (gR w (some h0) 4 7).bind fun v_9 => (gI w (some h0) 4 8).bind fun v_10 => (aI w v_9 0 ((x1 * v_10) + x2)).bind fun v_11 => if (v_5 + v_8) = v_11 then (some (1, x3)) else (f_Plan_faceBegunAt_L2 w h0 x1 x2 n (x3 + 1)))) else (f_Plan_faceBegunAt_L2 w h0 x1 x2 n (x3 + 1)))
set_option maxHeartbeats 4000000 in
set_option maxRecDepth 100000 in
theorem w_Plan_faceBegunAt_L2 {p : Program} {l : Launch} {e : Env} {R : Room} {s : State} {m : MethodId} {args : Array Value} {below : List Frame} {meth : Method} {c : Code} {Q : State → Prop} {cells slots sz : Nat} {G : Gx} {h0 : Nat} {x1 : Int32} {x2 : Int32} (C0 : CallFix p m c b_Plan_faceBegunAt 7 s args wA R_Plan) (hE : xE G vwCl xaty s) (hR1 : 0 ≤ R.frames) (hR2 : 0 ≤ R.locals) (hR3 : cells ≤ R.cells) (hR4 : slots ≤ R.slots) {w : Mp} {H : Heap} {locs : List Loc} (hH : xhd G vwCl w H) (hS : xS G s H locs) (hz : H.size = sz) : ∀ (n : Nat) (x3 : Int32) (q : Nat × Int32) (ls : Array Slot), xL ls 7 [(0, .inr (.inl (some h0))), (1, .inl x1), (2, .inl x2), (3, .inl x3)] → f_Plan_faceBegunAt_L2 w h0 x1 x2 n x3 = some q → ((q.1 = 0 → ∀ (ls : Array Slot), xL ls 7 [(0, .inr (.inl (some h0))), (1, .inl x1), (2, .inl x2), (3, .inl q.2)] → W p l e R s m args below meth c H locs cells slots Q (F0 m 97 ls [])) ∧ (q.1 = 1 → ∀ (ls : Array Slot), xL ls 7 [(0, .inr (.inl (some h0))), (1, .inl x1), (2, .inl x2), (3, .inl q.2)] → W p l e R s m args below meth c H locs cells slots Q (F0 m 89 ls []))) → W p l e R s m args below meth c H locs cells slots Q (F0 m 2 ls []) := by
  intro n
  induction n with
  | zero => intro _ q ls hl h; cases h
  | succ n ih =>
    intro x3 q ls hl h K
    rw [f_Plan_faceBegunAt_L2] at h
    refine x_iload_n C0 hl 3 d_Plan_faceBegunAt_2 rfl rfl ?_
    refine x_aload_n C0 hl 0 d_Plan_faceBegunAt_3 rfl rfl ?_
    refine x_getI C0 hE hH (ci := 4) rfl i_Plan 1 (by decide) kw_1_43 d_Plan_faceBegunAt_4 h (fun v_1 h => ?_)
    refine x_icmp_ge C0 97 d_Plan_faceBegunAt_7 (by decide) h (fun h => ?_) (fun h => ?_)
    · cases h
      exact K.1 rfl ls (x_sub hl [0, 1, 2, 3] rfl)
    · refine lv_iconst (v := 1) C0.1 C0.2.1 d_Plan_faceBegunAt_10 (by decide) ?_
      refine x_iload_n C0 hl 3 d_Plan_faceBegunAt_11 rfl rfl ?_
      refine lv_ishl C0.1 C0.2.1 d_Plan_faceBegunAt_12 ?_
      refine x_istore (lv' := [(4, .inl ((1 : Int32) <<< (x3 &&& 31))), (0, .inr (.inl (some h0))), (1, .inl x1), (2, .inl x2), (3, .inl x3)]) C0 hl d_Plan_faceBegunAt_13 (by decide) rfl (fun ls hl => ?_)
      refine x_aload_n C0 hl 1 d_Plan_faceBegunAt_15 rfl rfl ?_
      refine x_getR C0 hE hH (ci := 4) rfl i_Plan 5 (by decide) kw_1_51 d_Plan_faceBegunAt_16 h (fun v_2 h => ?_)
      refine x_iload_n C0 hl 2 d_Plan_faceBegunAt_19 rfl rfl ?_
      refine lv_bipush (v := 8) C0.1 C0.2.1 d_Plan_faceBegunAt_20 (by decide) ?_
      refine lv_imul C0.1 C0.2.1 d_Plan_faceBegunAt_22 ?_
      refine x_iload_n C0 hl 4 d_Plan_faceBegunAt_23 rfl rfl ?_
      refine lv_iadd C0.1 C0.2.1 d_Plan_faceBegunAt_24 ?_
      refine x_iald C0 hE hH (t := 0) rfl d_Plan_faceBegunAt_25 h (fun v_3 h => ?_)
      refine x_istore (lv' := [(5, .inl v_3), (4, .inl ((1 : Int32) <<< (x3 &&& 31))), (0, .inr (.inl (some h0))), (1, .inl x1), (2, .inl x2), (3, .inl x3)]) C0 hl d_Plan_faceBegunAt_26 (by decide) rfl (fun ls hl => ?_)
      refine x_aload_n C0 hl 2 d_Plan_faceBegunAt_28 rfl rfl ?_
      refine x_getR C0 hE hH (ci := 4) rfl i_Plan 6 (by decide) kw_1_52 d_Plan_faceBegunAt_29 h (fun v_4 h => ?_)
      refine x_iload_n C0 hl 3 d_Plan_faceBegunAt_32 rfl rfl ?_
      refine lv_bipush (v := 8) C0.1 C0.2.1 d_Plan_faceBegunAt_33 (by decide) ?_
      refine lv_imul C0.1 C0.2.1 d_Plan_faceBegunAt_35 ?_
      refine x_iload_n C0 hl 5 d_Plan_faceBegunAt_36 rfl rfl ?_
      refine lv_iadd C0.1 C0.2.1 d_Plan_faceBegunAt_37 ?_
      refine x_iald C0 hE hH (t := 0) rfl d_Plan_faceBegunAt_38 h (fun v_5 h => ?_)
      refine x_istore (lv' := [(6, .inl v_5), (5, .inl v_3), (4, .inl ((1 : Int32) <<< (x3 &&& 31))), (0, .inr (.inl (some h0))), (1, .inl x1), (2, .inl x2), (3, .inl x3)]) C0 hl d_Plan_faceBegunAt_39 (by decide) rfl (fun ls hl => ?_)
      refine x_iload_n C0 hl 5 d_Plan_faceBegunAt_41 rfl rfl ?_
      refine x_iload C0 hl 2 d_Plan_faceBegunAt_42 rfl ?_
      refine lv_iand C0.1 C0.2.1 d_Plan_faceBegunAt_44 ?_
      refine x_if_ne C0 91 d_Plan_faceBegunAt_45 (by decide) h (fun h => ?_) (fun h => ?_)
      · refine x_iinc (v := 1) (lv' := [(3, .inl (x3 + 1)), (6, .inl v_5), (5, .inl v_3), (4, .inl ((1 : Int32) <<< (x3 &&& 31))), (0, .inr (.inl (some h0))), (1, .inl x1), (2, .inl x2)]) C0 hl 6 d_Plan_faceBegunAt_91 rfl (by decide) (by decide) rfl (fun ls hl => ?_)
        refine x_goto C0 2 d_Plan_faceBegunAt_94 (by decide) ?_
        exact ih _ q ls (x_sub hl [4, 5, 6, 0] rfl) h K
      · refine x_iload C0 hl 1 d_Plan_faceBegunAt_48 rfl ?_
        refine x_if_eq C0 91 d_Plan_faceBegunAt_50 (by decide) h (fun h => ?_) (fun h => ?_)
        · refine x_iinc (v := 1) (lv' := [(3, .inl (x3 + 1)), (6, .inl v_5), (5, .inl v_3), (4, .inl ((1 : Int32) <<< (x3 &&& 31))), (0, .inr (.inl (some h0))), (1, .inl x1), (2, .inl x2)]) C0 hl 6 d_Plan_faceBegunAt_91 rfl (by decide) (by decide) rfl (fun ls hl => ?_)
          refine x_goto C0 2 d_Plan_faceBegunAt_94 (by decide) ?_
          exact ih _ q ls (x_sub hl [4, 5, 6, 0] rfl) h K
        · refine x_iload C0 hl 0 d_Plan_faceBegunAt_53 rfl ?_
          refine x_aload_n C0 hl 3 d_Plan_faceBegunAt_55 rfl rfl ?_
          refine x_getR C0 hE hH (ci := 4) rfl i_Plan 7 (by decide) kw_1_53 d_Plan_faceBegunAt_56 h (fun v_6 h => ?_)
          refine x_iload C0 hl 1 d_Plan_faceBegunAt_59 rfl ?_
          refine x_aload_n C0 hl 3 d_Plan_faceBegunAt_61 rfl rfl ?_
          refine x_getI C0 hE hH (ci := 4) rfl i_Plan 8 (by decide) kw_1_54 d_Plan_faceBegunAt_62 h (fun v_7 h => ?_)
          refine lv_imul C0.1 C0.2.1 d_Plan_faceBegunAt_65 ?_
          refine x_iload_n C0 hl 5 d_Plan_faceBegunAt_66 rfl rfl ?_
          refine x_iload C0 hl 2 d_Plan_faceBegunAt_67 rfl ?_
          refine lv_ior C0.1 C0.2.1 d_Plan_faceBegunAt_69 ?_
          refine lv_iadd C0.1 C0.2.1 d_Plan_faceBegunAt_70 ?_
          refine x_iald C0 hE hH (t := 0) rfl d_Plan_faceBegunAt_71 h (fun v_8 h => ?_)
          refine lv_iadd C0.1 C0.2.1 d_Plan_faceBegunAt_72 ?_
          refine x_aload_n C0 hl 3 d_Plan_faceBegunAt_73 rfl rfl ?_
          refine x_getR C0 hE hH (ci := 4) rfl i_Plan 7 (by decide) kw_1_53 d_Plan_faceBegunAt_74 h (fun v_9 h => ?_)
          refine x_iload_n C0 hl 4 d_Plan_faceBegunAt_77 rfl rfl ?_
          refine x_aload_n C0 hl 3 d_Plan_faceBegunAt_78 rfl rfl ?_
          refine x_getI C0 hE hH (ci := 4) rfl i_Plan 8 (by decide) kw_1_54 d_Plan_faceBegunAt_79 h (fun v_10 h => ?_)
          refine lv_imul C0.1 C0.2.1 d_Plan_faceBegunAt_82 ?_
          refine x_iload_n C0 hl 5 d_Plan_faceBegunAt_83 rfl rfl ?_
          refine lv_iadd C0.1 C0.2.1 d_Plan_faceBegunAt_84 ?_
          refine x_iald C0 hE hH (t := 0) rfl d_Plan_faceBegunAt_85 h (fun v_11 h => ?_)
          refine x_icmp_ne C0 91 d_Plan_faceBegunAt_86 (by decide) h (fun h => ?_) (fun h => ?_)
          · refine x_iinc (v := 1) (lv' := [(3, .inl (x3 + 1)), (6, .inl v_5), (5, .inl v_3), (4, .inl ((1 : Int32) <<< (x3 &&& 31))), (0, .inr (.inl (some h0))), (1, .inl x1), (2, .inl x2)]) C0 hl 6 d_Plan_faceBegunAt_91 rfl (by decide) (by decide) rfl (fun ls hl => ?_)
            refine x_goto C0 2 d_Plan_faceBegunAt_94 (by decide) ?_
            exact ih _ q ls (x_sub hl [4, 5, 6, 0] rfl) h K
          · cases h
            exact K.2 rfl ls (x_sub hl [3, 4, 5, 6] rfl)
def f_Plan_faceBegunAt (w : Mp) (h0 : Nat) (x1 : Int32) (x2 : Int32) : Option (Int32) := (f_Plan_faceBegunAt_L2 w h0 x1 x2 100000 (0 : Int32)).bind fun q_12 => if q_12.1 = 0 then (some (-1 : Int32)) else (if q_12.1 = 1 then (some q_12.2) else (none))
set_option maxHeartbeats 4000000 in
set_option maxRecDepth 100000 in
theorem c_Plan_faceBegunAt (l : Launch) (G : Gx) (w : Mp) (sz : Nat) (h0 : Nat) (x1 : Int32) (x2 : Int32) (res : Int32) (hf : f_Plan_faceBegunAt w h0 x1 x2 = some res) : Met l y_Plan_faceBegunAt (xws y_Plan_faceBegunAt b_Plan_faceBegunAt 7 (some .int)) { frames := 0, cells := 0, slots := 0, locals := 0 } (xPc G vwCl xaty w sz [va_rf (some h0), .int x1, .int x2]) (qP (some (.int res))) (0) (0) (fun _ => False) := by
  refine Met.ofW (cc := b_Plan_faceBegunAt) (maxL := 7) (ret := (some .int)) (by decide) rfl ?_
  intro p e s m args below meth c s₁ B hml hv
  obtain ⟨ha, hE, hH, hz⟩ := hv
  have C0 : CallFix p m c b_Plan_faceBegunAt 7 s args wA R_Plan := ⟨B.exec, B.bytes, hml, findClass_of_methodNamed B.named, fun w hw => atoms_spec (ws := xws y_Plan_faceBegunAt b_Plan_faceBegunAt 7 (some .int)) B.pre w (List.mem_cons_of_mem _ hw)⟩
  have hr := B.returns
  have hlocks := B.notSynchronized
  obtain ⟨R, hR⟩ : ∃ R, R = (headSpec (xws y_Plan_faceBegunAt b_Plan_faceBegunAt 7 (some .int)) { frames := 0, cells := 0, slots := 0, locals := 0 }).room := ⟨_, rfl⟩
  have hR1 : 0 ≤ R.frames := by rw [hR]; exact Nat.le_of_ble_eq_true rfl
  have hR2 : 0 ≤ R.locals := by rw [hR]; exact Nat.le_of_ble_eq_true rfl
  have hR3 : 0 ≤ R.cells := by rw [hR]; exact Nat.le_refl _
  have hR4 : 0 ≤ R.slots := by rw [hR]; exact Nat.le_refl _
  rw [← hR]
  obtain ⟨Q, hQ⟩ : ∃ Q, Q = MQ below (qP (some (.int res))) args s (0) (0) (fun _ => False) := ⟨_, rfl⟩
  rw [← hQ]
  have hS : xS G s s.heap [] := va_S.rf
  obtain ⟨ls, he, hl⟩ := x_entry m [.inr (.inl (some h0)), .inl x1, .inl x2] 7 (Nat.le_of_ble_eq_true rfl)
  rw [show entryFrame m args 7 = F0 m 0 ls [] by rw [ha]; exact he]
  have hl : xL ls 7 [(0, .inr (.inl (some h0))), (1, .inl x1), (2, .inl x2)] := hl
  have h := hf
  unfold f_Plan_faceBegunAt at h
  suffices hmain : ∀ (H : Heap) (locs : List Loc), xhd G vwCl w H → xS G s H locs → H.size = sz → (H = s.heap ∧ locs = []) → W p l e R s m args below meth c H locs 0 0 Q (F0 m 0 ls []) from hmain _ _ hH hS hz ⟨rfl, rfl⟩
  clear hH hS hz
  intro H locs hH hS hz hP0
  refine lv_iconst (v := 0) C0.1 C0.2.1 d_Plan_faceBegunAt_0 (by decide) ?_
  refine x_istore_n (lv' := [(3, .inl (0 : Int32)), (0, .inr (.inl (some h0))), (1, .inl x1), (2, .inl x2)]) C0 hl d_Plan_faceBegunAt_1 rfl (by decide) rfl (fun ls hl => ?_)
  obtain ⟨q_12, e9, h⟩ := Option.bind_eq_some_iff.mp h
  refine w_Plan_faceBegunAt_L2 C0 hE hR1 hR2 hR3 hR4 hH hS hz 100000 _ q_12 ls (x_sub hl [1, 2, 3, 0] rfl) e9 ⟨fun z9 ls hl => ?_, fun z9 ls hl => ?_⟩
  · rw [if_pos z9] at h
    refine lv_iconst (v := -1) C0.1 C0.2.1 d_Plan_faceBegunAt_97 (by decide) ?_
    cases h
    rw [hQ]
    exact x_iretP C0 hr hlocks hP0 d_Plan_faceBegunAt_98
  · rw [if_neg (by rw [z9]; decide), if_pos z9] at h
    refine x_iload_n C0 hl 3 d_Plan_faceBegunAt_89 rfl rfl ?_
    cases h
    rw [hQ]
    exact x_iretP C0 hr hlocks hP0 d_Plan_faceBegunAt_90
