section
-- ===== PART A: goes FIRST, ahead of the names: the tables' words, and 'selects' of the private methods out of them =====
/-- a private method of a class that the tables say can be made, by its rows of tables_1 -/
def lw_okq (q : MethodName × Nat) : Prop := (q.1.cls ≠ "java/lang/invoke/MethodHandle" ∧ q.1.cls ≠ "java/lang/invoke/VarHandle") ∧ Cond.instantiable q.1.cls q.2 ∈ tables_1 ∧ Cond.privateMethod q.1 ∈ tables_1 ∧ Cond.instanceMethod q.1 ∈ tables_1
theorem lw_p0 : lw_okq (⟨"java/lang/Throwable", "fillInStackTrace", "(I)Ljava/lang/Throwable;"⟩, 6) := ⟨⟨by decide +kernel, by decide +kernel⟩, List.mem_of_getElem? (i := 150) (by decide +kernel), List.mem_of_getElem? (i := 148) (by decide +kernel), List.mem_of_getElem? (i := 149) (by decide +kernel)⟩
theorem lw_p1 : lw_okq (⟨"LeafMatches", "isNumberTaken", "(II)Z"⟩, 6) := ⟨⟨by decide +kernel, by decide +kernel⟩, List.mem_of_getElem? (i := 25) (by decide +kernel), List.mem_of_getElem? (i := 180) (by decide +kernel), List.mem_of_getElem? (i := 181) (by decide +kernel)⟩
theorem lw_p2 : lw_okq (⟨"LeafMatches", "leafOrNull", "(I)LLeafMatches$Leaf;"⟩, 6) := ⟨⟨by decide +kernel, by decide +kernel⟩, List.mem_of_getElem? (i := 25) (by decide +kernel), List.mem_of_getElem? (i := 259) (by decide +kernel), List.mem_of_getElem? (i := 260) (by decide +kernel)⟩
theorem lw_p3 : lw_okq (⟨"LeafMatches", "leastFlitchWith", "(I)I"⟩, 6) := ⟨⟨by decide +kernel, by decide +kernel⟩, List.mem_of_getElem? (i := 25) (by decide +kernel), List.mem_of_getElem? (i := 306) (by decide +kernel), List.mem_of_getElem? (i := 307) (by decide +kernel)⟩
theorem lw_p4 : lw_okq (⟨"LeafMatches", "countFree", "(I)I"⟩, 6) := ⟨⟨by decide +kernel, by decide +kernel⟩, List.mem_of_getElem? (i := 25) (by decide +kernel), List.mem_of_getElem? (i := 310) (by decide +kernel), List.mem_of_getElem? (i := 311) (by decide +kernel)⟩
theorem lw_p5 : lw_okq (⟨"LeafMatches", "gatherFree", "(I)I"⟩, 6) := ⟨⟨by decide +kernel, by decide +kernel⟩, List.mem_of_getElem? (i := 25) (by decide +kernel), List.mem_of_getElem? (i := 321) (by decide +kernel), List.mem_of_getElem? (i := 322) (by decide +kernel)⟩
theorem lw_p6 : lw_okq (⟨"LeafMatches", "isBroken", "(I)Z"⟩, 6) := ⟨⟨by decide +kernel, by decide +kernel⟩, List.mem_of_getElem? (i := 25) (by decide +kernel), List.mem_of_getElem? (i := 325) (by decide +kernel), List.mem_of_getElem? (i := 326) (by decide +kernel)⟩
theorem lw_p7 : lw_okq (⟨"LeafMatches", "faceOrNull", "(I)LLeafMatches$Face;"⟩, 6) := ⟨⟨by decide +kernel, by decide +kernel⟩, List.mem_of_getElem? (i := 25) (by decide +kernel), List.mem_of_getElem? (i := 389) (by decide +kernel), List.mem_of_getElem? (i := 390) (by decide +kernel)⟩
theorem lw_p8 : lw_okq (⟨"LeafMatches$Planner", "makeRoom", "(I)V"⟩, 9) := ⟨⟨by decide +kernel, by decide +kernel⟩, List.mem_of_getElem? (i := 37) (by decide +kernel), List.mem_of_getElem? (i := 749) (by decide +kernel), List.mem_of_getElem? (i := 750) (by decide +kernel)⟩
theorem lw_p9 : lw_okq (⟨"LeafMatches$Planner", "findRows", "([LLeafMatches$Leaf;I)V"⟩, 9) := ⟨⟨by decide +kernel, by decide +kernel⟩, List.mem_of_getElem? (i := 37) (by decide +kernel), List.mem_of_getElem? (i := 757) (by decide +kernel), List.mem_of_getElem? (i := 758) (by decide +kernel)⟩
theorem lw_p10 : lw_okq (⟨"LeafMatches$Planner", "findRow", "([LLeafMatches$Leaf;III)V"⟩, 9) := ⟨⟨by decide +kernel, by decide +kernel⟩, List.mem_of_getElem? (i := 37) (by decide +kernel), List.mem_of_getElem? (i := 761) (by decide +kernel), List.mem_of_getElem? (i := 762) (by decide +kernel)⟩
theorem lw_p11 : lw_okq (⟨"LeafMatches$Planner", "findLeastLoss", "(I)V"⟩, 9) := ⟨⟨by decide +kernel, by decide +kernel⟩, List.mem_of_getElem? (i := 37) (by decide +kernel), List.mem_of_getElem? (i := 766) (by decide +kernel), List.mem_of_getElem? (i := 767) (by decide +kernel)⟩
theorem lw_p12 : lw_okq (⟨"LeafMatches$Planner", "lowerByFace", "(II)V"⟩, 9) := ⟨⟨by decide +kernel, by decide +kernel⟩, List.mem_of_getElem? (i := 37) (by decide +kernel), List.mem_of_getElem? (i := 771) (by decide +kernel), List.mem_of_getElem? (i := 772) (by decide +kernel)⟩
theorem lw_p13 : lw_okq (⟨"LeafMatches$Planner", "keepPlan", "([LLeafMatches$Leaf;I)V"⟩, 9) := ⟨⟨by decide +kernel, by decide +kernel⟩, List.mem_of_getElem? (i := 37) (by decide +kernel), List.mem_of_getElem? (i := 776) (by decide +kernel), List.mem_of_getElem? (i := 777) (by decide +kernel)⟩
theorem lw_p14 : lw_okq (⟨"LeafMatches$Planner", "faceBegunAt", "(II)I"⟩, 9) := ⟨⟨by decide +kernel, by decide +kernel⟩, List.mem_of_getElem? (i := 37) (by decide +kernel), List.mem_of_getElem? (i := 780) (by decide +kernel), List.mem_of_getElem? (i := 781) (by decide +kernel)⟩
theorem lw_p15 : lw_okq (⟨"LeafMatchesModel", "fillRow", "(I)V"⟩, 22) := ⟨⟨by decide +kernel, by decide +kernel⟩, List.mem_of_getElem? (i := 794) (by decide +kernel), List.mem_of_getElem? (i := 891) (by decide +kernel), List.mem_of_getElem? (i := 892) (by decide +kernel)⟩
def lw_privs_1 : List (MethodName × Nat) := [(⟨"java/lang/Throwable", "fillInStackTrace", "(I)Ljava/lang/Throwable;"⟩, 6), (⟨"LeafMatches", "isNumberTaken", "(II)Z"⟩, 6), (⟨"LeafMatches", "leafOrNull", "(I)LLeafMatches$Leaf;"⟩, 6), (⟨"LeafMatches", "leastFlitchWith", "(I)I"⟩, 6), (⟨"LeafMatches", "countFree", "(I)I"⟩, 6), (⟨"LeafMatches", "gatherFree", "(I)I"⟩, 6), (⟨"LeafMatches", "isBroken", "(I)Z"⟩, 6), (⟨"LeafMatches", "faceOrNull", "(I)LLeafMatches$Face;"⟩, 6), (⟨"LeafMatches$Planner", "makeRoom", "(I)V"⟩, 9), (⟨"LeafMatches$Planner", "findRows", "([LLeafMatches$Leaf;I)V"⟩, 9), (⟨"LeafMatches$Planner", "findRow", "([LLeafMatches$Leaf;III)V"⟩, 9), (⟨"LeafMatches$Planner", "findLeastLoss", "(I)V"⟩, 9), (⟨"LeafMatches$Planner", "lowerByFace", "(II)V"⟩, 9), (⟨"LeafMatches$Planner", "keepPlan", "([LLeafMatches$Leaf;I)V"⟩, 9), (⟨"LeafMatches$Planner", "faceBegunAt", "(II)I"⟩, 9), (⟨"LeafMatchesModel", "fillRow", "(I)V"⟩, 22)]
theorem lw_r1 : ∀ q ∈ lw_privs_1, lw_okq q := List.forall_mem_cons.mpr ⟨lw_p0, List.forall_mem_cons.mpr ⟨lw_p1, List.forall_mem_cons.mpr ⟨lw_p2, List.forall_mem_cons.mpr ⟨lw_p3, List.forall_mem_cons.mpr ⟨lw_p4, List.forall_mem_cons.mpr ⟨lw_p5, List.forall_mem_cons.mpr ⟨lw_p6, List.forall_mem_cons.mpr ⟨lw_p7, List.forall_mem_cons.mpr ⟨lw_p8, List.forall_mem_cons.mpr ⟨lw_p9, List.forall_mem_cons.mpr ⟨lw_p10, List.forall_mem_cons.mpr ⟨lw_p11, List.forall_mem_cons.mpr ⟨lw_p12, List.forall_mem_cons.mpr ⟨lw_p13, List.forall_mem_cons.mpr ⟨lw_p14, List.forall_mem_cons.mpr ⟨lw_p15, fun _ h => absurd h List.not_mem_nil⟩⟩⟩⟩⟩⟩⟩⟩⟩⟩⟩⟩⟩⟩⟩⟩
theorem lw_p16 : lw_okq (⟨"LeafMatchesModel", "noFace", "(I)Z"⟩, 22) := ⟨⟨by decide +kernel, by decide +kernel⟩, List.mem_of_getElem? (i := 794) (by decide +kernel), List.mem_of_getElem? (i := 899) (by decide +kernel), List.mem_of_getElem? (i := 900) (by decide +kernel)⟩
theorem lw_p17 : lw_okq (⟨"LeafMatchesModel", "noPiece", "(II)Z"⟩, 22) := ⟨⟨by decide +kernel, by decide +kernel⟩, List.mem_of_getElem? (i := 794) (by decide +kernel), List.mem_of_getElem? (i := 907) (by decide +kernel), List.mem_of_getElem? (i := 908) (by decide +kernel)⟩
theorem lw_p18 : lw_okq (⟨"LeafMatchesModel", "isMirrored", "(II)Z"⟩, 22) := ⟨⟨by decide +kernel, by decide +kernel⟩, List.mem_of_getElem? (i := 794) (by decide +kernel), List.mem_of_getElem? (i := 911) (by decide +kernel), List.mem_of_getElem? (i := 912) (by decide +kernel)⟩
theorem lw_p19 : lw_okq (⟨"LeafMatchesModel", "isTurned", "(II)Z"⟩, 22) := ⟨⟨by decide +kernel, by decide +kernel⟩, List.mem_of_getElem? (i := 794) (by decide +kernel), List.mem_of_getElem? (i := 915) (by decide +kernel), List.mem_of_getElem? (i := 916) (by decide +kernel)⟩
theorem lw_p20 : lw_okq (⟨"LeafMatchesModel", "across", "(II)I"⟩, 22) := ⟨⟨by decide +kernel, by decide +kernel⟩, List.mem_of_getElem? (i := 794) (by decide +kernel), List.mem_of_getElem? (i := 919) (by decide +kernel), List.mem_of_getElem? (i := 920) (by decide +kernel)⟩
theorem lw_p21 : lw_okq (⟨"LeafMatchesModel", "wide", "(II)I"⟩, 22) := ⟨⟨by decide +kernel, by decide +kernel⟩, List.mem_of_getElem? (i := 794) (by decide +kernel), List.mem_of_getElem? (i := 923) (by decide +kernel), List.mem_of_getElem? (i := 924) (by decide +kernel)⟩
theorem lw_p22 : lw_okq (⟨"LeafMatchesModel", "topOf", "(II)I"⟩, 22) := ⟨⟨by decide +kernel, by decide +kernel⟩, List.mem_of_getElem? (i := 794) (by decide +kernel), List.mem_of_getElem? (i := 927) (by decide +kernel), List.mem_of_getElem? (i := 928) (by decide +kernel)⟩
theorem lw_p23 : lw_okq (⟨"LeafMatchesModel", "high", "(II)I"⟩, 22) := ⟨⟨by decide +kernel, by decide +kernel⟩, List.mem_of_getElem? (i := 794) (by decide +kernel), List.mem_of_getElem? (i := 931) (by decide +kernel), List.mem_of_getElem? (i := 932) (by decide +kernel)⟩
theorem lw_p24 : lw_okq (⟨"LeafMatchesModel", "shiftOf", "(II)I"⟩, 22) := ⟨⟨by decide +kernel, by decide +kernel⟩, List.mem_of_getElem? (i := 794) (by decide +kernel), List.mem_of_getElem? (i := 935) (by decide +kernel), List.mem_of_getElem? (i := 936) (by decide +kernel)⟩
theorem lw_p25 : lw_okq (⟨"LeafMatchesModel", "sumAt", "(III)I"⟩, 22) := ⟨⟨by decide +kernel, by decide +kernel⟩, List.mem_of_getElem? (i := 794) (by decide +kernel), List.mem_of_getElem? (i := 939) (by decide +kernel), List.mem_of_getElem? (i := 940) (by decide +kernel)⟩
theorem lw_p26 : lw_okq (⟨"LeafMatchesModel", "leftOf", "(II)I"⟩, 22) := ⟨⟨by decide +kernel, by decide +kernel⟩, List.mem_of_getElem? (i := 794) (by decide +kernel), List.mem_of_getElem? (i := 943) (by decide +kernel), List.mem_of_getElem? (i := 944) (by decide +kernel)⟩
theorem lw_p27 : lw_okq (⟨"LeafMatchesModel", "grey", "(IIII)I"⟩, 22) := ⟨⟨by decide +kernel, by decide +kernel⟩, List.mem_of_getElem? (i := 794) (by decide +kernel), List.mem_of_getElem? (i := 947) (by decide +kernel), List.mem_of_getElem? (i := 948) (by decide +kernel)⟩
theorem lw_p28 : lw_okq (⟨"LeafMatchesModel", "leastTop", "(I)I"⟩, 22) := ⟨⟨by decide +kernel, by decide +kernel⟩, List.mem_of_getElem? (i := 794) (by decide +kernel), List.mem_of_getElem? (i := 955) (by decide +kernel), List.mem_of_getElem? (i := 956) (by decide +kernel)⟩
theorem lw_p29 : lw_okq (⟨"LeafMatchesModel", "wideOf", "(I)I"⟩, 22) := ⟨⟨by decide +kernel, by decide +kernel⟩, List.mem_of_getElem? (i := 794) (by decide +kernel), List.mem_of_getElem? (i := 964) (by decide +kernel), List.mem_of_getElem? (i := 965) (by decide +kernel)⟩
theorem lw_p30 : lw_okq (⟨"LeafMatchesModel", "noSeam", "(II)Z"⟩, 22) := ⟨⟨by decide +kernel, by decide +kernel⟩, List.mem_of_getElem? (i := 794) (by decide +kernel), List.mem_of_getElem? (i := 972) (by decide +kernel), List.mem_of_getElem? (i := 973) (by decide +kernel)⟩
theorem lw_p31 : lw_okq (⟨"LeafMatchesModel", "seams", "(I)I"⟩, 22) := ⟨⟨by decide +kernel, by decide +kernel⟩, List.mem_of_getElem? (i := 794) (by decide +kernel), List.mem_of_getElem? (i := 976) (by decide +kernel), List.mem_of_getElem? (i := 977) (by decide +kernel)⟩
def lw_privs_2 : List (MethodName × Nat) := [(⟨"LeafMatchesModel", "noFace", "(I)Z"⟩, 22), (⟨"LeafMatchesModel", "noPiece", "(II)Z"⟩, 22), (⟨"LeafMatchesModel", "isMirrored", "(II)Z"⟩, 22), (⟨"LeafMatchesModel", "isTurned", "(II)Z"⟩, 22), (⟨"LeafMatchesModel", "across", "(II)I"⟩, 22), (⟨"LeafMatchesModel", "wide", "(II)I"⟩, 22), (⟨"LeafMatchesModel", "topOf", "(II)I"⟩, 22), (⟨"LeafMatchesModel", "high", "(II)I"⟩, 22), (⟨"LeafMatchesModel", "shiftOf", "(II)I"⟩, 22), (⟨"LeafMatchesModel", "sumAt", "(III)I"⟩, 22), (⟨"LeafMatchesModel", "leftOf", "(II)I"⟩, 22), (⟨"LeafMatchesModel", "grey", "(IIII)I"⟩, 22), (⟨"LeafMatchesModel", "leastTop", "(I)I"⟩, 22), (⟨"LeafMatchesModel", "wideOf", "(I)I"⟩, 22), (⟨"LeafMatchesModel", "noSeam", "(II)Z"⟩, 22), (⟨"LeafMatchesModel", "seams", "(I)I"⟩, 22)]
theorem lw_r2 : ∀ q ∈ lw_privs_2, lw_okq q := List.forall_mem_cons.mpr ⟨lw_p16, List.forall_mem_cons.mpr ⟨lw_p17, List.forall_mem_cons.mpr ⟨lw_p18, List.forall_mem_cons.mpr ⟨lw_p19, List.forall_mem_cons.mpr ⟨lw_p20, List.forall_mem_cons.mpr ⟨lw_p21, List.forall_mem_cons.mpr ⟨lw_p22, List.forall_mem_cons.mpr ⟨lw_p23, List.forall_mem_cons.mpr ⟨lw_p24, List.forall_mem_cons.mpr ⟨lw_p25, List.forall_mem_cons.mpr ⟨lw_p26, List.forall_mem_cons.mpr ⟨lw_p27, List.forall_mem_cons.mpr ⟨lw_p28, List.forall_mem_cons.mpr ⟨lw_p29, List.forall_mem_cons.mpr ⟨lw_p30, List.forall_mem_cons.mpr ⟨lw_p31, fun _ h => absurd h List.not_mem_nil⟩⟩⟩⟩⟩⟩⟩⟩⟩⟩⟩⟩⟩⟩⟩⟩
theorem lw_p32 : lw_okq (⟨"LeafMatchesModel", "writeNumber", "(II)I"⟩, 22) := ⟨⟨by decide +kernel, by decide +kernel⟩, List.mem_of_getElem? (i := 794) (by decide +kernel), List.mem_of_getElem? (i := 996) (by decide +kernel), List.mem_of_getElem? (i := 997) (by decide +kernel)⟩
theorem lw_p33 : lw_okq (⟨"LeafMatchesModel", "lossWith", "(III)I"⟩, 22) := ⟨⟨by decide +kernel, by decide +kernel⟩, List.mem_of_getElem? (i := 794) (by decide +kernel), List.mem_of_getElem? (i := 1013) (by decide +kernel), List.mem_of_getElem? (i := 1014) (by decide +kernel)⟩
theorem lw_p34 : lw_okq (⟨"LeafMatchesModel", "manyFrom", "(II)I"⟩, 22) := ⟨⟨by decide +kernel, by decide +kernel⟩, List.mem_of_getElem? (i := 794) (by decide +kernel), List.mem_of_getElem? (i := 1017) (by decide +kernel), List.mem_of_getElem? (i := 1018) (by decide +kernel)⟩
theorem lw_p35 : lw_okq (⟨"LeafMatchesModel", "lossFrom", "(III)I"⟩, 22) := ⟨⟨by decide +kernel, by decide +kernel⟩, List.mem_of_getElem? (i := 794) (by decide +kernel), List.mem_of_getElem? (i := 1021) (by decide +kernel), List.mem_of_getElem? (i := 1022) (by decide +kernel)⟩
theorem lw_p36 : lw_okq (⟨"LeafMatchesModel", "walk", "(I)V"⟩, 22) := ⟨⟨by decide +kernel, by decide +kernel⟩, List.mem_of_getElem? (i := 794) (by decide +kernel), List.mem_of_getElem? (i := 1025) (by decide +kernel), List.mem_of_getElem? (i := 1026) (by decide +kernel)⟩
def lw_privs_3 : List (MethodName × Nat) := [(⟨"LeafMatchesModel", "writeNumber", "(II)I"⟩, 22), (⟨"LeafMatchesModel", "lossWith", "(III)I"⟩, 22), (⟨"LeafMatchesModel", "manyFrom", "(II)I"⟩, 22), (⟨"LeafMatchesModel", "lossFrom", "(III)I"⟩, 22), (⟨"LeafMatchesModel", "walk", "(I)V"⟩, 22)]
theorem lw_r3 : ∀ q ∈ lw_privs_3, lw_okq q := List.forall_mem_cons.mpr ⟨lw_p32, List.forall_mem_cons.mpr ⟨lw_p33, List.forall_mem_cons.mpr ⟨lw_p34, List.forall_mem_cons.mpr ⟨lw_p35, List.forall_mem_cons.mpr ⟨lw_p36, fun _ h => absurd h List.not_mem_nil⟩⟩⟩⟩⟩
def lw_privs : List (MethodName × Nat) := lw_privs_1 ++ (lw_privs_2 ++ (lw_privs_3))
def lw_tbl : List Cond := k2_sels lw_privs ++ tables_1
theorem lw_privs_ok : ∀ q ∈ lw_privs, lw_okq q := by
  show ∀ q ∈ lw_privs_1 ++ (lw_privs_2 ++ (lw_privs_3)), lw_okq q
  exact List.forall_mem_append.mpr ⟨lw_r1, List.forall_mem_append.mpr ⟨lw_r2, lw_r3⟩⟩
def wA : List Cond := lw_tbl.filter goodWord
theorem wA_in {w : Cond} (h : w ∈ lw_tbl) (g : goodWord w = true) : w ∈ wA := List.mem_filter.mpr ⟨h, g⟩
theorem ku_0 {w : Cond} (i : Nat) (h : (k2_sels lw_privs)[i]? = some w) (g : goodWord w = true) : w ∈ wA := wA_in (List.mem_append_left _ (List.mem_of_getElem? h)) g
theorem ku_1 {w : Cond} (i : Nat) (h : tables_1_1[i]? = some w) (g : goodWord w = true) : w ∈ wA := wA_in (List.mem_append_right _ (show w ∈ tables_1 from List.mem_append_left _ (List.mem_of_getElem? h))) g
theorem ku_2 {w : Cond} (i : Nat) (h : tables_1_2[i]? = some w) (g : goodWord w = true) : w ∈ wA := wA_in (List.mem_append_right _ (show w ∈ tables_1 from List.mem_append_right _ (List.mem_append_left _ (List.mem_of_getElem? h)))) g
theorem ku_3 {w : Cond} (i : Nat) (h : tables_1_3[i]? = some w) (g : goodWord w = true) : w ∈ wA := wA_in (List.mem_append_right _ (show w ∈ tables_1 from List.mem_append_right _ (List.mem_append_right _ (List.mem_append_left _ (List.mem_of_getElem? h))))) g
theorem ku_4 {w : Cond} (i : Nat) (h : tables_1_4[i]? = some w) (g : goodWord w = true) : w ∈ wA := wA_in (List.mem_append_right _ (show w ∈ tables_1 from List.mem_append_right _ (List.mem_append_right _ (List.mem_append_right _ (List.mem_append_left _ (List.mem_of_getElem? h)))))) g
theorem ku_5 {w : Cond} (i : Nat) (h : tables_1_5[i]? = some w) (g : goodWord w = true) : w ∈ wA := wA_in (List.mem_append_right _ (show w ∈ tables_1 from List.mem_append_right _ (List.mem_append_right _ (List.mem_append_right _ (List.mem_append_right _ (List.mem_of_getElem? h)))))) g
abbrev xws (y : MethodName) (b : ByteArray) (n : Nat) (ret : Option FieldType) : List Cond := Cond.code y b n ret :: wA
def R_LM : String := "LeafMatches"
def R_Leaf : String := "LeafMatches$Leaf"
def R_Piece : String := "LeafMatches$Piece"
def R_Face : String := "LeafMatches$Face"
def R_Plan : String := "LeafMatches$Planner"
def R_Mod : String := "LeafMatchesModel"
def R_Law : String := "LeafMatchesLaw"
def F_LM : u_T := fun k => match k with
  | 0 => ("LeafMatches", "leaves", "[LLeafMatches$Leaf;", true)
  | 1 => ("LeafMatches", "leafCount", "I", false)
  | 2 => ("LeafMatches", "madeFaces", "[LLeafMatches$Face;", true)
  | 3 => ("LeafMatches", "faceCount", "I", false)
  | 4 => ("LeafMatches", "planner", "LLeafMatches$Planner;", true)
  | _ => ("LeafMatches", "free", "[LLeafMatches$Leaf;", true)
def t_LM : Nat → FieldType := fun k => match k with
  | 0 => (.array (.object "LeafMatches$Leaf"))
  | 1 => .int
  | 2 => (.array (.object "LeafMatches$Face"))
  | 3 => .int
  | 4 => (.object "LeafMatches$Planner")
  | _ => (.array (.object "LeafMatches$Leaf"))
theorem n_LM : ∀ a, a < 6 → ∀ b, b < 6 → a ≠ b → (F_LM a).2.1 ≠ (F_LM b).2.1 := by decide +kernel
theorem t_LM_ok : ∀ k, k < 6 → parseFieldDescriptor (F_LM k).2.2.1 = some (t_LM k) := by decide +kernel
set_option maxRecDepth 20000 in
theorem il_LM : ∀ w ∈ u_ws R_LM F_LM 6, w ∈ lw_tbl := by decide +kernel
theorem i_LM : ∀ w ∈ u_ws R_LM F_LM 6, w ∈ wA := fun w hw => wA_in (il_LM w hw) (List.all_eq_true.mp (show (u_ws R_LM F_LM 6).all goodWord = true from rfl) w hw)
def F_Leaf : u_T := fun k => match k with
  | 0 => ("LeafMatches$Leaf", "index", "I", true)
  | 1 => ("LeafMatches$Leaf", "flitch", "I", true)
  | 2 => ("LeafMatches$Leaf", "number", "I", true)
  | 3 => ("LeafMatches$Leaf", "width", "I", true)
  | 4 => ("LeafMatches$Leaf", "height", "I", true)
  | 5 => ("LeafMatches$Leaf", "greys", "[I", true)
  | 6 => ("LeafMatches$Leaf", "order", "I", false)
  | _ => ("LeafMatches$Leaf", "used", "Z", false)
def t_Leaf : Nat → FieldType := fun k => match k with
  | 0 => .int
  | 1 => .int
  | 2 => .int
  | 3 => .int
  | 4 => .int
  | 5 => (.array .int)
  | 6 => .int
  | _ => .boolean
theorem n_Leaf : ∀ a, a < 8 → ∀ b, b < 8 → a ≠ b → (F_Leaf a).2.1 ≠ (F_Leaf b).2.1 := by decide +kernel
theorem t_Leaf_ok : ∀ k, k < 8 → parseFieldDescriptor (F_Leaf k).2.2.1 = some (t_Leaf k) := by decide +kernel
set_option maxRecDepth 20000 in
theorem il_Leaf : ∀ w ∈ u_ws R_Leaf F_Leaf 8, w ∈ lw_tbl := by decide +kernel
theorem i_Leaf : ∀ w ∈ u_ws R_Leaf F_Leaf 8, w ∈ wA := fun w hw => wA_in (il_Leaf w hw) (List.all_eq_true.mp (show (u_ws R_Leaf F_Leaf 8).all goodWord = true from rfl) w hw)
def F_Piece : u_T := fun k => match k with
  | 0 => ("LeafMatches$Piece", "leaf", "LLeafMatches$Leaf;", true)
  | 1 => ("LeafMatches$Piece", "isMirrored", "Z", true)
  | 2 => ("LeafMatches$Piece", "isTurned", "Z", true)
  | 3 => ("LeafMatches$Piece", "begin", "I", false)
  | _ => ("LeafMatches$Piece", "top", "I", false)
def t_Piece : Nat → FieldType := fun k => match k with
  | 0 => (.object "LeafMatches$Leaf")
  | 1 => .boolean
  | 2 => .boolean
  | 3 => .int
  | _ => .int
theorem n_Piece : ∀ a, a < 5 → ∀ b, b < 5 → a ≠ b → (F_Piece a).2.1 ≠ (F_Piece b).2.1 := by decide +kernel
theorem t_Piece_ok : ∀ k, k < 5 → parseFieldDescriptor (F_Piece k).2.2.1 = some (t_Piece k) := by decide +kernel
set_option maxRecDepth 20000 in
theorem il_Piece : ∀ w ∈ u_ws R_Piece F_Piece 5, w ∈ lw_tbl := by decide +kernel
theorem i_Piece : ∀ w ∈ u_ws R_Piece F_Piece 5, w ∈ wA := fun w hw => wA_in (il_Piece w hw) (List.all_eq_true.mp (show (u_ws R_Piece F_Piece 5).all goodWord = true from rfl) w hw)
def F_Face : u_T := fun k => match k with
  | 0 => ("LeafMatches$Face", "kind", "I", true)
  | _ => ("LeafMatches$Face", "pieces", "[LLeafMatches$Piece;", true)
def t_Face : Nat → FieldType := fun k => match k with
  | 0 => .int
  | _ => (.array (.object "LeafMatches$Piece"))
theorem n_Face : ∀ a, a < 2 → ∀ b, b < 2 → a ≠ b → (F_Face a).2.1 ≠ (F_Face b).2.1 := by decide +kernel
theorem t_Face_ok : ∀ k, k < 2 → parseFieldDescriptor (F_Face k).2.2.1 = some (t_Face k) := by decide +kernel
set_option maxRecDepth 20000 in
theorem il_Face : ∀ w ∈ u_ws R_Face F_Face 2, w ∈ lw_tbl := by decide +kernel
theorem i_Face : ∀ w ∈ u_ws R_Face F_Face 2, w ∈ wA := fun w hw => wA_in (il_Face w hw) (List.all_eq_true.mp (show (u_ws R_Face F_Face 2).all goodWord = true from rfl) w hw)
def F_Plan : u_T := fun k => match k with
  | 0 => ("LeafMatches$Planner", "wanted", "[I", true)
  | 1 => ("LeafMatches$Planner", "wantedCount", "I", false)
  | 2 => ("LeafMatches$Planner", "isFound", "Z", false)
  | 3 => ("LeafMatches$Planner", "firstLeaf", "[I", true)
  | 4 => ("LeafMatches$Planner", "rowLength", "[I", true)
  | 5 => ("LeafMatches$Planner", "rowEnd", "[I", false)
  | 6 => ("LeafMatches$Planner", "rowLoss", "[I", false)
  | 7 => ("LeafMatches$Planner", "leastLoss", "[I", false)
  | _ => ("LeafMatches$Planner", "sets", "I", false)
def t_Plan : Nat → FieldType := fun k => match k with
  | 0 => (.array .int)
  | 1 => .int
  | 2 => .boolean
  | 3 => (.array .int)
  | 4 => (.array .int)
  | 5 => (.array .int)
  | 6 => (.array .int)
  | 7 => (.array .int)
  | _ => .int
theorem n_Plan : ∀ a, a < 9 → ∀ b, b < 9 → a ≠ b → (F_Plan a).2.1 ≠ (F_Plan b).2.1 := by decide +kernel
theorem t_Plan_ok : ∀ k, k < 9 → parseFieldDescriptor (F_Plan k).2.2.1 = some (t_Plan k) := by decide +kernel
set_option maxRecDepth 20000 in
theorem il_Plan : ∀ w ∈ u_ws R_Plan F_Plan 9, w ∈ lw_tbl := by decide +kernel
theorem i_Plan : ∀ w ∈ u_ws R_Plan F_Plan 9, w ∈ wA := fun w hw => wA_in (il_Plan w hw) (List.all_eq_true.mp (show (u_ws R_Plan F_Plan 9).all goodWord = true from rfl) w hw)
def F_Mod : u_T := fun k => match k with
  | 0 => ("LeafMatchesModel", "code", "I", false)
  | 1 => ("LeafMatchesModel", "leaves", "I", false)
  | 2 => ("LeafMatchesModel", "flitches", "[I", true)
  | 3 => ("LeafMatchesModel", "numbers", "[I", true)
  | 4 => ("LeafMatchesModel", "wides", "[I", true)
  | 5 => ("LeafMatchesModel", "highs", "[I", true)
  | 6 => ("LeafMatchesModel", "orders", "[I", true)
  | 7 => ("LeafMatchesModel", "used", "[Z", true)
  | 8 => ("LeafMatchesModel", "greys", "[I", true)
  | 9 => ("LeafMatchesModel", "faces", "I", false)
  | 10 => ("LeafMatchesModel", "kinds", "[I", true)
  | 11 => ("LeafMatchesModel", "sizes", "[I", true)
  | 12 => ("LeafMatchesModel", "pieces", "[I", true)
  | 13 => ("LeafMatchesModel", "wants", "I", false)
  | 14 => ("LeafMatchesModel", "wanted", "[I", true)
  | 15 => ("LeafMatchesModel", "planned", "Z", false)
  | 16 => ("LeafMatchesModel", "planFirst", "[I", true)
  | 17 => ("LeafMatchesModel", "planMany", "[I", true)
  | 18 => ("LeafMatchesModel", "rowSize", "I", false)
  | 19 => ("LeafMatchesModel", "row", "[I", true)
  | 20 => ("LeafMatchesModel", "least", "[I", true)
  | _ => ("LeafMatchesModel", "text", "[I", true)
def t_Mod : Nat → FieldType := fun k => match k with
  | 0 => .int
  | 1 => .int
  | 2 => (.array .int)
  | 3 => (.array .int)
  | 4 => (.array .int)
  | 5 => (.array .int)
  | 6 => (.array .int)
  | 7 => (.array .boolean)
  | 8 => (.array .int)
  | 9 => .int
  | 10 => (.array .int)
  | 11 => (.array .int)
  | 12 => (.array .int)
  | 13 => .int
  | 14 => (.array .int)
  | 15 => .boolean
  | 16 => (.array .int)
  | 17 => (.array .int)
  | 18 => .int
  | 19 => (.array .int)
  | 20 => (.array .int)
  | _ => (.array .int)
theorem n_Mod : ∀ a, a < 22 → ∀ b, b < 22 → a ≠ b → (F_Mod a).2.1 ≠ (F_Mod b).2.1 := by decide +kernel
theorem t_Mod_ok : ∀ k, k < 22 → parseFieldDescriptor (F_Mod k).2.2.1 = some (t_Mod k) := by decide +kernel
set_option maxRecDepth 20000 in
theorem il_Mod : ∀ w ∈ u_ws R_Mod F_Mod 22, w ∈ lw_tbl := by decide +kernel
theorem i_Mod : ∀ w ∈ u_ws R_Mod F_Mod 22, w ∈ wA := fun w hw => wA_in (il_Mod w hw) (List.all_eq_true.mp (show (u_ws R_Mod F_Mod 22).all goodWord = true from rfl) w hw)
abbrev vwCl : List vw_C := [(R_LM, F_LM, 6), (R_Leaf, F_Leaf, 8), (R_Piece, F_Piece, 5), (R_Face, F_Face, 2), (R_Plan, F_Plan, 9), (R_Mod, F_Mod, 22)]
abbrev xaty : List FieldType := [.int, .object "LeafMatches$Leaf", .object "LeafMatches$Face", .object "LeafMatches$Piece", .boolean, .long]
abbrev b_Face_bestShift : ByteArray := prog_2_method_7_code
def y_Face_bestShift : MethodName := ⟨R_Face, "bestShift", "(I)I"⟩
abbrev b_Face_differenceAt : ByteArray := prog_2_method_6_code
def y_Face_differenceAt : MethodName := ⟨R_Face, "differenceAt", "(II)I"⟩
abbrev b_Face_greatestBottom : ByteArray := prog_2_method_10_code
def y_Face_greatestBottom : MethodName := ⟨R_Face, "greatestBottom", "()I"⟩
abbrev b_Face_greySeen : ByteArray := prog_2_method_11_code
def y_Face_greySeen : MethodName := ⟨R_Face, "greySeen", "(II)I"⟩
abbrev b_Face_hasPiece : ByteArray := prog_2_method_3_code
def y_Face_hasPiece : MethodName := ⟨R_Face, "hasPiece", "(I)Z"⟩
abbrev b_Face_hasSeam : ByteArray := prog_2_method_4_code
def y_Face_hasSeam : MethodName := ⟨R_Face, "hasSeam", "(I)Z"⟩
abbrev b_Face_init : ByteArray := prog_2_method_1_code
def y_Face_init : MethodName := ⟨R_Face, "<init>", "(I[LLeafMatches$Leaf;I)V"⟩
abbrev b_Face_isBalanced : ByteArray := prog_2_method_12_code
def y_Face_isBalanced : MethodName := ⟨R_Face, "isBalanced", "()Z"⟩
abbrev b_Face_layOut : ByteArray := prog_2_method_5_code
def y_Face_layOut : MethodName := ⟨R_Face, "layOut", "()V"⟩
abbrev b_Face_leastTop : ByteArray := prog_2_method_9_code
def y_Face_leastTop : MethodName := ⟨R_Face, "leastTop", "()I"⟩
abbrev b_Face_markUsed : ByteArray := prog_2_method_2_code
def y_Face_markUsed : MethodName := ⟨R_Face, "markUsed", "(Z)V"⟩
abbrev b_Face_sizeAcross : ByteArray := prog_2_method_8_code
def y_Face_sizeAcross : MethodName := ⟨R_Face, "sizeAcross", "()I"⟩
abbrev b_LM_about : ByteArray := prog_1_method_9_code
def y_LM_about : MethodName := ⟨R_LM, "about", "(II)I"⟩
abbrev b_LM_apart : ByteArray := prog_1_method_6_code
def y_LM_apart : MethodName := ⟨R_LM, "apart", "(I)I"⟩
abbrev b_LM_at : ByteArray := prog_1_method_8_code
def y_LM_at : MethodName := ⟨R_LM, "at", "(III)I"⟩
abbrev b_LM_balance : ByteArray := prog_1_method_13_code
def y_LM_balance : MethodName := ⟨R_LM, "balance", "(I)Z"⟩
abbrev b_LM_clear : ByteArray := prog_1_method_16_code
def y_LM_clear : MethodName := ⟨R_LM, "clear", "()I"⟩
abbrev b_LM_countFree : ByteArray := prog_1_method_23_code
def y_LM_countFree : MethodName := ⟨R_LM, "countFree", "(I)I"⟩
abbrev b_LM_faceOrNull : ByteArray := prog_1_method_21_code
def y_LM_faceOrNull : MethodName := ⟨R_LM, "faceOrNull", "(I)LLeafMatches$Face;"⟩
abbrev b_LM_faces : ByteArray := prog_1_method_17_code
def y_LM_faces : MethodName := ⟨R_LM, "faces", "(I)I"⟩
abbrev b_LM_gatherFree : ByteArray := prog_1_method_25_code
def y_LM_gatherFree : MethodName := ⟨R_LM, "gatherFree", "(I)I"⟩
abbrev b_LM_init : ByteArray := prog_1_method_1_code
def y_LM_init : MethodName := ⟨R_LM, "<init>", "()V"⟩
abbrev b_LM_isBroken : ByteArray := prog_1_method_26_code
def y_LM_isBroken : MethodName := ⟨R_LM, "isBroken", "(I)Z"⟩
abbrev b_LM_isNumberTaken : ByteArray := prog_1_method_22_code
def y_LM_isNumberTaken : MethodName := ⟨R_LM, "isNumberTaken", "(II)Z"⟩
abbrev b_LM_isWithin : ByteArray := prog_1_method_19_code
def y_LM_isWithin : MethodName := ⟨R_LM, "isWithin", "(III)Z"⟩
abbrev b_LM_leaf : ByteArray := prog_1_method_2_code
def y_LM_leaf : MethodName := ⟨R_LM, "leaf", "(IIII)I"⟩
abbrev b_LM_leafOrNull : ByteArray := prog_1_method_20_code
def y_LM_leafOrNull : MethodName := ⟨R_LM, "leafOrNull", "(I)LLeafMatches$Leaf;"⟩
abbrev b_LM_leastFlitchWith : ByteArray := prog_1_method_24_code
def y_LM_leastFlitchWith : MethodName := ⟨R_LM, "leastFlitchWith", "(I)I"⟩
abbrev b_LM_match : ByteArray := prog_1_method_5_code
def y_LM_match : MethodName := ⟨R_LM, "match", "(II)I"⟩
abbrev b_LM_mirrored : ByteArray := prog_1_method_12_code
def y_LM_mirrored : MethodName := ⟨R_LM, "mirrored", "(II)Z"⟩
abbrev b_LM_number : ByteArray := prog_1_method_14_code
def y_LM_number : MethodName := ⟨R_LM, "number", "(III)I"⟩
abbrev b_LM_pixel : ByteArray := prog_1_method_3_code
def y_LM_pixel : MethodName := ⟨R_LM, "pixel", "(IIII)Z"⟩
abbrev b_LM_place : ByteArray := prog_1_method_7_code
def y_LM_place : MethodName := ⟨R_LM, "place", "(III)I"⟩
abbrev b_LM_planned : ByteArray := prog_1_method_18_code
def y_LM_planned : MethodName := ⟨R_LM, "planned", "(II)I"⟩
abbrev b_LM_reserve : ByteArray := prog_1_method_4_code
def y_LM_reserve : MethodName := ⟨R_LM, "reserve", "(II)Z"⟩
abbrev b_LM_seam : ByteArray := prog_1_method_10_code
def y_LM_seam : MethodName := ⟨R_LM, "seam", "(II)I"⟩
abbrev b_LM_sum : ByteArray := prog_1_method_11_code
def y_LM_sum : MethodName := ⟨R_LM, "sum", "(III)J"⟩
abbrev b_LM_want : ByteArray := prog_1_method_15_code
def y_LM_want : MethodName := ⟨R_LM, "want", "(I)I"⟩
abbrev b_LM_writtenOn : ByteArray := prog_1_method_27_code
def y_LM_writtenOn : MethodName := ⟨R_LM, "writtenOn", "(IILLeafMatches$Piece;)Ljava/lang/StringBuilder;"⟩
abbrev b_Law_about : ByteArray := method_10_code
def y_Law_about : MethodName := ⟨R_Law, "about", "(LLeafMatches;II[J)I"⟩
abbrev b_Law_apart : ByteArray := method_7_code
def y_Law_apart : MethodName := ⟨R_Law, "apart", "(LLeafMatches;I[J)I"⟩
abbrev b_Law_at : ByteArray := method_9_code
def y_Law_at : MethodName := ⟨R_Law, "at", "(LLeafMatches;III[J)I"⟩
abbrev b_Law_balance : ByteArray := method_14_code
def y_Law_balance : MethodName := ⟨R_Law, "balance", "(LLeafMatches;I[J)I"⟩
abbrev b_Law_faces : ByteArray := method_17_code
def y_Law_faces : MethodName := ⟨R_Law, "faces", "(LLeafMatches;I[J)I"⟩
abbrev b_Law_leaf : ByteArray := method_3_code
def y_Law_leaf : MethodName := ⟨R_Law, "leaf", "(LLeafMatches;IIII[J)I"⟩
abbrev b_Law_match : ByteArray := method_6_code
def y_Law_match : MethodName := ⟨R_Law, "match", "(LLeafMatches;II[J)I"⟩
abbrev b_Law_mirrored : ByteArray := method_13_code
def y_Law_mirrored : MethodName := ⟨R_Law, "mirrored", "(LLeafMatches;II[J)I"⟩
abbrev b_Law_number : ByteArray := method_15_code
def y_Law_number : MethodName := ⟨R_Law, "number", "(LLeafMatches;III[J)I"⟩
abbrev b_Law_pixel : ByteArray := method_4_code
def y_Law_pixel : MethodName := ⟨R_Law, "pixel", "(LLeafMatches;IIII[J)I"⟩
abbrev b_Law_place : ByteArray := method_8_code
def y_Law_place : MethodName := ⟨R_Law, "place", "(LLeafMatches;III[J)I"⟩
abbrev b_Law_planned : ByteArray := method_18_code
def y_Law_planned : MethodName := ⟨R_Law, "planned", "(LLeafMatches;II[J)I"⟩
abbrev b_Law_reserve : ByteArray := method_5_code
def y_Law_reserve : MethodName := ⟨R_Law, "reserve", "(LLeafMatches;II[J)I"⟩
abbrev b_Law_seam : ByteArray := method_11_code
def y_Law_seam : MethodName := ⟨R_Law, "seam", "(LLeafMatches;II[J)I"⟩
abbrev b_Law_sum : ByteArray := method_12_code
def y_Law_sum : MethodName := ⟨R_Law, "sum", "(LLeafMatches;III[J)I"⟩
abbrev b_Law_want : ByteArray := method_16_code
def y_Law_want : MethodName := ⟨R_Law, "want", "(LLeafMatches;I[J)I"⟩
abbrev b_Leaf_follows : ByteArray := prog_3_method_3_code
def y_Leaf_follows : MethodName := ⟨R_Leaf, "follows", "(LLeafMatches$Leaf;)Z"⟩
abbrev b_Leaf_greyOrNone : ByteArray := prog_3_method_5_code
def y_Leaf_greyOrNone : MethodName := ⟨R_Leaf, "greyOrNone", "(II)I"⟩
abbrev b_Leaf_holds : ByteArray := prog_3_method_4_code
def y_Leaf_holds : MethodName := ⟨R_Leaf, "holds", "(II)Z"⟩
abbrev b_Leaf_init : ByteArray := prog_3_method_1_code
def y_Leaf_init : MethodName := ⟨R_Leaf, "<init>", "(IIIII)V"⟩
abbrev b_Leaf_isFree : ByteArray := prog_3_method_2_code
def y_Leaf_isFree : MethodName := ⟨R_Leaf, "isFree", "()Z"⟩
abbrev b_Leaf_paint : ByteArray := prog_3_method_6_code
def y_Leaf_paint : MethodName := ⟨R_Leaf, "paint", "(III)Z"⟩
abbrev b_Mod_about : ByteArray := prog_7_method_27_code
def y_Mod_about : MethodName := ⟨R_Mod, "about", "(II)I"⟩
abbrev b_Mod_across : ByteArray := prog_7_method_20_code
def y_Mod_across : MethodName := ⟨R_Mod, "across", "(II)I"⟩
abbrev b_Mod_apart : ByteArray := prog_7_method_10_code
def y_Mod_apart : MethodName := ⟨R_Mod, "apart", "(I)I"⟩
abbrev b_Mod_at : ByteArray := prog_7_method_25_code
def y_Mod_at : MethodName := ⟨R_Mod, "at", "(III)I"⟩
abbrev b_Mod_balance : ByteArray := prog_7_method_32_code
def y_Mod_balance : MethodName := ⟨R_Mod, "balance", "(I)Z"⟩
abbrev b_Mod_clear : ByteArray := prog_7_method_36_code
def y_Mod_clear : MethodName := ⟨R_Mod, "clear", "()I"⟩
abbrev b_Mod_faces : ByteArray := prog_7_method_40_code
def y_Mod_faces : MethodName := ⟨R_Mod, "faces", "(I)I"⟩
abbrev b_Mod_fillRow : ByteArray := prog_7_method_7_code
def y_Mod_fillRow : MethodName := ⟨R_Mod, "fillRow", "(I)V"⟩
abbrev b_Mod_grey : ByteArray := prog_7_method_13_code
def y_Mod_grey : MethodName := ⟨R_Mod, "grey", "(IIII)I"⟩
abbrev b_Mod_high : ByteArray := prog_7_method_15_code
def y_Mod_high : MethodName := ⟨R_Mod, "high", "(II)I"⟩
abbrev b_Mod_init : ByteArray := prog_7_method_1_code
def y_Mod_init : MethodName := ⟨R_Mod, "<init>", "()V"⟩
abbrev b_Mod_isIn : ByteArray := prog_7_method_3_code
def y_Mod_isIn : MethodName := ⟨R_Mod, "isIn", "(III)Z"⟩
abbrev b_Mod_isMirrored : ByteArray := prog_7_method_11_code
def y_Mod_isMirrored : MethodName := ⟨R_Mod, "isMirrored", "(II)Z"⟩
abbrev b_Mod_isTurned : ByteArray := prog_7_method_12_code
def y_Mod_isTurned : MethodName := ⟨R_Mod, "isTurned", "(II)Z"⟩
abbrev b_Mod_leaf : ByteArray := prog_7_method_4_code
def y_Mod_leaf : MethodName := ⟨R_Mod, "leaf", "(IIII)I"⟩
abbrev b_Mod_leastTop : ByteArray := prog_7_method_22_code
def y_Mod_leastTop : MethodName := ⟨R_Mod, "leastTop", "(I)I"⟩
abbrev b_Mod_leftOf : ByteArray := prog_7_method_17_code
def y_Mod_leftOf : MethodName := ⟨R_Mod, "leftOf", "(II)I"⟩
abbrev b_Mod_lossFrom : ByteArray := prog_7_method_38_code
def y_Mod_lossFrom : MethodName := ⟨R_Mod, "lossFrom", "(III)I"⟩
abbrev b_Mod_lossWith : ByteArray := prog_7_method_39_code
def y_Mod_lossWith : MethodName := ⟨R_Mod, "lossWith", "(III)I"⟩
abbrev b_Mod_manyFrom : ByteArray := prog_7_method_37_code
def y_Mod_manyFrom : MethodName := ⟨R_Mod, "manyFrom", "(II)I"⟩
abbrev b_Mod_match : ByteArray := prog_7_method_8_code
def y_Mod_match : MethodName := ⟨R_Mod, "match", "(II)I"⟩
abbrev b_Mod_mirrored : ByteArray := prog_7_method_31_code
def y_Mod_mirrored : MethodName := ⟨R_Mod, "mirrored", "(II)Z"⟩
abbrev b_Mod_noFace : ByteArray := prog_7_method_9_code
def y_Mod_noFace : MethodName := ⟨R_Mod, "noFace", "(I)Z"⟩
abbrev b_Mod_noPiece : ByteArray := prog_7_method_23_code
def y_Mod_noPiece : MethodName := ⟨R_Mod, "noPiece", "(II)Z"⟩
abbrev b_Mod_noSeam : ByteArray := prog_7_method_28_code
def y_Mod_noSeam : MethodName := ⟨R_Mod, "noSeam", "(II)Z"⟩
abbrev b_Mod_number : ByteArray := prog_7_method_34_code
def y_Mod_number : MethodName := ⟨R_Mod, "number", "(III)I"⟩
abbrev b_Mod_pixel : ByteArray := prog_7_method_5_code
def y_Mod_pixel : MethodName := ⟨R_Mod, "pixel", "(IIII)Z"⟩
abbrev b_Mod_place : ByteArray := prog_7_method_24_code
def y_Mod_place : MethodName := ⟨R_Mod, "place", "(III)I"⟩
abbrev b_Mod_planned : ByteArray := prog_7_method_42_code
def y_Mod_planned : MethodName := ⟨R_Mod, "planned", "(II)I"⟩
abbrev b_Mod_reserve : ByteArray := prog_7_method_6_code
def y_Mod_reserve : MethodName := ⟨R_Mod, "reserve", "(II)Z"⟩
abbrev b_Mod_seam : ByteArray := prog_7_method_29_code
def y_Mod_seam : MethodName := ⟨R_Mod, "seam", "(II)I"⟩
abbrev b_Mod_seams : ByteArray := prog_7_method_16_code
def y_Mod_seams : MethodName := ⟨R_Mod, "seams", "(I)I"⟩
abbrev b_Mod_shiftOf : ByteArray := prog_7_method_19_code
def y_Mod_shiftOf : MethodName := ⟨R_Mod, "shiftOf", "(II)I"⟩
abbrev b_Mod_sum : ByteArray := prog_7_method_30_code
def y_Mod_sum : MethodName := ⟨R_Mod, "sum", "(III)J"⟩
abbrev b_Mod_sumAt : ByteArray := prog_7_method_18_code
def y_Mod_sumAt : MethodName := ⟨R_Mod, "sumAt", "(III)I"⟩
abbrev b_Mod_thrown : ByteArray := prog_7_method_2_code
def y_Mod_thrown : MethodName := ⟨R_Mod, "thrown", "()I"⟩
abbrev b_Mod_topOf : ByteArray := prog_7_method_21_code
def y_Mod_topOf : MethodName := ⟨R_Mod, "topOf", "(II)I"⟩
abbrev b_Mod_walk : ByteArray := prog_7_method_41_code
def y_Mod_walk : MethodName := ⟨R_Mod, "walk", "(I)V"⟩
abbrev b_Mod_want : ByteArray := prog_7_method_35_code
def y_Mod_want : MethodName := ⟨R_Mod, "want", "(I)I"⟩
abbrev b_Mod_wide : ByteArray := prog_7_method_14_code
def y_Mod_wide : MethodName := ⟨R_Mod, "wide", "(II)I"⟩
abbrev b_Mod_wideOf : ByteArray := prog_7_method_26_code
def y_Mod_wideOf : MethodName := ⟨R_Mod, "wideOf", "(I)I"⟩
abbrev b_Mod_writeNumber : ByteArray := prog_7_method_33_code
def y_Mod_writeNumber : MethodName := ⟨R_Mod, "writeNumber", "(II)I"⟩
abbrev b_Piece_bottom : ByteArray := prog_4_method_3_code
def y_Piece_bottom : MethodName := ⟨R_Piece, "bottom", "()I"⟩
abbrev b_Piece_end : ByteArray := prog_4_method_2_code
def y_Piece_end : MethodName := ⟨R_Piece, "end", "()I"⟩
abbrev b_Piece_greyShown : ByteArray := prog_4_method_4_code
def y_Piece_greyShown : MethodName := ⟨R_Piece, "greyShown", "(II)I"⟩
abbrev b_Piece_init : ByteArray := prog_4_method_1_code
def y_Piece_init : MethodName := ⟨R_Piece, "<init>", "(LLeafMatches$Leaf;ZZ)V"⟩
abbrev b_Plan_addWanted : ByteArray := prog_5_method_3_code
def y_Plan_addWanted : MethodName := ⟨R_Plan, "addWanted", "(I)V"⟩
abbrev b_Plan_dropWanted : ByteArray := prog_5_method_4_code
def y_Plan_dropWanted : MethodName := ⟨R_Plan, "dropWanted", "()V"⟩
abbrev b_Plan_faceBegunAt : ByteArray := prog_5_method_13_code
def y_Plan_faceBegunAt : MethodName := ⟨R_Plan, "faceBegunAt", "(II)I"⟩
abbrev b_Plan_findLeastLoss : ByteArray := prog_5_method_10_code
def y_Plan_findLeastLoss : MethodName := ⟨R_Plan, "findLeastLoss", "(I)V"⟩
abbrev b_Plan_findRow : ByteArray := prog_5_method_9_code
def y_Plan_findRow : MethodName := ⟨R_Plan, "findRow", "([LLeafMatches$Leaf;III)V"⟩
abbrev b_Plan_findRows : ByteArray := prog_5_method_8_code
def y_Plan_findRows : MethodName := ⟨R_Plan, "findRows", "([LLeafMatches$Leaf;I)V"⟩
abbrev b_Plan_forgetPlan : ByteArray := prog_5_method_2_code
def y_Plan_forgetPlan : MethodName := ⟨R_Plan, "forgetPlan", "()V"⟩
abbrev b_Plan_grown : ByteArray := prog_5_method_7_code
def y_Plan_grown : MethodName := ⟨R_Plan, "grown", "([II)[I"⟩
abbrev b_Plan_init : ByteArray := prog_5_method_1_code
def y_Plan_init : MethodName := ⟨R_Plan, "<init>", "()V"⟩
abbrev b_Plan_keepPlan : ByteArray := prog_5_method_12_code
def y_Plan_keepPlan : MethodName := ⟨R_Plan, "keepPlan", "([LLeafMatches$Leaf;I)V"⟩
abbrev b_Plan_lowerByFace : ByteArray := prog_5_method_11_code
def y_Plan_lowerByFace : MethodName := ⟨R_Plan, "lowerByFace", "(II)V"⟩
abbrev b_Plan_makeRoom : ByteArray := prog_5_method_6_code
def y_Plan_makeRoom : MethodName := ⟨R_Plan, "makeRoom", "(I)V"⟩
abbrev b_Plan_planFrom : ByteArray := prog_5_method_5_code
def y_Plan_planFrom : MethodName := ⟨R_Plan, "planFrom", "([LLeafMatches$Leaf;I)I"⟩
end
section
/-! THE WORLD AS A FUNCTION: an address gives a cell or nothing. Objects: the class's number and its fields; arrays: the array class's number, length, contents. -/
abbrev Cel : Type := (Nat × List Value) ⊕ (Nat × vp_A)
abbrev Mp : Type := Nat → Option Cel
/-- where the world begins, classes and slots, array classes, addresses of constants -/
abbrev Gx : Type := Nat × va_G × (Nat → ClassId) × (Nat → Nat)
def xce (G : Gx) (e : Cel) : va_E := match e with
  | .inl o => .inr o
  | .inr q => .inl (G.2.2.1 q.1, q.2)
def xhd (G : Gx) (cl : List vw_C) (w : Mp) (H : Heap) : Prop := ∀ (a : Nat) (e : Cel), w a = some e → G.1 ≤ a ∧ va_at G.2.1 cl (a, xce G e) H
abbrev xA (G : Gx) : Nat → Prop := fun q => G.1 ≤ q
abbrev xS (G : Gx) (s : State) (H : Heap) (locs : List Loc) : Prop := va_S (xA G) s.heap H locs
def oI (v : Value) : Option Int32 := match v with
  | .int x => some x
  | _ => none
def oR (v : Value) : Option (Option Nat) := match v with
  | .null => some none
  | .ref a => some (some a)
  | _ => none
def gF (w : Mp) (r : Option Nat) (ci k : Nat) : Option Value := match r with
  | none => none
  | some a => match w a with
    | some (.inl o) => if o.1 = ci then o.2[k]? else none
    | _ => none
def gI (w : Mp) (r : Option Nat) (ci k : Nat) : Option Int32 := (gF w r ci k).bind oI
def gR (w : Mp) (r : Option Nat) (ci k : Nat) : Option (Option Nat) := (gF w r ci k).bind oR
def pF (w : Mp) (r : Option Nat) (ci k : Nat) (v : Value) : Option Mp := match r with
  | none => none
  | some a => match w a with
    | some (.inl o) => if o.1 = ci ∧ k < o.2.length then some (va_up w a (some (.inl (ci, o.2.set k v)))) else none
    | _ => none
def aI (w : Mp) (r : Option Nat) (t : Nat) (i : Int32) : Option Int32 := match r with
  | none => none
  | some a => match w a with
    | some (.inr (t', n, .inl f)) => if t' = t ∧ ¬ (i < 0 ∨ n ≤ i.toNatClampNeg) then some (f i.toNatClampNeg) else none
    | _ => none
def aL (w : Mp) (r : Option Nat) (t : Nat) : Option Int32 := match r with
  | none => none
  | some a => match w a with
    | some (.inr (t', n, _)) => if t' = t then some (Int32.ofNat n) else none
    | _ => none
def sI (w : Mp) (r : Option Nat) (t : Nat) (i x : Int32) : Option Mp := match r with
  | none => none
  | some a => match w a with
    | some (.inr (t', n, .inl f)) => if t' = t ∧ ¬ (i < 0 ∨ n ≤ i.toNatClampNeg) then some (va_up w a (some (.inr (t, n, .inl (upd f i.toNatClampNeg x))))) else none
    | _ => none
def aR (w : Mp) (r : Option Nat) (t : Nat) (i : Int32) : Option (Option Nat) := match r with
  | none => none
  | some a => match w a with
    | some (.inr (t', n, .inr (.inr (.inr (.inr f))))) => if t' = t ∧ ¬ (i < 0 ∨ n ≤ i.toNatClampNeg) then some (f i.toNatClampNeg) else none
    | _ => none
/-- the class of what a reference names, if it names something -/
def xis (w : Mp) (ci : Nat) (v : Option Nat) : Bool := match v with
  | none => true
  | some b => match w b with
    | some (.inl o) => o.1 == ci
    | _ => false
def sR (w : Mp) (r : Option Nat) (t ci : Nat) (i : Int32) (v : Option Nat) : Option Mp := match r with
  | none => none
  | some a => match w a with
    | some (.inr (t', n, .inr (.inr (.inr (.inr f))))) => if (t' = t ∧ ¬ (i < 0 ∨ n ≤ i.toNatClampNeg)) ∧ xis w ci v = true then some (va_up w a (some (.inr (t, n, .inr (.inr (.inr (.inr (va_up f i.toNatClampNeg v)))))))) else none
    | _ => none
theorem gF_inv {w : Mp} {r : Option Nat} {ci k : Nat} {v : Value} (h : gF w r ci k = some v) : ∃ a fs, r = some a ∧ w a = some (.inl (ci, fs)) ∧ fs[k]? = some v := by
  unfold gF at h
  split at h
  · cases h
  · rename_i a
    split at h
    · rename_i o ho
      split at h
      · rename_i hc
        exact ⟨a, o.2, rfl, by rw [ho, ← hc], h⟩
      · cases h
    · cases h
theorem oI_inv {v : Value} {x : Int32} (h : oI v = some x) : v = .int x := by
  unfold oI at h
  split at h
  · cases h; rfl
  · cases h
theorem oR_inv {v : Value} {r : Option Nat} (h : oR v = some r) : v = va_rf r := by
  unfold oR at h
  split at h
  · cases h; rfl
  · cases h; rfl
  · cases h
theorem gI_inv {w : Mp} {r : Option Nat} {ci k : Nat} {x : Int32} (h : gI w r ci k = some x) : ∃ a fs, r = some a ∧ w a = some (.inl (ci, fs)) ∧ fs[k]? = some (.int x) := by
  obtain ⟨v, hv, hx⟩ := Option.bind_eq_some_iff.mp h
  obtain ⟨a, fs, h1, h2, h3⟩ := gF_inv hv
  exact ⟨a, fs, h1, h2, by rw [h3, oI_inv hx]⟩
theorem gR_inv {w : Mp} {r : Option Nat} {ci k : Nat} {x : Option Nat} (h : gR w r ci k = some x) : ∃ a fs, r = some a ∧ w a = some (.inl (ci, fs)) ∧ fs[k]? = some (va_rf x) := by
  obtain ⟨v, hv, hx⟩ := Option.bind_eq_some_iff.mp h
  obtain ⟨a, fs, h1, h2, h3⟩ := gF_inv hv
  exact ⟨a, fs, h1, h2, by rw [h3, oR_inv hx]⟩
theorem pF_inv {w w' : Mp} {r : Option Nat} {ci k : Nat} {v : Value} (h : pF w r ci k v = some w') : ∃ a fs, r = some a ∧ w a = some (.inl (ci, fs)) ∧ k < fs.length ∧ w' = va_up w a (some (.inl (ci, fs.set k v))) := by
  unfold pF at h
  split at h
  · cases h
  · rename_i a
    split at h
    · rename_i o ho
      split at h
      · rename_i hc
        cases h
        exact ⟨a, o.2, rfl, by rw [ho, ← hc.1], hc.2, rfl⟩
      · cases h
    · cases h
theorem aI_inv {w : Mp} {r : Option Nat} {t : Nat} {i x : Int32} (h : aI w r t i = some x) : ∃ a n f, r = some a ∧ w a = some (.inr (t, n, .inl f)) ∧ vp_in i n ∧ x = f i.toNatClampNeg := by
  unfold aI at h
  split at h
  · cases h
  · rename_i a
    split at h
    · rename_i t' n f ho
      split at h
      · rename_i hc
        cases h
        exact ⟨a, n, f, rfl, by rw [ho, hc.1], hc.2, rfl⟩
      · cases h
    · cases h
theorem aL_inv {w : Mp} {r : Option Nat} {t : Nat} {x : Int32} (h : aL w r t = some x) : ∃ a q, r = some a ∧ w a = some (.inr (t, q)) ∧ x = Int32.ofNat q.1 := by
  unfold aL at h
  split at h
  · cases h
  · rename_i a
    split at h
    · rename_i t' n f ho
      split at h
      · rename_i hc
        cases h
        exact ⟨a, (n, f), rfl, by rw [ho, hc], rfl⟩
      · cases h
    · cases h
theorem sI_inv {w w' : Mp} {r : Option Nat} {t : Nat} {i x : Int32} (h : sI w r t i x = some w') : ∃ a n f, r = some a ∧ w a = some (.inr (t, n, .inl f)) ∧ vp_in i n ∧ w' = va_up w a (some (.inr (t, n, .inl (upd f i.toNatClampNeg x)))) := by
  unfold sI at h
  split at h
  · cases h
  · rename_i a
    split at h
    · rename_i t' n f ho
      split at h
      · rename_i hc
        cases h
        exact ⟨a, n, f, rfl, by rw [ho, hc.1], hc.2, rfl⟩
      · cases h
    · cases h
theorem aR_inv {w : Mp} {r : Option Nat} {t : Nat} {i : Int32} {x : Option Nat} (h : aR w r t i = some x) : ∃ a n f, r = some a ∧ w a = some (.inr (t, n, .inr (.inr (.inr (.inr f))))) ∧ vp_in i n ∧ x = f i.toNatClampNeg := by
  unfold aR at h
  split at h
  · cases h
  · rename_i a
    split at h
    · rename_i t' n f ho
      split at h
      · rename_i hc
        cases h
        exact ⟨a, n, f, rfl, by rw [ho, hc.1], hc.2, rfl⟩
      · cases h
    · cases h
theorem sR_inv {w w' : Mp} {r : Option Nat} {t ci : Nat} {i : Int32} {v : Option Nat} (h : sR w r t ci i v = some w') : ∃ a n f, r = some a ∧ w a = some (.inr (t, n, .inr (.inr (.inr (.inr f))))) ∧ vp_in i n ∧ (∀ b, v = some b → ∃ fs, w b = some (.inl (ci, fs))) ∧ w' = va_up w a (some (.inr (t, n, .inr (.inr (.inr (.inr (va_up f i.toNatClampNeg v))))))) := by
  unfold sR at h
  split at h
  · cases h
  · rename_i a
    split at h
    · rename_i t' n f ho
      split at h
      · rename_i hc
        cases h
        refine ⟨a, n, f, rfl, by rw [ho, hc.1.1], hc.1.2, fun b hb => ?_, rfl⟩
        have h2 := hc.2
        subst hb
        unfold xis at h2
        dsimp only at h2
        split at h2
        · rename_i o ho2
          exact ⟨o.2, by rw [ho2, ← eq_of_beq h2]⟩
        · cases h2
      · cases h
    · cases h
theorem xhd_one {G : Gx} {cl : List vw_C} {w : Mp} {H : Heap} (h : xhd G cl w H) {a : Nat} {e : Cel} (he : w a = some e) : va_P G.2.1 cl [(a, xce G e)] H := by
  intro k q hk
  match k, hk with
  | 0, hk => cases hk; exact (h a e he).2
  | k + 1, hk => simp at hk
/-- a cell is written: all others stay -/
theorem xhd_set {G : Gx} {cl : List vw_C} {w : Mp} {H H1 : Heap} (h : xhd G cl w H) {a : Nat} {e0 e : Cel} (h0 : w a = some e0) (he : va_at G.2.1 cl (a, xce G e) H1) (oq : ∀ q : Nat, q ≠ a → H1[q]? = H[q]?) : xhd G cl (va_up w a (some e)) H1 := by
  intro b x hx
  unfold va_up at hx
  split at hx
  · rename_i hb
    cases hx
    rw [hb]
    exact ⟨(h a e0 h0).1, he⟩
  · rename_i hb
    obtain ⟨h1, h2⟩ := h b x hx
    exact ⟨h1, h2.kept (oq b hb)⟩
/-- a cell is made -/
theorem xhd_new {G : Gx} {cl : List vw_C} {w : Mp} {H H1 : Heap} (h : xhd G cl w H) {e : Cel} (hB : G.1 ≤ H.size) (he : va_at G.2.1 cl (H.size, xce G e) H1) (oq : ∀ q : Nat, q < H.size → H1[q]? = H[q]?) : xhd G cl (va_up w H.size (some e)) H1 := by
  intro b x hx
  unfold va_up at hx
  split at hx
  · rename_i hb
    cases hx
    rw [hb]
    exact ⟨hB, he⟩
  · obtain ⟨h1, h2⟩ := h b x hx
    exact ⟨h1, h2.kept (oq b h2.lt)⟩
theorem va_rf_cat (r : Option Nat) : (va_rf r).category = 1 := by cases r <;> rfl
end
section
/-! LOCALS: a list of places and values whose kinds are known -/
abbrev xV : Type := Int32 ⊕ Option Nat ⊕ Int64
def xv (v : xV) : Value := match v with
  | .inl x => .int x
  | .inr (.inl r) => va_rf r
  | .inr (.inr y) => .long y
def xcat (v : xV) : Nat := match v with
  | .inl _ => 1
  | .inr (.inl _) => 1
  | .inr (.inr _) => 2
theorem xv_cat (v : xV) : (xv v).category = xcat v := by
  match v with
  | .inl x => rfl
  | .inr (.inl none) => rfl
  | .inr (.inl (some r)) => rfl
  | .inr (.inr y) => rfl
def xL (ls : Array Slot) (nL : Nat) (lv : List (Nat × xV)) : Prop := lv_has ls nL (lv.map fun q => (q.1, xv q.2))
theorem x_at {ls : Array Slot} {nL : Nat} {lv : List (Nat × xV)} (h : xL ls nL lv) (k : Nat) {i : Nat} {v : xV} (hk : lv[k]? = some (i, v)) : ls[i]? = some (.val (xv v)) :=
  lv_at h k (by rw [List.getElem?_map, hk]; rfl)
theorem x_sub {ls : Array Slot} {nL : Nat} {l l' : List (Nat × xV)} (h : xL ls nL l) (ks : List Nat) (hl : ks.filterMap (fun k => l[k]?) = l') : xL ls nL l' := by
  refine lv_sub h ks ?_
  subst hl
  unfold lv_pick
  rw [List.map_filterMap]
  congr 1
  funext k
  rw [List.getElem?_map]
def xst (lv : List (Nat × xV)) (i : Nat) (v : xV) : List (Nat × xV) := (i, v) :: lv.filter (fun q => !(q.1 == i) && !(q.1 + 1 == i && xcat q.2 == 2))
def xst2 (lv : List (Nat × xV)) (i : Nat) (v : xV) : List (Nat × xV) := (i, v) :: lv.filter (fun q => !(q.1 == i) && (!(q.1 == i + 1) && !(q.1 + 1 == i && xcat q.2 == 2)))
theorem xst_eq (lv : List (Nat × xV)) (i : Nat) (v : xV) : (i, xv v) :: (lv.map fun q => (q.1, xv q.2)).filter (fun q => !(q.1 == i) && !(q.1 + 1 == i && q.2.category == 2)) = (xst lv i v).map fun q => (q.1, xv q.2) := by
  unfold xst
  rw [List.map_cons, List.filter_map]
  congr 2
  refine List.filter_congr fun q _ => ?_
  show (!(q.1 == i) && !(q.1 + 1 == i && (xv q.2).category == 2)) = _
  rw [xv_cat]
theorem xst2_eq (lv : List (Nat × xV)) (i : Nat) (v : xV) : (i, xv v) :: (lv.map fun q => (q.1, xv q.2)).filter (fun q => !(q.1 == i) && (!(q.1 == i + 1) && !(q.1 + 1 == i && q.2.category == 2))) = (xst2 lv i v).map fun q => (q.1, xv q.2) := by
  unfold xst2
  rw [List.map_cons, List.filter_map]
  congr 2
  refine List.filter_congr fun q _ => ?_
  show (!(q.1 == i) && (!(q.1 == i + 1) && !(q.1 + 1 == i && (xv q.2).category == 2))) = _
  rw [xv_cat]
section XR
variable {p : Program} {l : Launch} {e : Env} {R : Room} {s : State} {m : MethodId} {args : Array Value} {below : List Frame} {meth : Method} {c : Code} {H : Heap} {locs : List Loc} {cells slots : Nat} {Q : State → Prop}
variable {cc : ByteArray} {pc nL : Nat} {ls : Array Slot} {rest : List Value} {Ts : List Cond} {own : String} {lv lv' : List (Nat × xV)}
theorem x_iload_n (C0 : CallFix p m c cc nL s args Ts own) (hl : xL ls nL lv) (k : Nat) {kn : Fin 4} {i : Nat} {x : Int32} (hdg : decode cc pc = .ok (.iload_n kn, 1)) (hi : (kn : Nat) = i) (hk : lv[k]? = some (i, .inl x))
    (kk : W p l e R s m args below meth c H locs cells slots Q (F0 m (pc + 1) ls (.int x :: rest))) : W p l e R s m args below meth c H locs cells slots Q (F0 m pc ls rest) :=
  lv_iload_n C0.1 C0.2.1 hdg hi (x_at hl k hk) kk
theorem x_iload (C0 : CallFix p m c cc nL s args Ts own) (hl : xL ls nL lv) (k : Nat) {i : Nat} {x : Int32} (hdg : decode cc pc = .ok (.iload i, 2)) (hk : lv[k]? = some (i, .inl x))
    (kk : W p l e R s m args below meth c H locs cells slots Q (F0 m (pc + 2) ls (.int x :: rest))) : W p l e R s m args below meth c H locs cells slots Q (F0 m pc ls rest) :=
  lv_iload C0.1 C0.2.1 hdg (x_at hl k hk) kk
theorem x_lload_n (C0 : CallFix p m c cc nL s args Ts own) (hl : xL ls nL lv) (k : Nat) {kn : Fin 4} {i : Nat} {x : Int64} (hdg : decode cc pc = .ok (.lload_n kn, 1)) (hi : (kn : Nat) = i) (hk : lv[k]? = some (i, .inr (.inr x)))
    (kk : W p l e R s m args below meth c H locs cells slots Q (F0 m (pc + 1) ls (.long x :: rest))) : W p l e R s m args below meth c H locs cells slots Q (F0 m pc ls rest) :=
  lv_lload_n C0.1 C0.2.1 hdg hi (x_at hl k hk) kk
theorem x_lload (C0 : CallFix p m c cc nL s args Ts own) (hl : xL ls nL lv) (k : Nat) {i : Nat} {x : Int64} (hdg : decode cc pc = .ok (.lload i, 2)) (hk : lv[k]? = some (i, .inr (.inr x)))
    (kk : W p l e R s m args below meth c H locs cells slots Q (F0 m (pc + 2) ls (.long x :: rest))) : W p l e R s m args below meth c H locs cells slots Q (F0 m pc ls rest) :=
  lv_lload C0.1 C0.2.1 hdg (x_at hl k hk) kk
theorem x_aload_n (C0 : CallFix p m c cc nL s args Ts own) (hl : xL ls nL lv) (k : Nat) {kn : Fin 4} {i : Nat} {r : Option Nat} (hdg : decode cc pc = .ok (.aload_n kn, 1)) (hi : (kn : Nat) = i) (hk : lv[k]? = some (i, .inr (.inl r)))
    (kk : W p l e R s m args below meth c H locs cells slots Q (F0 m (pc + 1) ls (va_rf r :: rest))) : W p l e R s m args below meth c H locs cells slots Q (F0 m pc ls rest) := by
  cases r with
  | none => exact lv_aload_nN C0.1 C0.2.1 hdg hi (x_at hl k hk) kk
  | some a => exact lv_aload_n C0.1 C0.2.1 hdg hi (x_at hl k hk) kk
theorem x_aload (C0 : CallFix p m c cc nL s args Ts own) (hl : xL ls nL lv) (k : Nat) {i : Nat} {r : Option Nat} (hdg : decode cc pc = .ok (.aload i, 2)) (hk : lv[k]? = some (i, .inr (.inl r)))
    (kk : W p l e R s m args below meth c H locs cells slots Q (F0 m (pc + 2) ls (va_rf r :: rest))) : W p l e R s m args below meth c H locs cells slots Q (F0 m pc ls rest) := by
  cases r with
  | none => exact lv_aloadN C0.1 C0.2.1 hdg (x_at hl k hk) kk
  | some a => exact lv_aload C0.1 C0.2.1 hdg (x_at hl k hk) kk
theorem x_istore_n (C0 : CallFix p m c cc nL s args Ts own) (hl : xL ls nL lv) {kn : Fin 4} {i : Nat} {x : Int32} (hdg : decode cc pc = .ok (.istore_n kn, 1)) (hi : (kn : Nat) = i) (hn : i < nL) (he : xst lv i (.inl x) = lv')
    (kk : ∀ ls, xL ls nL lv' → W p l e R s m args below meth c H locs cells slots Q (F0 m (pc + 1) ls rest)) : W p l e R s m args below meth c H locs cells slots Q (F0 m pc ls (.int x :: rest)) :=
  lv_istore_n C0.1 C0.2.1 hdg hi hl hn ((xst_eq lv i (.inl x)).trans (by rw [he])) kk
theorem x_istore (C0 : CallFix p m c cc nL s args Ts own) (hl : xL ls nL lv) {i : Nat} {x : Int32} (hdg : decode cc pc = .ok (.istore i, 2)) (hn : i < nL) (he : xst lv i (.inl x) = lv')
    (kk : ∀ ls, xL ls nL lv' → W p l e R s m args below meth c H locs cells slots Q (F0 m (pc + 2) ls rest)) : W p l e R s m args below meth c H locs cells slots Q (F0 m pc ls (.int x :: rest)) :=
  lv_istore C0.1 C0.2.1 hdg hl hn ((xst_eq lv i (.inl x)).trans (by rw [he])) kk
theorem x_lstore_n (C0 : CallFix p m c cc nL s args Ts own) (hl : xL ls nL lv) {kn : Fin 4} {i : Nat} {x : Int64} (hdg : decode cc pc = .ok (.lstore_n kn, 1)) (hi : (kn : Nat) = i) (hn : i + 1 < nL) (he : xst2 lv i (.inr (.inr x)) = lv')
    (kk : ∀ ls, xL ls nL lv' → W p l e R s m args below meth c H locs cells slots Q (F0 m (pc + 1) ls rest)) : W p l e R s m args below meth c H locs cells slots Q (F0 m pc ls (.long x :: rest)) :=
  lv_lstore_n C0.1 C0.2.1 hdg hi hl hn ((xst2_eq lv i (.inr (.inr x))).trans (by rw [he])) kk
theorem x_lstore (C0 : CallFix p m c cc nL s args Ts own) (hl : xL ls nL lv) {i : Nat} {x : Int64} (hdg : decode cc pc = .ok (.lstore i, 2)) (hn : i + 1 < nL) (he : xst2 lv i (.inr (.inr x)) = lv')
    (kk : ∀ ls, xL ls nL lv' → W p l e R s m args below meth c H locs cells slots Q (F0 m (pc + 2) ls rest)) : W p l e R s m args below meth c H locs cells slots Q (F0 m pc ls (.long x :: rest)) :=
  lv_lstore C0.1 C0.2.1 hdg hl hn ((xst2_eq lv i (.inr (.inr x))).trans (by rw [he])) kk
theorem x_astore_n (C0 : CallFix p m c cc nL s args Ts own) (hl : xL ls nL lv) {kn : Fin 4} {i : Nat} {r : Option Nat} (hdg : decode cc pc = .ok (.astore_n kn, 1)) (hi : (kn : Nat) = i) (hn : i < nL) (he : xst lv i (.inr (.inl r)) = lv')
    (kk : ∀ ls, xL ls nL lv' → W p l e R s m args below meth c H locs cells slots Q (F0 m (pc + 1) ls rest)) : W p l e R s m args below meth c H locs cells slots Q (F0 m pc ls (va_rf r :: rest)) := by
  cases r with
  | none => exact lv_astore_nN C0.1 C0.2.1 hdg hi hl hn ((xst_eq lv i (.inr (.inl none))).trans (by rw [he])) kk
  | some a => exact lv_astore_n C0.1 C0.2.1 hdg hi hl hn ((xst_eq lv i (.inr (.inl (some a)))).trans (by rw [he])) kk
theorem x_astore (C0 : CallFix p m c cc nL s args Ts own) (hl : xL ls nL lv) {i : Nat} {r : Option Nat} (hdg : decode cc pc = .ok (.astore i, 2)) (hn : i < nL) (he : xst lv i (.inr (.inl r)) = lv')
    (kk : ∀ ls, xL ls nL lv' → W p l e R s m args below meth c H locs cells slots Q (F0 m (pc + 2) ls rest)) : W p l e R s m args below meth c H locs cells slots Q (F0 m pc ls (va_rf r :: rest)) := by
  cases r with
  | none => exact lv_astoreN C0.1 C0.2.1 hdg hl hn ((xst_eq lv i (.inr (.inl none))).trans (by rw [he])) kk
  | some a => exact lv_astore C0.1 C0.2.1 hdg hl hn ((xst_eq lv i (.inr (.inl (some a)))).trans (by rw [he])) kk
theorem x_iinc (C0 : CallFix p m c cc nL s args Ts own) (hl : xL ls nL lv) (k : Nat) {i : Nat} {n : Int} {x v : Int32} (hdg : decode cc pc = .ok (.iinc i n, 3)) (hk : lv[k]? = some (i, .inl x)) (hv : Int32.ofInt n = v) (hn : i < nL) (he : xst lv i (.inl (x + v)) = lv')
    (kk : ∀ ls, xL ls nL lv' → W p l e R s m args below meth c H locs cells slots Q (F0 m (pc + 3) ls rest)) : W p l e R s m args below meth c H locs cells slots Q (F0 m pc ls rest) :=
  lv_iinc (v := x + v) (k := k) C0.1 C0.2.1 hdg hl (by rw [List.getElem?_map, hk]; rfl) (by rw [hv]) hn ((xst_eq lv i (.inl (x + v))).trans (by rw [he])) kk
/-! branches over an equation -/
variable {α : Type} {A B : Option α} {o : Option α}
theorem x_goto (C0 : CallFix p m c cc nL s args Ts own) {off : Int} (tgt : Nat) (hdg : decode cc pc = .ok (.goto off, 3)) (ht : (pc : Int) + off = (tgt : Int)) (k : W p l e R s m args below meth c H locs cells slots Q (F0 m tgt ls rest)) : W p l e R s m args below meth c H locs cells slots Q (F0 m pc ls rest) := lv_goto C0.1 C0.2.1 hdg ht k
theorem x_if_eq (C0 : CallFix p m c cc nL s args Ts own) {x : Int32} {off : Int} (tgt : Nat) (hdg : decode cc pc = .ok (.ifCond .eq off, 3)) (ht : (pc : Int) + off = (tgt : Int)) (h : (if x = 0 then A else B) = o)
    (kt : A = o → W p l e R s m args below meth c H locs cells slots Q (F0 m tgt ls rest)) (kf : B = o → W p l e R s m args below meth c H locs cells slots Q (F0 m (pc + 3) ls rest)) : W p l e R s m args below meth c H locs cells slots Q (F0 m pc ls (.int x :: rest)) :=
  lv_if_eq C0.1 C0.2.1 hdg ht (fun z => kt (by rw [if_pos z] at h; exact h)) (fun z => kf (by rw [if_neg z] at h; exact h))
theorem x_icmp_eq (C0 : CallFix p m c cc nL s args Ts own) {x y : Int32} {off : Int} (tgt : Nat) (hdg : decode cc pc = .ok (.if_icmp .eq off, 3)) (ht : (pc : Int) + off = (tgt : Int)) (h : (if x = y then A else B) = o)
    (kt : A = o → W p l e R s m args below meth c H locs cells slots Q (F0 m tgt ls rest)) (kf : B = o → W p l e R s m args below meth c H locs cells slots Q (F0 m (pc + 3) ls rest)) : W p l e R s m args below meth c H locs cells slots Q (F0 m pc ls (.int y :: .int x :: rest)) :=
  lv_icmp_eq C0.1 C0.2.1 hdg ht (fun z => kt (by rw [if_pos z] at h; exact h)) (fun z => kf (by rw [if_neg z] at h; exact h))
theorem x_if_ne (C0 : CallFix p m c cc nL s args Ts own) {x : Int32} {off : Int} (tgt : Nat) (hdg : decode cc pc = .ok (.ifCond .ne off, 3)) (ht : (pc : Int) + off = (tgt : Int)) (h : (if x = 0 then B else A) = o)
    (kt : A = o → W p l e R s m args below meth c H locs cells slots Q (F0 m tgt ls rest)) (kf : B = o → W p l e R s m args below meth c H locs cells slots Q (F0 m (pc + 3) ls rest)) : W p l e R s m args below meth c H locs cells slots Q (F0 m pc ls (.int x :: rest)) :=
  lv_if_ne C0.1 C0.2.1 hdg ht (fun z => kt (by rw [if_neg z] at h; exact h)) (fun z => kf (by rw [if_pos z] at h; exact h))
theorem x_icmp_ne (C0 : CallFix p m c cc nL s args Ts own) {x y : Int32} {off : Int} (tgt : Nat) (hdg : decode cc pc = .ok (.if_icmp .ne off, 3)) (ht : (pc : Int) + off = (tgt : Int)) (h : (if x = y then B else A) = o)
    (kt : A = o → W p l e R s m args below meth c H locs cells slots Q (F0 m tgt ls rest)) (kf : B = o → W p l e R s m args below meth c H locs cells slots Q (F0 m (pc + 3) ls rest)) : W p l e R s m args below meth c H locs cells slots Q (F0 m pc ls (.int y :: .int x :: rest)) :=
  lv_icmp_ne C0.1 C0.2.1 hdg ht (fun z => kt (by rw [if_neg z] at h; exact h)) (fun z => kf (by rw [if_pos z] at h; exact h))
theorem x_if_lt (C0 : CallFix p m c cc nL s args Ts own) {x : Int32} {off : Int} (tgt : Nat) (hdg : decode cc pc = .ok (.ifCond .lt off, 3)) (ht : (pc : Int) + off = (tgt : Int)) (h : (if x < 0 then A else B) = o)
    (kt : A = o → W p l e R s m args below meth c H locs cells slots Q (F0 m tgt ls rest)) (kf : B = o → W p l e R s m args below meth c H locs cells slots Q (F0 m (pc + 3) ls rest)) : W p l e R s m args below meth c H locs cells slots Q (F0 m pc ls (.int x :: rest)) :=
  lv_if_lt C0.1 C0.2.1 hdg ht (fun z => kt (by rw [if_pos z] at h; exact h)) (fun z => kf (by rw [if_neg z] at h; exact h))
theorem x_icmp_lt (C0 : CallFix p m c cc nL s args Ts own) {x y : Int32} {off : Int} (tgt : Nat) (hdg : decode cc pc = .ok (.if_icmp .lt off, 3)) (ht : (pc : Int) + off = (tgt : Int)) (h : (if x < y then A else B) = o)
    (kt : A = o → W p l e R s m args below meth c H locs cells slots Q (F0 m tgt ls rest)) (kf : B = o → W p l e R s m args below meth c H locs cells slots Q (F0 m (pc + 3) ls rest)) : W p l e R s m args below meth c H locs cells slots Q (F0 m pc ls (.int y :: .int x :: rest)) :=
  lv_icmp_lt C0.1 C0.2.1 hdg ht (fun z => kt (by rw [if_pos z] at h; exact h)) (fun z => kf (by rw [if_neg z] at h; exact h))
theorem x_if_ge (C0 : CallFix p m c cc nL s args Ts own) {x : Int32} {off : Int} (tgt : Nat) (hdg : decode cc pc = .ok (.ifCond .ge off, 3)) (ht : (pc : Int) + off = (tgt : Int)) (h : (if 0 ≤ x then A else B) = o)
    (kt : A = o → W p l e R s m args below meth c H locs cells slots Q (F0 m tgt ls rest)) (kf : B = o → W p l e R s m args below meth c H locs cells slots Q (F0 m (pc + 3) ls rest)) : W p l e R s m args below meth c H locs cells slots Q (F0 m pc ls (.int x :: rest)) :=
  lv_if_ge C0.1 C0.2.1 hdg ht (fun z => kt (by rw [if_pos z] at h; exact h)) (fun z => kf (by rw [if_neg z] at h; exact h))
theorem x_icmp_ge (C0 : CallFix p m c cc nL s args Ts own) {x y : Int32} {off : Int} (tgt : Nat) (hdg : decode cc pc = .ok (.if_icmp .ge off, 3)) (ht : (pc : Int) + off = (tgt : Int)) (h : (if y ≤ x then A else B) = o)
    (kt : A = o → W p l e R s m args below meth c H locs cells slots Q (F0 m tgt ls rest)) (kf : B = o → W p l e R s m args below meth c H locs cells slots Q (F0 m (pc + 3) ls rest)) : W p l e R s m args below meth c H locs cells slots Q (F0 m pc ls (.int y :: .int x :: rest)) :=
  lv_icmp_ge C0.1 C0.2.1 hdg ht (fun z => kt (by rw [if_pos z] at h; exact h)) (fun z => kf (by rw [if_neg z] at h; exact h))
theorem x_if_gt (C0 : CallFix p m c cc nL s args Ts own) {x : Int32} {off : Int} (tgt : Nat) (hdg : decode cc pc = .ok (.ifCond .gt off, 3)) (ht : (pc : Int) + off = (tgt : Int)) (h : (if 0 < x then A else B) = o)
    (kt : A = o → W p l e R s m args below meth c H locs cells slots Q (F0 m tgt ls rest)) (kf : B = o → W p l e R s m args below meth c H locs cells slots Q (F0 m (pc + 3) ls rest)) : W p l e R s m args below meth c H locs cells slots Q (F0 m pc ls (.int x :: rest)) :=
  lv_if_gt C0.1 C0.2.1 hdg ht (fun z => kt (by rw [if_pos z] at h; exact h)) (fun z => kf (by rw [if_neg z] at h; exact h))
theorem x_icmp_gt (C0 : CallFix p m c cc nL s args Ts own) {x y : Int32} {off : Int} (tgt : Nat) (hdg : decode cc pc = .ok (.if_icmp .gt off, 3)) (ht : (pc : Int) + off = (tgt : Int)) (h : (if y < x then A else B) = o)
    (kt : A = o → W p l e R s m args below meth c H locs cells slots Q (F0 m tgt ls rest)) (kf : B = o → W p l e R s m args below meth c H locs cells slots Q (F0 m (pc + 3) ls rest)) : W p l e R s m args below meth c H locs cells slots Q (F0 m pc ls (.int y :: .int x :: rest)) :=
  lv_icmp_gt C0.1 C0.2.1 hdg ht (fun z => kt (by rw [if_pos z] at h; exact h)) (fun z => kf (by rw [if_neg z] at h; exact h))
theorem x_if_le (C0 : CallFix p m c cc nL s args Ts own) {x : Int32} {off : Int} (tgt : Nat) (hdg : decode cc pc = .ok (.ifCond .le off, 3)) (ht : (pc : Int) + off = (tgt : Int)) (h : (if x ≤ 0 then A else B) = o)
    (kt : A = o → W p l e R s m args below meth c H locs cells slots Q (F0 m tgt ls rest)) (kf : B = o → W p l e R s m args below meth c H locs cells slots Q (F0 m (pc + 3) ls rest)) : W p l e R s m args below meth c H locs cells slots Q (F0 m pc ls (.int x :: rest)) :=
  lv_if_le C0.1 C0.2.1 hdg ht (fun z => kt (by rw [if_pos z] at h; exact h)) (fun z => kf (by rw [if_neg z] at h; exact h))
theorem x_icmp_le (C0 : CallFix p m c cc nL s args Ts own) {x y : Int32} {off : Int} (tgt : Nat) (hdg : decode cc pc = .ok (.if_icmp .le off, 3)) (ht : (pc : Int) + off = (tgt : Int)) (h : (if x ≤ y then A else B) = o)
    (kt : A = o → W p l e R s m args below meth c H locs cells slots Q (F0 m tgt ls rest)) (kf : B = o → W p l e R s m args below meth c H locs cells slots Q (F0 m (pc + 3) ls rest)) : W p l e R s m args below meth c H locs cells slots Q (F0 m pc ls (.int y :: .int x :: rest)) :=
  lv_icmp_le C0.1 C0.2.1 hdg ht (fun z => kt (by rw [if_pos z] at h; exact h)) (fun z => kf (by rw [if_neg z] at h; exact h))
theorem x_ifnull (C0 : CallFix p m c cc nL s args Ts own) {r : Option Nat} {off : Int} (tgt : Nat) (hdg : decode cc pc = .ok (.ifnull off, 3)) (ht : (pc : Int) + off = (tgt : Int)) (h : (if r = none then A else B) = o)
    (kt : r = none → A = o → W p l e R s m args below meth c H locs cells slots Q (F0 m tgt ls rest)) (kf : ∀ a, r = some a → B = o → W p l e R s m args below meth c H locs cells slots Q (F0 m (pc + 3) ls rest)) : W p l e R s m args below meth c H locs cells slots Q (F0 m pc ls (va_rf r :: rest)) := by
  cases r with
  | none => exact lv_ifnullN C0.1 C0.2.1 hdg ht (kt rfl (by rw [if_pos rfl] at h; exact h))
  | some a => exact lv_ifnull C0.1 C0.2.1 hdg (kf a rfl (by rw [if_neg (by simp)] at h; exact h))
theorem x_ifnonnull (C0 : CallFix p m c cc nL s args Ts own) {r : Option Nat} {off : Int} (tgt : Nat) (hdg : decode cc pc = .ok (.ifnonnull off, 3)) (ht : (pc : Int) + off = (tgt : Int)) (h : (if r = none then B else A) = o)
    (kt : ∀ a, r = some a → A = o → W p l e R s m args below meth c H locs cells slots Q (F0 m tgt ls rest)) (kf : r = none → B = o → W p l e R s m args below meth c H locs cells slots Q (F0 m (pc + 3) ls rest)) : W p l e R s m args below meth c H locs cells slots Q (F0 m pc ls (va_rf r :: rest)) := by
  cases r with
  | none => exact lv_ifnonnullN C0.1 C0.2.1 hdg (kf rfl (by rw [if_pos rfl] at h; exact h))
  | some a => exact lv_ifnonnull C0.1 C0.2.1 hdg ht (kt a rfl (by rw [if_neg (by simp)] at h; exact h))
theorem x_idiv (C0 : CallFix p m c cc nL s args Ts own) {x y : Int32} (hdg : decode cc pc = .ok (.idiv, 1)) (h : (if y = 0 then none else A) = o) (ho : o.isSome)
    (k : A = o → W p l e R s m args below meth c H locs cells slots Q (F0 m (pc + 1) ls (.int (x / y) :: rest))) : W p l e R s m args below meth c H locs cells slots Q (F0 m pc ls (.int y :: .int x :: rest)) := by
  by_cases hy : y = 0
  · rw [if_pos hy] at h; subst h; cases ho
  · rw [if_neg hy] at h; exact lv_idiv C0.1 C0.2.1 hdg hy (k h)
theorem x_irem (C0 : CallFix p m c cc nL s args Ts own) {x y : Int32} (hdg : decode cc pc = .ok (.irem, 1)) (h : (if y = 0 then none else A) = o) (ho : o.isSome)
    (k : A = o → W p l e R s m args below meth c H locs cells slots Q (F0 m (pc + 1) ls (.int (x - x / y * y) :: rest))) : W p l e R s m args below meth c H locs cells slots Q (F0 m pc ls (.int y :: .int x :: rest)) := by
  by_cases hy : y = 0
  · rw [if_pos hy] at h; subst h; cases ho
  · rw [if_neg hy] at h; exact lv_irem C0.1 C0.2.1 hdg hy (k h)
end XR
end
section
/-! HEAP: rows over the world as a function -/
def xT (G : Gx) (aty : List FieldType) : List (ClassId × FieldType) := (List.range aty.length).map fun t => (G.2.2.1 t, aty.getD t .int)
theorem xT_at {G : Gx} {aty : List FieldType} {t : Nat} {ty : FieldType} (h : aty[t]? = some ty) : (xT G aty)[t]? = some (G.2.2.1 t, ty) := by
  have hl : t < aty.length := (List.getElem?_eq_some_iff.mp h).1
  unfold xT
  rw [List.getElem?_map, List.getElem?_range hl]
  simp [List.getD, h]
/-- what a method may lean on at its start: the tables, and that the world lies above G.1 -/
def xE (G : Gx) (cl : List vw_C) (aty : List FieldType) (s : State) : Prop := va_K G.2.1 cl (xT G aty) s ∧ G.1 ≤ s.heap.size
theorem xE.moved {G : Gx} {cl : List vw_C} {aty : List FieldType} {s U : State} {H : Heap} {locs : List Loc} (h : xE G cl aty s) (hS : xS G s H locs) (hU : U.heap = H) (hW : s.vm.Alike U.vm) : xE G cl aty U :=
  ⟨va_K.moved hW h.1, by rw [hU]; exact Nat.le_trans h.2 hS.1⟩
def xPc (G : Gx) (cl : List vw_C) (aty : List FieldType) (w : Mp) (sz : Nat) (av : List Value) : Array Value → State → Prop := va_Pc av (fun U => xE G cl aty U ∧ xhd G cl w U.heap ∧ U.heap.size = sz)
theorem xPc_blind {G : Gx} {cl : List vw_C} {aty : List FieldType} {w : Mp} {sz : Nat} {av : List Value} : FrameBlind (xPc G cl aty w sz av) := fun a U g mk q => by
  obtain ⟨q0, q1, q2, q3⟩ := q
  exact ⟨q0, ⟨va_K.moved (u := U) (U := U.calling g mk a) (Vm.Alike.refl U.vm) q1.1, q1.2⟩, q2, q3⟩
/-- a method's end: its answer, the world behind it, the heap's size, all below as it was -/
def xQ (G : Gx) (cl : List vw_C) (v : Option Value) (w' : Mp) (sz' : Nat) : Array Value → State → Outcome → State → Prop := fun _ st oc t => oc = .returned v ∧ xhd G cl w' t.heap ∧ t.heap.size = sz' ∧ va_F (xA G) st t
section XH
variable {p : Program} {l : Launch} {e : Env} {R : Room} {s : State} {m : MethodId} {args : Array Value} {below : List Frame} {meth : Method} {c : Code} {H : Heap} {locs : List Loc} {cells slots : Nat} {Q : State → Prop}
variable {cc : ByteArray} {pc nL : Nat} {ls : Array Slot} {rest : List Value} {Ts : List Cond} {own : String}
variable {G : Gx} {cl : List vw_C} {aty : List FieldType} {w : Mp} {α : Type} {res : α}
theorem x_getI (C0 : CallFix p m c cc nL s args Ts own) (hE : xE G cl aty s) (hH : xhd G cl w H) {C : String} {T : u_T} {N ci index : Nat} (hc : cl[ci]? = some (C, T, N)) (hin : ∀ w ∈ u_ws C T N, w ∈ Ts) (k : Nat) (hk : k < N) (hlink : Cond.fieldLink own index (T k).1 (T k).2.1 (T k).2.2.1 ∈ Ts) (hdg : decode cc pc = .ok (.getfield index, 3))
    {r : Option Nat} {F : Int32 → Option α} (h : (gI w r ci k).bind F = some res) (kk : ∀ v, F v = some res → W p l e R s m args below meth c H locs cells slots Q (F0 m (pc + 3) ls (.int v :: rest))) : W p l e R s m args below meth c H locs cells slots Q (F0 m pc ls (va_rf r :: rest)) := by
  obtain ⟨v, hv, hF⟩ := Option.bind_eq_some_iff.mp h
  obtain ⟨a, fs, rfl, h2, h3⟩ := gI_inv hv
  exact va_get (D := G.2.1) (ws := [(a, .inr (ci, fs))]) C0.1 C0.2.1 C0.2.2.2.2 hin C0.2.2.2.1 hE.1 (xhd_one hH h2) 0 rfl hc k hk (C0.2.2.2.2 _ hlink) (fun _ h9 => h9) h3 hdg (kk v hF)
theorem x_getR (C0 : CallFix p m c cc nL s args Ts own) (hE : xE G cl aty s) (hH : xhd G cl w H) {C : String} {T : u_T} {N ci index : Nat} (hc : cl[ci]? = some (C, T, N)) (hin : ∀ w ∈ u_ws C T N, w ∈ Ts) (k : Nat) (hk : k < N) (hlink : Cond.fieldLink own index (T k).1 (T k).2.1 (T k).2.2.1 ∈ Ts) (hdg : decode cc pc = .ok (.getfield index, 3))
    {r : Option Nat} {F : Option Nat → Option α} (h : (gR w r ci k).bind F = some res) (kk : ∀ v, F v = some res → W p l e R s m args below meth c H locs cells slots Q (F0 m (pc + 3) ls (va_rf v :: rest))) : W p l e R s m args below meth c H locs cells slots Q (F0 m pc ls (va_rf r :: rest)) := by
  obtain ⟨v, hv, hF⟩ := Option.bind_eq_some_iff.mp h
  obtain ⟨a, fs, rfl, h2, h3⟩ := gR_inv hv
  exact va_get (D := G.2.1) (ws := [(a, .inr (ci, fs))]) C0.1 C0.2.1 C0.2.2.2.2 hin C0.2.2.2.1 hE.1 (xhd_one hH h2) 0 rfl hc k hk (C0.2.2.2.2 _ hlink) (fun _ h9 => h9) h3 hdg (kk v hF)
theorem x_iald (C0 : CallFix p m c cc nL s args Ts own) (hE : xE G cl aty s) (hH : xhd G cl w H) {t : Nat} (ht : aty[t]? = some .int) (hdg : decode cc pc = .ok (.iaload, 1))
    {r : Option Nat} {i : Int32} {F : Int32 → Option α} (h : (aI w r t i).bind F = some res) (kk : ∀ v, F v = some res → W p l e R s m args below meth c H locs cells slots Q (F0 m (pc + 1) ls (.int v :: rest))) : W p l e R s m args below meth c H locs cells slots Q (F0 m pc ls (.int i :: va_rf r :: rest)) := by
  obtain ⟨v, hv, hF⟩ := Option.bind_eq_some_iff.mp h
  obtain ⟨a, n, f, rfl, h2, h3, rfl⟩ := aI_inv hv
  exact va_iald (D := G.2.1) (ws := [(a, .inl (G.2.2.1 t, n, .inl f))]) C0.1 C0.2.1 hE.1 (xhd_one hH h2) 0 t rfl (xT_at ht) h3 hdg (kk _ hF)
theorem x_aald (C0 : CallFix p m c cc nL s args Ts own) (hE : xE G cl aty s) (hH : xhd G cl w H) {t : Nat} {C : String} (ht : aty[t]? = some (.object C)) (hdg : decode cc pc = .ok (.aaload, 1))
    {r : Option Nat} {i : Int32} {F : Option Nat → Option α} (h : (aR w r t i).bind F = some res) (kk : ∀ v, F v = some res → W p l e R s m args below meth c H locs cells slots Q (F0 m (pc + 1) ls (va_rf v :: rest))) : W p l e R s m args below meth c H locs cells slots Q (F0 m pc ls (.int i :: va_rf r :: rest)) := by
  obtain ⟨v, hv, hF⟩ := Option.bind_eq_some_iff.mp h
  obtain ⟨a, n, f, rfl, h2, h3, rfl⟩ := aR_inv hv
  exact va_aldq (D := G.2.1) (ws := [(a, .inl (G.2.2.1 t, n, .inr (.inr (.inr (.inr f)))))]) C0.1 C0.2.1 hE.1 (xhd_one hH h2) 0 t rfl (xT_at ht) h3 hdg (kk _ hF)
theorem x_alen (C0 : CallFix p m c cc nL s args Ts own) (hE : xE G cl aty s) (hH : xhd G cl w H) {t : Nat} {ty : FieldType} (ht : aty[t]? = some ty) (hdg : decode cc pc = .ok (.arraylength, 1))
    {r : Option Nat} {F : Int32 → Option α} (h : (aL w r t).bind F = some res) (kk : ∀ v, F v = some res → W p l e R s m args below meth c H locs cells slots Q (F0 m (pc + 1) ls (.int v :: rest))) : W p l e R s m args below meth c H locs cells slots Q (F0 m pc ls (va_rf r :: rest)) := by
  obtain ⟨v, hv, hF⟩ := Option.bind_eq_some_iff.mp h
  obtain ⟨a, q, rfl, h2, rfl⟩ := aL_inv hv
  exact va_alen (D := G.2.1) (ws := [(a, .inl (G.2.2.1 t, q))]) C0.1 C0.2.1 hE.1 (xhd_one hH h2) 0 t rfl (xT_at ht) rfl hdg (kk _ hF)
theorem x_put (C0 : CallFix p m c cc nL s args Ts own) (hE : xE G cl aty s) (hH : xhd G cl w H) (hS : xS G s H locs) {C : String} {T : u_T} {N ci index : Nat} (hc : cl[ci]? = some (C, T, N)) (hin : ∀ w ∈ u_ws C T N, w ∈ Ts) (ty0 : Nat → FieldType) (hty : ∀ k, k < N → parseFieldDescriptor (T k).2.2.1 = some (ty0 k)) (hnm : ∀ a, a < N → ∀ b, b < N → a ≠ b → (T a).2.1 ≠ (T b).2.1) (k : Nat) (hk : k < N) (hlink : Cond.fieldLink own index (T k).1 (T k).2.1 (T k).2.2.1 ∈ Ts) (hfin : (T k).2.2.2 = false) {v : Value} (hn : narrow (ty0 k) v = v) (hfit : fits (ty0 k) v = true) (hdg : decode cc pc = .ok (.putfield index, 3))
    {r : Option Nat} {F : Mp → Option α} (h : (pF w r ci k v).bind F = some res) (kk : ∀ w' H' locs', xhd G cl w' H' → xS G s H' locs' → H'.size = H.size → F w' = some res → W p l e R s m args below meth c H' locs' cells slots Q (F0 m (pc + 3) ls rest)) : W p l e R s m args below meth c H locs cells slots Q (F0 m pc ls (v :: va_rf r :: rest)) := by
  obtain ⟨w', hv, hF⟩ := Option.bind_eq_some_iff.mp h
  obtain ⟨a, fs, rfl, h2, hl, rfl⟩ := pF_inv hv
  have hap := va_apart (own := own) C0.2.2.2.2 hin ty0 hty hnm hE.1 hc
  obtain ⟨hA, r0, h1, cell, q1, q2, q3, q4⟩ := hH a _ h2
  have hr : r0 = (C, T, N) := Option.some.inj (h1.symm.trans hc)
  subst hr
  obtain ⟨hSl, hfc, kC, hkC, hkind⟩ := hE.1.1 ci _ hc
  obtain ⟨cf, kf, fi, f, hi, hsl⟩ := hSl k hk
  have hlay := C0.2.2.2.2 _ (hin _ (u_in_lay hk))
  unfold u_lay at hlay
  rw [if_neg (by rw [hfin]; decide)] at hlay
  have hst := (u_facts hfc hkC (u_lays C0.2.2.2.2 hin hk) hi).1
  have h6 := u_store hfc hkC hkind hlay hi (hty k hk) hn hfit
  refine W.putK C0.1 C0.2.1 (f := f) ⟨C0.2.2.2.1, C0.2.2.2.2 _ hlink, ⟨_, _, _, hi⟩, hst⟩ (by rw [q2]; exact h6) q1 q3 (by rw [hsl]; exact k2_hasslot (q4 k hk)) rfl rfl hdg fun H' e1 e2 e3 => ?_
  rw [hsl] at e1 ⊢
  exact kk _ H' _ (xhd_set (e := .inl (ci, fs.set k v)) hH h2 ⟨_, hc, t_OB.to (V := updV (vp_V fs) k v) ⟨_, e1, q2, q3, t_set q4 hap hk v⟩ (fun j _ => vp_updV_set hl v j)⟩ e3) (hS.put e2 e3 hA) e2 hF
theorem x_iast (C0 : CallFix p m c cc nL s args Ts own) (hE : xE G cl aty s) (hH : xhd G cl w H) (hS : xS G s H locs) {t : Nat} (ht : aty[t]? = some .int) (hdg : decode cc pc = .ok (.iastore, 1))
    {r : Option Nat} {i x : Int32} {F : Mp → Option α} (h : (sI w r t i x).bind F = some res) (kk : ∀ w' H' locs', xhd G cl w' H' → xS G s H' locs' → H'.size = H.size → F w' = some res → W p l e R s m args below meth c H' locs' cells slots Q (F0 m (pc + 1) ls rest)) : W p l e R s m args below meth c H locs cells slots Q (F0 m pc ls (.int x :: .int i :: va_rf r :: rest)) := by
  obtain ⟨w', hv, hF⟩ := Option.bind_eq_some_iff.mp h
  obtain ⟨a, n, f, rfl, h2, h3, rfl⟩ := sI_inv hv
  obtain ⟨hA, h1⟩ := hH a _ h2
  refine W.iast C0.1 C0.2.1 h1 ((hE.1.2 t _ (xT_at ht)).1 n (fun j => .int (f j))) (fun q => by cases q) (by show ¬ (i < 0 ∨ (arrV _ _ _).slots.size ≤ _); rw [arrV_size]; exact h3) rfl rfl hdg fun H1 e z oq => ?_
  refine kk _ H1 _ (xhd_set hH h2 ?_ oq) (hS.put z oq hA) z hF
  show H1[a]? = some (vp_cell _ _)
  rw [e]
  show some ((vp_cell _ (n, .inl f)).setSlot _ _) = some (vp_cell _ (n, .inl _))
  rw [vp_cell_i, vp_cell_i, arrV_store]
  congr 2
  funext q
  by_cases hq : q = i.toNatClampNeg
  · subst hq
    simp [updV, upd]
  · simp [updV, upd, hq]
theorem x_aast (C0 : CallFix p m c cc nL s args Ts own) (hE : xE G cl aty s) (hH : xhd G cl w H) (hS : xS G s H locs) {t ci : Nat} {C : String} {T : u_T} {N : Nat} (ht : aty[t]? = some (.object C)) (hc : cl[ci]? = some (C, T, N)) (hdg : decode cc pc = .ok (.aastore, 1))
    {r v : Option Nat} {i : Int32} {F : Mp → Option α} (h : (sR w r t ci i v).bind F = some res) (kk : ∀ w' H' locs', xhd G cl w' H' → xS G s H' locs' → H'.size = H.size → F w' = some res → W p l e R s m args below meth c H' locs' cells slots Q (F0 m (pc + 1) ls rest)) : W p l e R s m args below meth c H locs cells slots Q (F0 m pc ls (va_rf v :: .int i :: va_rf r :: rest)) := by
  obtain ⟨w', hv, hF⟩ := Option.bind_eq_some_iff.mp h
  obtain ⟨a, n, f, rfl, h2, hin, h4, rfl⟩ := sR_inv hv
  obtain ⟨hA, h1⟩ := hH a _ h2
  have hlt : i.toNatClampNeg < n := Nat.not_le.mp fun q => hin (Or.inr q)
  have h0 : ¬ i < 0 := fun q => hin (Or.inl q)
  have fin : ∀ (x : Option Nat) (H1 : Heap), H1[a]? = some ((vp_cell (G.2.2.1 t) (n, .inr (.inr (.inr (.inr f))))).setSlot i.toNatClampNeg (va_rf x)) → H1[a]? = some (vp_cell (G.2.2.1 t) (n, .inr (.inr (.inr (.inr (va_up f i.toNatClampNeg x)))))) := by
    intro x H1 e
    rw [e, vp_cell_q, vp_cell_q, arrV_store]
    congr 2
    funext q
    by_cases hq : q = i.toNatClampNeg
    · subst hq
      simp [updV, va_up]
    · simp [updV, va_up, hq]
  cases v with
  | none =>
    refine va_WaastN (C := C) C0.1 C0.2.1 h1 ((hE.1.2 t _ (xT_at ht)).1 n (fun j => va_rf (f j))) (fun h => by cases h) (by show ¬ (i < 0 ∨ (arrV _ _ _).slots.size ≤ _); rw [arrV_size]; exact hin) rfl rfl hdg fun H1 e z oq => ?_
    exact kk _ H1 _ (xhd_set (e := .inr (t, n, .inr (.inr (.inr (.inr (va_up f i.toNatClampNeg none)))))) hH h2 (fin none H1 e) oq) (hS.put z oq hA) z hF
  | some b =>
    obtain ⟨fs, hb⟩ := h4 b rfl
    obtain ⟨-, r', hr', cellV, g1, g2, g3, -⟩ := hH b _ hb
    have hcls := (hE.1.1 ci _ hc).2
    obtain ⟨kA, comp, k1, k2, k3, -⟩ := (hE.1.2 t _ (xT_at ht)).2
    have hcomp : comp = G.2.1.1 ci := Option.some.inj (k3.symm.trans hcls.1)
    subst hcomp
    obtain ⟨kC, hkC, -⟩ := hcls.2
    refine W.aast C0.1 C0.2.1 h1 (fun q h => by cases h) (fun h => by cases h) k1 k2 rfl hkC ⟨h0, by show _ < (arrV _ _ _).slots.size; rw [arrV_size]; exact hlt⟩ g1 (fun q h => by rw [g3] at h; cases h) (by rw [g2]; exact hkC) (by rw [g2]; exact va_assign hcls) rfl rfl hdg fun H1 e z oq => ?_
    exact kk _ H1 _ (xhd_set (e := .inr (t, n, .inr (.inr (.inr (.inr (va_up f i.toNatClampNeg (some b))))))) hH h2 (fin (some b) H1 e) oq) (hS.put z oq hA) z hF
/-! ends -/
theorem x_iret (C0 : CallFix p m c cc nL s args Ts own) (hr : meth.sig.returnType = some .int) (hlocks : meth.locks = false) (hH : xhd G cl w H) (hS : xS G s H locs) {sz : Nat} (hz : H.size = sz) {v : Int32} (hdg : decode cc pc = .ok (.ireturn, 1)) : W p l e R s m args below meth c H locs cells slots (MQ below (xQ G cl (some (.int v)) w sz) args s cells slots (xA G)) (F0 m pc ls [.int v]) :=
  W.iret C0.1 C0.2.1 hr (fun t ht _ => ⟨rfl, by rw [ht]; exact hH, by rw [ht]; exact hz, hS.F ht⟩) hS.2.2 hdg hlocks
theorem x_zret (C0 : CallFix p m c cc nL s args Ts own) {ty : FieldType} (hr : meth.sig.returnType = some ty) (hlocks : meth.locks = false) (hH : xhd G cl w H) (hS : xS G s H locs) {sz : Nat} (hz : H.size = sz) {v : Int32} (hn : narrow ty (.int v) = .int v) (hdg : decode cc pc = .ok (.ireturn, 1)) : W p l e R s m args below meth c H locs cells slots (MQ below (xQ G cl (some (.int v)) w sz) args s cells slots (xA G)) (F0 m pc ls [.int v]) :=
  W.zret C0.1 C0.2.1 hr hn (fun t ht _ => ⟨rfl, by rw [ht]; exact hH, by rw [ht]; exact hz, hS.F ht⟩) hS.2.2 hdg hlocks
theorem x_lret (C0 : CallFix p m c cc nL s args Ts own) (hr : meth.sig.returnType = some .long) (hlocks : meth.locks = false) (hH : xhd G cl w H) (hS : xS G s H locs) {sz : Nat} (hz : H.size = sz) {v : Int64} (hdg : decode cc pc = .ok (.lreturn, 1)) : W p l e R s m args below meth c H locs cells slots (MQ below (xQ G cl (some (.long v)) w sz) args s cells slots (xA G)) (F0 m pc ls [.long v]) :=
  W.lret C0.1 C0.2.1 hr (fun t ht _ => ⟨rfl, by rw [ht]; exact hH, by rw [ht]; exact hz, hS.F ht⟩) hS.2.2 hdg hlocks
theorem x_aret (C0 : CallFix p m c cc nL s args Ts own) {rt : FieldType} (hr : meth.sig.returnType = some rt) (hrt : (∃ n, rt = .object n) ∨ ∃ t, rt = .array t) (hlocks : meth.locks = false) (hH : xhd G cl w H) (hS : xS G s H locs) {sz : Nat} (hz : H.size = sz) {v : Option Nat} (hdg : decode cc pc = .ok (.areturn, 1)) : W p l e R s m args below meth c H locs cells slots (MQ below (xQ G cl (some (va_rf v)) w sz) args s cells slots (xA G)) (F0 m pc ls [va_rf v]) :=
  W.aret C0.1 C0.2.1 hr hrt (by cases v with | none => exact Or.inl rfl | some a => exact Or.inr ⟨a, rfl⟩) (fun t ht _ => ⟨rfl, by rw [ht]; exact hH, by rw [ht]; exact hz, hS.F ht⟩) hS.2.2 hdg hlocks
theorem x_vret (C0 : CallFix p m c cc nL s args Ts own) (hr : meth.sig.returnType = none) (hlocks : meth.locks = false) (hH : xhd G cl w H) (hS : xS G s H locs) {sz : Nat} (hz : H.size = sz) (hdg : decode cc pc = .ok (.return_, 1)) : W p l e R s m args below meth c H locs cells slots (MQ below (xQ G cl none w sz) args s cells slots (xA G)) (F0 m pc ls []) :=
  W.vret C0.1 C0.2.1 hr (fun t ht _ => ⟨rfl, by rw [ht]; exact hH, by rw [ht]; exact hz, hS.F ht⟩) hS.2.2 hdg hlocks
/-! calls -/
theorem x_call {v : Option Value} {a : Array Value} {st0 : List Value} {w' : Mp} {sz' mc ms : Nat} (hS : xS G s H locs) (hr : va_Run p l e R s m args below meth c H locs cells slots mc ms (F0 m pc ls st0) rest (xQ G cl v w' sz' a) (xA G))
    (kk : ∀ H' locs', xhd G cl w' H' → xS G s H' locs' → H'.size = sz' → W p l e R s m args below meth c H' locs' (cells + mc) (slots + ms) Q (F0 m (pc + 3) ls (v.toList ++ rest))) : W p l e R s m args below meth c H locs cells slots Q (F0 m pc ls st0) := by
  intro T hT X
  obtain ⟨v', st₀, t, T', L, h0, X', hL, e1, e2, ⟨hv, hw, hz, hf⟩, st⟩ := hr T hT X
  cases hv
  obtain ⟨hf1, hf2⟩ := hf
  rw [h0] at hf1 hf2
  obtain ⟨t2, a1, b1⟩ := kk T'.heap (locs ++ L) (by rw [e1]; exact hw) ⟨Nat.le_trans hS.1 (by rw [e1]; exact hf1), fun q h1 h2 => by rw [e1, hf2 q (Nat.lt_of_lt_of_le h1 hS.1) h2]; exact hS.2.1 q h1 h2, fun q hq => by
      rcases List.mem_append.mp hq with h | h
      · exact hS.2.2 q h
      · exact hL q h⟩ (by rw [e1]; exact hz) T' rfl X'
  exact ⟨t2, st t2 a1, b1⟩
theorem x_pre (hE : xE G cl aty s) (hH : xhd G cl w H) (hS : xS G s H locs) {av : List Value} (U : State) (hU : U.heap = H) (hW : s.WarmedH U.vm) : xPc G cl aty w H.size av av.toArray U :=
  ⟨rfl, hE.moved hS hU hW.alike, by rw [hU]; exact hH, by rw [hU]⟩
theorem x_preS (hE : xE G cl aty s) (hH : xhd G cl w H) (hS : xS G s H locs) {av : List Value} : PreS s H (xPc G cl aty w H.size av) av := ⟨xPc_blind, fun U hU hW => x_pre hE hH hS U hU hW⟩
theorem x_preV (hE : xE G cl aty s) (hH : xhd G cl w H) (hS : xS G s H locs) {b ci : Nat} {C : String} {T : u_T} {N : Nat} {fs : List Value} (hc : cl[ci]? = some (C, T, N)) (hb : w b = some (.inl (ci, fs))) {As : List Value} : PreV s H C b (xPc G cl aty w H.size (.ref b :: As)) As :=
  ⟨xPc_blind, va_recv hE.1 (xhd_one hH hb) hc (q0 := 0) rfl, fun U hU hW => x_pre hE hH hS U hU hW⟩
end XH
/-- the receiver of a call: it is there and of the class -/
def xo (w : Mp) (r : Option Nat) (ci : Nat) : Option Nat := match r with
  | none => none
  | some a => match w a with
    | some (.inl o) => if o.1 = ci then some a else none
    | _ => none
theorem xo_inv {w : Mp} {r : Option Nat} {ci b : Nat} (h : xo w r ci = some b) : r = some b ∧ ∃ fs, w b = some (.inl (ci, fs)) := by
  unfold xo at h
  split at h
  · cases h
  · rename_i a
    split at h
    · rename_i o ho
      split at h
      · rename_i hc
        cases h
        exact ⟨rfl, o.2, by rw [ho, ← hc]⟩
      · cases h
    · cases h
/-! methods that only read: the heap is as it was -/
def qP (v : Option Value) : Array Value → State → Outcome → State → Prop := fun _ st oc t => oc = .returned v ∧ t.heap = st.heap
theorem x_le0 {cells slots a b : Nat} (h1 : cells ≤ a) (h2 : slots ≤ b) : cells + 0 ≤ a ∧ slots + 0 ≤ b := ⟨h1, h2⟩
theorem x_narR (ty : FieldType) (r : Option Nat) : narrow ty (va_rf r) = va_rf r := by cases r <;> cases ty <;> rfl
theorem x_fitR {ty : FieldType} (h : (∃ n, ty = .object n) ∨ ∃ t, ty = .array t) (r : Option Nat) : fits ty (va_rf r) = true := by
  rcases h with ⟨n, rfl⟩ | ⟨t, rfl⟩ <;> cases r <;> rfl
theorem x_nar {ty : FieldType} {v : Int32} (ht : ∀ x, ∃ y, narrow ty (.int x) = .int y) (h : vp_nar ty v = v) : narrow ty (.int v) = .int v := by
  obtain ⟨y, hy⟩ := ht v
  unfold vp_nar at h
  rw [hy] at h
  have h9 : y = v := h
  rw [hy, h9]
theorem x_ifs {α : Type} {c : Prop} [Decidable c] {A : Option α} {res : α} (h : (if c then A else none) = some res) : c ∧ A = some res := by
  by_cases hc : c
  · rw [if_pos hc] at h; exact ⟨hc, h⟩
  · rw [if_neg hc] at h; cases h
def xJ1 {a b : Type} (f : a → b) (F : (a → b) → b) : b := F f
def xJ2 {a1 a2 b : Type} (f : a1 → a2 → b) (F : (a1 → a2 → b) → b) : b := F f
def xJ3 {a1 a2 a3 b : Type} (f : a1 → a2 → a3 → b) (F : (a1 → a2 → a3 → b) → b) : b := F f
def xJ4 {a1 a2 a3 a4 b : Type} (f : a1 → a2 → a3 → a4 → b) (F : (a1 → a2 → a3 → a4 → b) → b) : b := F f
theorem xj1 {a b : Type} {f : a → Option b} {F : (a → Option b) → Option b} {res : b} {P : Prop} (h : xJ1 f F = some res) (k : ∀ J : a → Option b, (∀ x, J x = f x) → F J = some res → P) : P := k f (fun _ => rfl) h
theorem xj2 {a1 a2 b : Type} {f : a1 → a2 → Option b} {F : (a1 → a2 → Option b) → Option b} {res : b} {P : Prop} (h : xJ2 f F = some res) (k : ∀ J : a1 → a2 → Option b, (∀ x y, J x y = f x y) → F J = some res → P) : P := k f (fun _ _ => rfl) h
theorem xj3 {a1 a2 a3 b : Type} {f : a1 → a2 → a3 → Option b} {F : (a1 → a2 → a3 → Option b) → Option b} {res : b} {P : Prop} (h : xJ3 f F = some res) (k : ∀ J : a1 → a2 → a3 → Option b, (∀ x y z, J x y z = f x y z) → F J = some res → P) : P := k f (fun _ _ _ => rfl) h
theorem xj4 {a1 a2 a3 a4 b : Type} {f : a1 → a2 → a3 → a4 → Option b} {F : (a1 → a2 → a3 → a4 → Option b) → Option b} {res : b} {P : Prop} (h : xJ4 f F = some res) (k : ∀ J : a1 → a2 → a3 → a4 → Option b, (∀ x y z u, J x y z u = f x y z u) → F J = some res → P) : P := k f (fun _ _ _ _ => rfl) h
section XP
variable {p : Program} {l : Launch} {e : Env} {R : Room} {s : State} {m : MethodId} {args : Array Value} {below : List Frame} {meth : Method} {c : Code} {H : Heap} {locs : List Loc} {cells slots : Nat} {Q : State → Prop}
variable {cc : ByteArray} {pc nL : Nat} {ls : Array Slot} {rest : List Value} {Ts : List Cond} {own : String}
variable {G : Gx} {cl : List vw_C} {aty : List FieldType} {w : Mp} {α : Type} {res : α}
theorem x_null (C0 : CallFix p m c cc nL s args Ts own) (hdg : decode cc pc = .ok (.aconst_null, 1)) (k : W p l e R s m args below meth c H locs cells slots Q (F0 m (pc + 1) ls (va_rf none :: rest))) : W p l e R s m args below meth c H locs cells slots Q (F0 m pc ls rest) := lv_null C0.1 C0.2.1 hdg k
theorem x_iretP (C0 : CallFix p m c cc nL s args Ts own) (hr : meth.sig.returnType = some .int) (hlocks : meth.locks = false) (hP : H = s.heap ∧ locs = []) {v : Int32} (hdg : decode cc pc = .ok (.ireturn, 1)) : W p l e R s m args below meth c H locs cells slots (MQ below (qP (some (.int v))) args s cells slots (fun _ => False)) (F0 m pc ls [.int v]) := by
  obtain ⟨rfl, rfl⟩ := hP
  exact W.iret C0.1 C0.2.1 hr (fun t ht _ => ⟨rfl, ht⟩) (fun q h => by cases h) hdg hlocks
theorem x_zretP (C0 : CallFix p m c cc nL s args Ts own) {ty : FieldType} (hr : meth.sig.returnType = some ty) (hlocks : meth.locks = false) (hP : H = s.heap ∧ locs = []) {v : Int32} (hn : narrow ty (.int v) = .int v) (hdg : decode cc pc = .ok (.ireturn, 1)) : W p l e R s m args below meth c H locs cells slots (MQ below (qP (some (.int v))) args s cells slots (fun _ => False)) (F0 m pc ls [.int v]) := by
  obtain ⟨rfl, rfl⟩ := hP
  exact W.zret C0.1 C0.2.1 hr hn (fun t ht _ => ⟨rfl, ht⟩) (fun q h => by cases h) hdg hlocks
theorem x_lretP (C0 : CallFix p m c cc nL s args Ts own) (hr : meth.sig.returnType = some .long) (hlocks : meth.locks = false) (hP : H = s.heap ∧ locs = []) {v : Int64} (hdg : decode cc pc = .ok (.lreturn, 1)) : W p l e R s m args below meth c H locs cells slots (MQ below (qP (some (.long v))) args s cells slots (fun _ => False)) (F0 m pc ls [.long v]) := by
  obtain ⟨rfl, rfl⟩ := hP
  exact W.lret C0.1 C0.2.1 hr (fun t ht _ => ⟨rfl, ht⟩) (fun q h => by cases h) hdg hlocks
theorem x_aretP (C0 : CallFix p m c cc nL s args Ts own) {rt : FieldType} (hr : meth.sig.returnType = some rt) (hrt : (∃ n, rt = .object n) ∨ ∃ t, rt = .array t) (hlocks : meth.locks = false) (hP : H = s.heap ∧ locs = []) {v : Option Nat} (hdg : decode cc pc = .ok (.areturn, 1)) : W p l e R s m args below meth c H locs cells slots (MQ below (qP (some (va_rf v))) args s cells slots (fun _ => False)) (F0 m pc ls [va_rf v]) := by
  obtain ⟨rfl, rfl⟩ := hP
  exact W.aret C0.1 C0.2.1 hr hrt (by cases v with | none => exact Or.inl rfl | some a => exact Or.inr ⟨a, rfl⟩) (fun t ht _ => ⟨rfl, ht⟩) (fun q h => by cases h) hdg hlocks
theorem x_vretP (C0 : CallFix p m c cc nL s args Ts own) (hr : meth.sig.returnType = none) (hlocks : meth.locks = false) (hP : H = s.heap ∧ locs = []) (hdg : decode cc pc = .ok (.return_, 1)) : W p l e R s m args below meth c H locs cells slots (MQ below (qP none) args s cells slots (fun _ => False)) (F0 m pc ls []) := by
  obtain ⟨rfl, rfl⟩ := hP
  exact W.vret C0.1 C0.2.1 hr (fun t ht _ => ⟨rfl, ht⟩) (fun q h => by cases h) hdg hlocks
theorem x_callP {v : Option Value} {a : Array Value} {st0 : List Value} (hr : va_Run p l e R s m args below meth c H locs cells slots 0 0 (F0 m pc ls st0) rest (qP v a) (fun _ => False))
    (kk : W p l e R s m args below meth c H locs cells slots Q (F0 m (pc + 3) ls (v.toList ++ rest))) : W p l e R s m args below meth c H locs cells slots Q (F0 m pc ls st0) := by
  intro T hT X
  obtain ⟨v', st₀, t, T', L, h0, X', hL, e1, e2, ⟨hv, hh⟩, st⟩ := hr T hT X
  cases hv
  obtain ⟨t2, a1, b1⟩ := kk T' (by rw [e1, hh, h0]) (Stand.forget X' (fun q h => (hL q h).elim))
  exact ⟨t2, st t2 a1, b1⟩
theorem x_call0 {v : Option Value} {a : Array Value} {st0 : List Value} {w' : Mp} {sz' : Nat} (hS : xS G s H locs) (hr : va_Run p l e R s m args below meth c H locs cells slots 0 0 (F0 m pc ls st0) rest (xQ G cl v w' sz' a) (xA G))
    (kk : ∀ H' locs', xhd G cl w' H' → xS G s H' locs' → H'.size = sz' → W p l e R s m args below meth c H' locs' cells slots Q (F0 m (pc + 3) ls (v.toList ++ rest))) : W p l e R s m args below meth c H locs cells slots Q (F0 m pc ls st0) :=
  x_call hS hr kk
end XP
/-! what a call asks of the words, out of wA -/
theorem x_rm {R : Room} {a b c d : Nat} (h1 : a ≤ R.frames) (h2 : b ≤ R.locals) (h3 : c ≤ a) (h4 : d ≤ b) : c ≤ R.frames ∧ d ≤ R.locals := ⟨Nat.le_trans h3 h1, Nat.le_trans h4 h2⟩
theorem x_good {y : MethodName} {bytes : ByteArray} {maxL : Nat} {ret : Option FieldType} (hc : Cond.code y bytes maxL ret ∈ wA) : GoodIn wA (xws y bytes maxL ret) := by
  intro w hw
  have h : w ∈ wA := by
    rcases List.mem_cons.mp hw with h | h
    · rw [h]; exact hc
    · exact h
  exact ⟨h, good_of_word (List.mem_filter.mp h).2⟩
section XW
variable {p : Program} {R : Room} {s : State} {m : MethodId} {args : Array Value} {c : Code} {cc : ByteArray} {nL : Nat} {own : String}
theorem x_cwV {index maxL mc ms : Nat} {y : MethodName} {C : String} {bytes : ByteArray} {ret : Option FieldType} {rm : Room} (n : Nat) (C0 : CallFix p m c cc nL s args wA own) (hl : Cond.methodLink own index y ∈ wA) (hc : Cond.code y bytes maxL ret ∈ wA) (hi : Cond.initialized y.cls ∈ wA) (hin : Cond.instanceMethod y ∈ wA) (hse : Cond.selects C y y ∈ wA)
    (hd : y.cls ≠ "java/lang/invoke/MethodHandle" ∧ y.cls ≠ "java/lang/invoke/VarHandle" ∧ (parseMethodDescriptor y.desc).map (fun d => d.parameters.length) = some n) (hR : rm.frames + 1 ≤ R.frames ∧ 8 + (maxL + 11) + rm.locals ≤ R.locals) (hrc : rm.cells = mc := by rfl) (hrs : rm.slots = ms := by rfl) :
    CallW R s args own C index y bytes maxL ret (xws y bytes maxL ret) rm mc ms n :=
  ⟨callB_of n C0.2.2.2.2 (x_good hc) rfl hrc hrs (C0.2.2.2.2 _ hi) (C0.2.2.2.2 _ hl) hd hR, C0.2.2.2.2 _ hin, C0.2.2.2.2 _ hse⟩
theorem x_cwS {index maxL mc ms : Nat} {y : MethodName} {bytes : ByteArray} {ret : Option FieldType} {rm : Room} (n : Nat) (C0 : CallFix p m c cc nL s args wA own) (hl : Cond.methodLink own index y ∈ wA) (hc : Cond.code y bytes maxL ret ∈ wA) (hi : Cond.initialized y.cls ∈ wA) (hst : Cond.static y ∈ wA)
    (hd : y.cls ≠ "java/lang/invoke/MethodHandle" ∧ y.cls ≠ "java/lang/invoke/VarHandle" ∧ (parseMethodDescriptor y.desc).map (fun d => d.parameters.length) = some n) (hR : rm.frames + 1 ≤ R.frames ∧ 8 + (maxL + 11) + rm.locals ≤ R.locals) (hrc : rm.cells = mc := by rfl) (hrs : rm.slots = ms := by rfl) :
    CallB R s args own index y bytes maxL ret (xws y bytes maxL ret) rm mc ms n ∧ (Cond.static y).before args s = true :=
  ⟨callB_of n C0.2.2.2.2 (x_good hc) rfl hrc hrs (C0.2.2.2.2 _ hi) (C0.2.2.2.2 _ hl) hd hR, C0.2.2.2.2 _ hst⟩
theorem x_cwI {index maxL mc ms : Nat} {y : MethodName} {bytes : ByteArray} {rm : Room} (n : Nat) (C0 : CallFix p m c cc nL s args wA own) (hl : Cond.methodLink own index y ∈ wA) (hc : Cond.code y bytes maxL none ∈ wA) (hi : Cond.initialized y.cls ∈ wA) (hin : Cond.instanceMethod y ∈ wA) (hy1 : y.name = "<init>")
    (hd : y.cls ≠ "java/lang/invoke/MethodHandle" ∧ y.cls ≠ "java/lang/invoke/VarHandle" ∧ (parseMethodDescriptor y.desc).map (fun d => d.parameters.length) = some n) (hR : rm.frames + 1 ≤ R.frames ∧ 8 + (maxL + 11) + rm.locals ≤ R.locals) (hrc : rm.cells = mc := by rfl) (hrs : rm.slots = ms := by rfl) :
    CallB R s args own index y bytes maxL none (xws y bytes maxL none) rm mc ms n ∧ y.name = "<init>" ∧ (Cond.instanceMethod y).before args s = true :=
  ⟨callB_of n C0.2.2.2.2 (x_good hc) rfl hrc hrs (C0.2.2.2.2 _ hi) (C0.2.2.2.2 _ hl) hd hR, hy1, C0.2.2.2.2 _ hin⟩
theorem x_cnS {index maxL mc ms : Nat} {y : MethodName} {host : String} {bytes : ByteArray} {ret : Option FieldType} {rm : Room} (n : Nat) (C0 : CallFix p m c cc nL s args wA own) (hl : va_Nw (.methodLinkNest own index y host) s) (hc : Cond.code y bytes maxL ret ∈ wA) (hi : Cond.initialized y.cls ∈ wA) (hst : Cond.static y ∈ wA)
    (hd : y.cls ≠ "java/lang/invoke/MethodHandle" ∧ y.cls ≠ "java/lang/invoke/VarHandle" ∧ (parseMethodDescriptor y.desc).map (fun d => d.parameters.length) = some n) (hR : rm.frames + 1 ≤ R.frames ∧ 8 + (maxL + 11) + rm.locals ≤ R.locals) (hrc : rm.cells = mc := by rfl) (hrs : rm.slots = ms := by rfl) :
    va_CN R s args own index y host bytes maxL ret (xws y bytes maxL ret) rm mc ms n ∧ (Cond.static y).before args s = true ∧ True :=
  ⟨va_cnB n C0.2.2.2.2 (x_good hc) rfl hrc hrs hl (C0.2.2.2.2 _ hi) hd hR, C0.2.2.2.2 _ hst, trivial⟩
end XW
end
