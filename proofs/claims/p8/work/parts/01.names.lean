-- ===== PART A: goes FIRST, ahead of the names: the tables' words, and 'selects' of the private methods out of them =====
/-- a private method of a class that the tables say can be made, by its rows of tables_1 -/
def lw_okq (q : MethodName × Nat) : Prop := (q.1.cls ≠ "java/lang/invoke/MethodHandle" ∧ q.1.cls ≠ "java/lang/invoke/VarHandle") ∧ Cond.instantiable q.1.cls q.2 ∈ tables_1 ∧ Cond.privateMethod q.1 ∈ tables_1 ∧ Cond.instanceMethod q.1 ∈ tables_1
theorem lw_p0 : lw_okq (⟨"java/lang/Throwable", "fillInStackTrace", "(I)Ljava/lang/Throwable;"⟩, 6) := ⟨⟨by decide +kernel, by decide +kernel⟩, List.mem_of_getElem? (i := 150) (by decide +kernel), List.mem_of_getElem? (i := 148) (by decide +kernel), List.mem_of_getElem? (i := 149) (by decide +kernel)⟩
theorem lw_p1 : lw_okq (⟨"LeafMatches", "isNumberTaken", "(II)Z"⟩, 6) := ⟨⟨by decide +kernel, by decide +kernel⟩, List.mem_of_getElem? (i := 25) (by decide +kernel), List.mem_of_getElem? (i := 180) (by decide +kernel), List.mem_of_getElem? (i := 181) (by decide +kernel)⟩
theorem lw_p2 : lw_okq (⟨"LeafMatches", "leafOrNull", "(I)LLeafMatches$Leaf;"⟩, 6) := ⟨⟨by decide +kernel, by decide +kernel⟩, List.mem_of_getElem? (i := 25) (by decide +kernel), List.mem_of_getElem? (i := 259) (by decide +kernel), List.mem_of_getElem? (i := 260) (by decide +kernel)⟩
theorem lw_p3 : lw_okq (⟨"LeafMatches", "leastFlitchWith", "(I)I"⟩, 6) := ⟨⟨by decide +kernel, by decide +kernel⟩, List.mem_of_getElem? (i := 25) (by decide +kernel), List.mem_of_getElem? (i := 306) (by decide +kernel), List.mem_of_getElem? (i := 307) (by decide +kernel)⟩
theorem lw_p4 : lw_okq (⟨"LeafMatches", "countFree", "(I)I"⟩, 6) := ⟨⟨by decide +kernel, by decide +kernel⟩, List.mem_of_getElem? (i := 25) (by decide +kernel), List.mem_of_getElem? (i := 310) (by decide +kernel), List.mem_of_getElem? (i := 311) (by decide +kernel)⟩
theorem lw_p5 : lw_okq (⟨"LeafMatches", "gatherFree", "(I)I"⟩, 6) := ⟨⟨by decide +kernel, by decide +kernel⟩, List.mem_of_getElem? (i := 25) (by decide +kernel), List.mem_of_getElem? (i := 321) (by decide +kernel), List.mem_of_getElem? (i := 322) (by decide +kernel)⟩
theorem lw_p6 : lw_okq (⟨"LeafMatches", "isBroken", "(I)Z"⟩, 6) := ⟨⟨by decide +kernel, by decide +kernel⟩, List.mem_of_getElem? (i := 25) (by decide +kernel), List.mem_of_getElem? (i := 325) (by decide +kernel), List.mem_of_getElem? (i := 326) (by decide +kernel)⟩
theorem lw_p7 : lw_okq (⟨"LeafMatches", "faceOrNull", "(I)LLeafMatches$Face;"⟩, 6) := ⟨⟨by decide +kernel, by decide +kernel⟩, List.mem_of_getElem? (i := 25) (by decide +kernel), List.mem_of_getElem? (i := 389) (by decide +kernel), List.mem_of_getElem? (i := 390) (by decide +kernel)⟩
theorem lw_p8 : lw_okq (⟨"LeafMatches$Planner", "makeRoom", "(I)V"⟩, 9) := ⟨⟨by decide +kernel, by decide +kernel⟩, List.mem_of_getElem? (i := 37) (by decide +kernel), List.mem_of_getElem? (i := 749) (by decide +kernel), List.mem_of_getElem? (i := 750) (by decide +kernel)⟩
theorem lw_p9 : lw_okq (⟨"LeafMatches$Planner", "findRows", "([LLeafMatches$Leaf;I)V"⟩, 9) := ⟨⟨by decide +kernel, by decide +kernel⟩, List.mem_of_getElem? (i := 37) (by decide +kernel), List.mem_of_getElem? (i := 757) (by decide +kernel), List.mem_of_getElem? (i := 758) (by decide +kernel)⟩
theorem lw_p10 : lw_okq (⟨"LeafMatches$Planner", "findRow", "([LLeafMatches$Leaf;III)V"⟩, 9) := ⟨⟨by decide +kernel, by decide +kernel⟩, List.mem_of_getElem? (i := 37) (by decide +kernel), List.mem_of_getElem? (i := 761) (by decide +kernel), List.mem_of_getElem? (i := 762) (by decide +kernel)⟩
theorem lw_p11 : lw_okq (⟨"LeafMatches$Planner", "findLeastLoss", "(I)V"⟩, 9) := ⟨⟨by decide +kernel, by decide +kernel⟩, List.mem_of_getElem? (i := 37) (by decide +kernel), List.mem_of_getElem? (i := 766) (by decide +kernel), List.mem_of_getElem? (i := 767) (by decide +kernel)⟩
theorem lw_p12 : lw_okq (⟨"LeafMatches$Planner", "lowerByFace", "(II)V"⟩, 9) := ⟨⟨by decide +kernel, by decide +kernel⟩, List.mem_of_getElem? (i := 37) (by decide +kernel), List.mem_of_getElem? (i := 771) (by decide +kernel), List.mem_of_getElem? (i := 772) (by decide +kernel)⟩
theorem lw_p13 : lw_okq (⟨"LeafMatches$Planner", "keepPlan", "([LLeafMatches$Leaf;I)V"⟩, 9) := ⟨⟨by decide +kernel, by decide +kernel⟩, List.mem_of_getElem? (i := 37) (by decide +kernel), List.mem_of_getElem? (i := 776) (by decide +kernel), List.mem_of_getElem? (i := 777) (by decide +kernel)⟩
theorem lw_p14 : lw_okq (⟨"LeafMatches$Planner", "faceBegunAt", "(II)I"⟩, 9) := ⟨⟨by decide +kernel, by decide +kernel⟩, List.mem_of_getElem? (i := 37) (by decide +kernel), List.mem_of_getElem? (i := 780) (by decide +kernel), List.mem_of_getElem? (i := 781) (by decide +kernel)⟩
theorem lw_p15 : lw_okq (⟨"LeafMatchesModel", "fillRow", "(I)V"⟩, 22) := ⟨⟨by decide +kernel, by decide +kernel⟩, List.mem_of_getElem? (i := 794) (by decide +kernel), List.mem_of_getElem? (i := 891) (by decide +kernel), List.mem_of_getElem? (i := 892) (by decide +kernel)⟩
def lw_privs_1 : List (MethodName × Nat) := [(⟨"java/lang/Throwable", "fillInStackTrace", "(I)Ljava/lang/Throwable;"⟩, 6), (⟨"LeafMatches", "isNumberTaken", "(II)Z"⟩, 6), (⟨"LeafMatches", "leafOrNull", "(I)LLeafMatches$Leaf;"⟩, 6), (⟨"LeafMatches", "leastFlitchWith", "(I)I"⟩, 6), (⟨"LeafMatches", "countFree", "(I)I"⟩, 6), (⟨"LeafMatches", "gatherFree", "(I)I"⟩, 6), (⟨"LeafMatches", "isBroken", "(I)Z"⟩, 6), (⟨"LeafMatches", "faceOrNull", "(I)LLeafMatches$Face;"⟩, 6), (⟨"LeafMatches$Planner", "makeRoom", "(I)V"⟩, 9), (⟨"LeafMatches$Planner", "findRows", "([LLeafMatches$Leaf;I)V"⟩, 9), (⟨"LeafMatches$Planner", "findRow", "([LLeafMatches$Leaf;III)V"⟩, 9), (⟨"LeafMatches$Planner", "findLeastLoss", "(I)V"⟩, 9), (⟨"LeafMatches$Planner", "lowerByFace", "(II)V"⟩, 9), (⟨"LeafMatches$Planner", "keepPlan", "([LLeafMatches$Leaf;I)V"⟩, 9), (⟨"LeafMatches$Planner", "faceBegunAt", "(II)I"⟩, 9), (⟨"LeafMatchesModel", "fillRow", "(I)V"⟩, 22)]
theorem lw_r1 : ∀ q ∈ lw_privs_1, lw_okq q := List.forall_mem_cons.mpr ⟨lw_p0, List.forall_mem_cons.mpr ⟨lw_p1, List.forall_mem_cons.mpr ⟨lw_p2, List.forall_mem_cons.mpr ⟨lw_p3, List.forall_mem_cons.mpr ⟨lw_p4, List.forall_mem_cons.mpr ⟨lw_p5, List.forall_mem_cons.mpr ⟨lw_p6, List.forall_mem_cons.mpr ⟨lw_p7, List.forall_mem_cons.mpr ⟨lw_p8, List.forall_mem_cons.mpr ⟨lw_p9, List.forall_mem_cons.mpr ⟨lw_p10, List.forall_mem_cons.mpr ⟨lw_p11, List.forall_mem_cons.mpr ⟨lw_p12, List.forall_mem_cons.mpr ⟨lw_p13, List.forall_mem_cons.mpr ⟨lw_p14, List.forall_mem_cons.mpr ⟨lw_p15, fun _ h => absurd h List.not_mem_nil⟩⟩⟩⟩⟩⟩⟩⟩⟩⟩⟩⟩⟩⟩⟩⟩
theorem lw_p16 : lw_okq (⟨"LeafMatchesModel", "noFace", "(I)Z"⟩, 22) := ⟨⟨by decide +kernel, by decide +kernel⟩, List.mem_of_getElem? (i := 794) (by decide +kernel), List.mem_of_getElem? (i := 899) (by decide +kernel), List.mem_of_getElem? (i := 900) (by decide +kernel)⟩
theorem lw_p17 : lw_okq (⟨"LeafMatchesModel", "noPiece", "(II)Z"⟩, 22) := ⟨⟨by decide +kernel, by decide +kernel⟩, List.mem_of_getElem? (i := 794) (by decide +kernel), List.mem_of_getElem? (i := 907) (by decide +kernel), List.mem_of_getElem? (i := 908) (by decide +kernel)⟩
theorem lw_p18 : lw_okq (⟨"LeafMatchesModel", "isMirrored", "(II)Z"⟩, 22) := ⟨⟨by decide +kernel, by decide +kernel⟩, List.mem_of_getElem? (i := 794) (by decide +kernel), List.mem_of_getElem? (i := 911) (by decide +kernel), List.mem_of_getElem? (i := 912) (by decide +kernel)⟩
theorem lw_p19 : lw_okq (⟨"LeafMatchesModel", "isTurned", "(II)Z"⟩, 22) := ⟨⟨by decide +kernel, by decide +kernel⟩, List.mem_of_getElem? (i := 794) (by decide +kernel), List.mem_of_getElem? (i := 915) (by decide +kernel), List.mem_of_getElem? (i := 916) (by decide +kernel)⟩
theorem lw_p20 : lw_okq (⟨"LeafMatchesModel", "across", "(II)I"⟩, 22) := ⟨⟨by decide +kernel, by decide +kernel⟩, List.mem_of_getElem? (i := 794) (by decide +kernel), List.mem_of_getElem? (i := 919) (by decide +kernel), List.mem_of_getElem? (i := 920) (by decide +kernel)⟩
theorem lw_p21 : lw_okq (⟨"LeafMatchesModel", "wide", "(II)I"⟩, 22) := ⟨⟨by decide +kernel, by decide +kernel⟩, List.mem_of_getElem? (i := 794) (by decide +kernel), List.mem_of_getElem? (i := 923) (by decide +kernel), List.mem_of_getElem? (i := 924) (by decide +kernel)⟩
theorem lw_p22 : lw_okq (⟨"LeafMatchesModel", "topOf", "(II)I"⟩, 22) := ⟨⟨by decide +kernel, by decide +kernel⟩, List.mem_of_getElem? (i := 794) (by decide +kernel), List.mem_of_getElem? (i := 927) (by decide +kernel), List.mem_of_getElem? (i := 928) (by decide +kernel)⟩
theorem lw_p23 : lw_okq (⟨"LeafMatchesModel", "high", "(II)I"⟩, 22) := ⟨⟨by decide +kernel, by decide +kernel⟩, List.mem_of_getElem? (i := 794) (by decide +kernel), List.mem_of_getElem? (i := 931) (by decide +kernel), List.mem_of_getElem? (i := 932) (by decide +kernel)⟩
theorem lw_p24 : lw_okq (⟨"LeafMatchesModel", "shiftOf", "(II)I"⟩, 22) := ⟨⟨by decide +kernel, by decide +kernel⟩, List.mem_of_getElem? (i := 794) (by decide +kernel), List.mem_of_getElem? (i := 935) (by decide +kernel), List.mem_of_getElem? (i := 936) (by decide +kernel)⟩
theorem lw_p25 : lw_okq (⟨"LeafMatchesModel", "sumAt", "(III)I"⟩, 22) := ⟨⟨by decide +kernel, by decide +kernel⟩, List.mem_of_getElem? (i := 794) (by decide +kernel), List.mem_of_getElem? (i := 939) (by decide +kernel), List.mem_of_getElem? (i := 940) (by decide +kernel)⟩
theorem lw_p26 : lw_okq (⟨"LeafMatchesModel", "leftOf", "(II)I"⟩, 22) := ⟨⟨by decide +kernel, by decide +kernel⟩, List.mem_of_getElem? (i := 794) (by decide +kernel), List.mem_of_getElem? (i := 943) (by decide +kernel), List.mem_of_getElem? (i := 944) (by decide +kernel)⟩
theorem lw_p27 : lw_okq (⟨"LeafMatchesModel", "grey", "(IIII)I"⟩, 22) := ⟨⟨by decide +kernel, by decide +kernel⟩, List.mem_of_getElem? (i := 794) (by decide +kernel), List.mem_of_getElem? (i := 947) (by decide +kernel), List.mem_of_getElem? (i := 948) (by decide +kernel)⟩
theorem lw_p28 : lw_okq (⟨"LeafMatchesModel", "leastTop", "(I)I"⟩, 22) := ⟨⟨by decide +kernel, by decide +kernel⟩, List.mem_of_getElem? (i := 794) (by decide +kernel), List.mem_of_getElem? (i := 955) (by decide +kernel), List.mem_of_getElem? (i := 956) (by decide +kernel)⟩
theorem lw_p29 : lw_okq (⟨"LeafMatchesModel", "wideOf", "(I)I"⟩, 22) := ⟨⟨by decide +kernel, by decide +kernel⟩, List.mem_of_getElem? (i := 794) (by decide +kernel), List.mem_of_getElem? (i := 964) (by decide +kernel), List.mem_of_getElem? (i := 965) (by decide +kernel)⟩
theorem lw_p30 : lw_okq (⟨"LeafMatchesModel", "noSeam", "(II)Z"⟩, 22) := ⟨⟨by decide +kernel, by decide +kernel⟩, List.mem_of_getElem? (i := 794) (by decide +kernel), List.mem_of_getElem? (i := 972) (by decide +kernel), List.mem_of_getElem? (i := 973) (by decide +kernel)⟩
theorem lw_p31 : lw_okq (⟨"LeafMatchesModel", "seams", "(I)I"⟩, 22) := ⟨⟨by decide +kernel, by decide +kernel⟩, List.mem_of_getElem? (i := 794) (by decide +kernel), List.mem_of_getElem? (i := 976) (by decide +kernel), List.mem_of_getElem? (i := 977) (by decide +kernel)⟩
def lw_privs_2 : List (MethodName × Nat) := [(⟨"LeafMatchesModel", "noFace", "(I)Z"⟩, 22), (⟨"LeafMatchesModel", "noPiece", "(II)Z"⟩, 22), (⟨"LeafMatchesModel", "isMirrored", "(II)Z"⟩, 22), (⟨"LeafMatchesModel", "isTurned", "(II)Z"⟩, 22), (⟨"LeafMatchesModel", "across", "(II)I"⟩, 22), (⟨"LeafMatchesModel", "wide", "(II)I"⟩, 22), (⟨"LeafMatchesModel", "topOf", "(II)I"⟩, 22), (⟨"LeafMatchesModel", "high", "(II)I"⟩, 22), (⟨"LeafMatchesModel", "shiftOf", "(II)I"⟩, 22), (⟨"LeafMatchesModel", "sumAt", "(III)I"⟩, 22), (⟨"LeafMatchesModel", "leftOf", "(II)I"⟩, 22), (⟨"LeafMatchesModel", "grey", "(IIII)I"⟩, 22), (⟨"LeafMatchesModel", "leastTop", "(I)I"⟩, 22), (⟨"LeafMatchesModel", "wideOf", "(I)I"⟩, 22), (⟨"LeafMatchesModel", "noSeam", "(II)Z"⟩, 22), (⟨"LeafMatchesModel", "seams", "(I)I"⟩, 22)]
theorem lw_r2 : ∀ q ∈ lw_privs_2, lw_okq q := List.forall_mem_cons.mpr ⟨lw_p16, List.forall_mem_cons.mpr ⟨lw_p17, List.forall_mem_cons.mpr ⟨lw_p18, List.forall_mem_cons.mpr ⟨lw_p19, List.forall_mem_cons.mpr ⟨lw_p20, List.forall_mem_cons.mpr ⟨lw_p21, List.forall_mem_cons.mpr ⟨lw_p22, List.forall_mem_cons.mpr ⟨lw_p23, List.forall_mem_cons.mpr ⟨lw_p24, List.forall_mem_cons.mpr ⟨lw_p25, List.forall_mem_cons.mpr ⟨lw_p26, List.forall_mem_cons.mpr ⟨lw_p27, List.forall_mem_cons.mpr ⟨lw_p28, List.forall_mem_cons.mpr ⟨lw_p29, List.forall_mem_cons.mpr ⟨lw_p30, List.forall_mem_cons.mpr ⟨lw_p31, fun _ h => absurd h List.not_mem_nil⟩⟩⟩⟩⟩⟩⟩⟩⟩⟩⟩⟩⟩⟩⟩⟩
theorem lw_p32 : lw_okq (⟨"LeafMatchesModel", "writeNumber", "(II)I"⟩, 22) := ⟨⟨by decide +kernel, by decide +kernel⟩, List.mem_of_getElem? (i := 794) (by decide +kernel), List.mem_of_getElem? (i := 996) (by decide +kernel), List.mem_of_getElem? (i := 997) (by decide +kernel)⟩
theorem lw_p33 : lw_okq (⟨"LeafMatchesModel", "lossWith", "(III)I"⟩, 22) := ⟨⟨by decide +kernel, by decide +kernel⟩, List.mem_of_getElem? (i := 794) (by decide +kernel), List.mem_of_getElem? (i := 1013) (by decide +kernel), List.mem_of_getElem? (i := 1014) (by decide +kernel)⟩
theorem lw_p34 : lw_okq (⟨"LeafMatchesModel", "manyFrom", "(II)I"⟩, 22) := ⟨⟨by decide +kernel, by decide +kernel⟩, List.mem_of_getElem? (i := 794) (by decide +kernel), List.mem_of_getElem? (i := 1017) (by decide +kernel), List.mem_of_getElem? (i := 1018) (by decide +kernel)⟩
theorem lw_p35 : lw_okq (⟨"LeafMatchesModel", "lossFrom", "(III)I"⟩, 22) := ⟨⟨by decide +kernel, by decide +kernel⟩, List.mem_of_getElem? (i := 794) (by decide +kernel), List.mem_of_getElem? (i := 1021) (by decide +kernel), List.mem_of_getElem? (i := 1022) (by decide +kernel)⟩
theorem lw_p36 : lw_okq (⟨"LeafMatchesModel", "walk", "(I)V"⟩, 22) := ⟨⟨by decide +kernel, by decide +kernel⟩, List.mem_of_getElem? (i := 794) (by decide +kernel), List.mem_of_getElem? (i := 1025) (by decide +kernel), List.mem_of_getElem? (i := 1026) (by decide +kernel)⟩
def lw_privs_3 : List (MethodName × Nat) := [(⟨"LeafMatchesModel", "writeNumber", "(II)I"⟩, 22), (⟨"LeafMatchesModel", "lossWith", "(III)I"⟩, 22), (⟨"LeafMatchesModel", "manyFrom", "(II)I"⟩, 22), (⟨"LeafMatchesModel", "lossFrom", "(III)I"⟩, 22), (⟨"LeafMatchesModel", "walk", "(I)V"⟩, 22)]
theorem lw_r3 : ∀ q ∈ lw_privs_3, lw_okq q := List.forall_mem_cons.mpr ⟨lw_p32, List.forall_mem_cons.mpr ⟨lw_p33, List.forall_mem_cons.mpr ⟨lw_p34, List.forall_mem_cons.mpr ⟨lw_p35, List.forall_mem_cons.mpr ⟨lw_p36, fun _ h => absurd h List.not_mem_nil⟩⟩⟩⟩⟩
def lw_privs : List (MethodName × Nat) := lw_privs_1 ++ (lw_privs_2 ++ (lw_privs_3))
def lw_tbl : List Cond := k2_sels lw_privs ++ tables_1
theorem lw_privs_ok : ∀ q ∈ lw_privs, lw_okq q := by
  show ∀ q ∈ lw_privs_1 ++ (lw_privs_2 ++ (lw_privs_3)), lw_okq q
  exact List.forall_mem_append.mpr ⟨lw_r1, List.forall_mem_append.mpr ⟨lw_r2, lw_r3⟩⟩
def wA : List Cond := lw_tbl.filter goodWord
theorem wA_in {w : Cond} (h : w ∈ lw_tbl) (g : goodWord w = true) : w ∈ wA := List.mem_filter.mpr ⟨h, g⟩
theorem ku_0 {w : Cond} (i : Nat) (h : (k2_sels lw_privs)[i]? = some w) (g : goodWord w = true) : w ∈ wA := wA_in (List.mem_append_left _ (List.mem_of_getElem? h)) g
theorem ku_1 {w : Cond} (i : Nat) (h : tables_1_1[i]? = some w) (g : goodWord w = true) : w ∈ wA := wA_in (List.mem_append_right _ (show w ∈ tables_1 from List.mem_append_left _ (List.mem_of_getElem? h))) g
theorem ku_2 {w : Cond} (i : Nat) (h : tables_1_2[i]? = some w) (g : goodWord w = true) : w ∈ wA := wA_in (List.mem_append_right _ (show w ∈ tables_1 from List.mem_append_right _ (List.mem_append_left _ (List.mem_of_getElem? h)))) g
theorem ku_3 {w : Cond} (i : Nat) (h : tables_1_3[i]? = some w) (g : goodWord w = true) : w ∈ wA := wA_in (List.mem_append_right _ (show w ∈ tables_1 from List.mem_append_right _ (List.mem_append_right _ (List.mem_append_left _ (List.mem_of_getElem? h))))) g
theorem ku_4 {w : Cond} (i : Nat) (h : tables_1_4[i]? = some w) (g : goodWord w = true) : w ∈ wA := wA_in (List.mem_append_right _ (show w ∈ tables_1 from List.mem_append_right _ (List.mem_append_right _ (List.mem_append_right _ (List.mem_append_left _ (List.mem_of_getElem? h)))))) g
theorem ku_5 {w : Cond} (i : Nat) (h : tables_1_5[i]? = some w) (g : goodWord w = true) : w ∈ wA := wA_in (List.mem_append_right _ (show w ∈ tables_1 from List.mem_append_right _ (List.mem_append_right _ (List.mem_append_right _ (List.mem_append_right _ (List.mem_of_getElem? h)))))) g
abbrev xws (y : MethodName) (b : ByteArray) (n : Nat) (ret : Option FieldType) : List Cond := Cond.code y b n ret :: wA
def R_LM : String := "LeafMatches"
def R_Leaf : String := "LeafMatches$Leaf"
def R_Piece : String := "LeafMatches$Piece"
def R_Face : String := "LeafMatches$Face"
def R_Plan : String := "LeafMatches$Planner"
def R_Mod : String := "LeafMatchesModel"
def R_Law : String := "LeafMatchesLaw"
def R_SB : String := "java/lang/StringBuilder"
def R_ASB : String := "java/lang/AbstractStringBuilder"
def R_Str : String := "java/lang/String"
def R_SL1 : String := "java/lang/StringLatin1"
def R_Int : String := "java/lang/Integer"
def R_Pre : String := "jdk/internal/util/Preconditions"
def F_LM : u_T := fun k => match k with
  | 0 => ("LeafMatches", "leaves", "[LLeafMatches$Leaf;", true)
  | 1 => ("LeafMatches", "leafCount", "I", false)
  | 2 => ("LeafMatches", "madeFaces", "[LLeafMatches$Face;", true)
  | 3 => ("LeafMatches", "faceCount", "I", false)
  | 4 => ("LeafMatches", "planner", "LLeafMatches$Planner;", true)
  | _ => ("LeafMatches", "free", "[LLeafMatches$Leaf;", true)
def t_LM : Nat → FieldType := fun k => match k with
  | 0 => (.array (.object "LeafMatches$Leaf"))
  | 1 => .int
  | 2 => (.array (.object "LeafMatches$Face"))
  | 3 => .int
  | 4 => (.object "LeafMatches$Planner")
  | _ => (.array (.object "LeafMatches$Leaf"))
theorem n_LM : ∀ a, a < 6 → ∀ b, b < 6 → a ≠ b → (F_LM a).2.1 ≠ (F_LM b).2.1 := by decide +kernel
theorem t_LM_ok : ∀ k, k < 6 → parseFieldDescriptor (F_LM k).2.2.1 = some (t_LM k) := by decide +kernel
set_option maxRecDepth 20000 in
theorem il_LM : ∀ w ∈ u_ws R_LM F_LM 6, w ∈ lw_tbl := by decide +kernel
theorem i_LM : ∀ w ∈ u_ws R_LM F_LM 6, w ∈ wA := fun w hw => wA_in (il_LM w hw) (List.all_eq_true.mp (show (u_ws R_LM F_LM 6).all goodWord = true from rfl) w hw)
def F_Leaf : u_T := fun k => match k with
  | 0 => ("LeafMatches$Leaf", "index", "I", true)
  | 1 => ("LeafMatches$Leaf", "flitch", "I", true)
  | 2 => ("LeafMatches$Leaf", "number", "I", true)
  | 3 => ("LeafMatches$Leaf", "width", "I", true)
  | 4 => ("LeafMatches$Leaf", "height", "I", true)
  | 5 => ("LeafMatches$Leaf", "greys", "[I", true)
  | 6 => ("LeafMatches$Leaf", "order", "I", false)
  | _ => ("LeafMatches$Leaf", "used", "Z", false)
def t_Leaf : Nat → FieldType := fun k => match k with
  | 0 => .int
  | 1 => .int
  | 2 => .int
  | 3 => .int
  | 4 => .int
  | 5 => (.array .int)
  | 6 => .int
  | _ => .boolean
theorem n_Leaf : ∀ a, a < 8 → ∀ b, b < 8 → a ≠ b → (F_Leaf a).2.1 ≠ (F_Leaf b).2.1 := by decide +kernel
theorem t_Leaf_ok : ∀ k, k < 8 → parseFieldDescriptor (F_Leaf k).2.2.1 = some (t_Leaf k) := by decide +kernel
set_option maxRecDepth 20000 in
theorem il_Leaf : ∀ w ∈ u_ws R_Leaf F_Leaf 8, w ∈ lw_tbl := by decide +kernel
theorem i_Leaf : ∀ w ∈ u_ws R_Leaf F_Leaf 8, w ∈ wA := fun w hw => wA_in (il_Leaf w hw) (List.all_eq_true.mp (show (u_ws R_Leaf F_Leaf 8).all goodWord = true from rfl) w hw)
def F_Piece : u_T := fun k => match k with
  | 0 => ("LeafMatches$Piece", "leaf", "LLeafMatches$Leaf;", true)
  | 1 => ("LeafMatches$Piece", "isMirrored", "Z", true)
  | 2 => ("LeafMatches$Piece", "isTurned", "Z", true)
  | 3 => ("LeafMatches$Piece", "begin", "I", false)
  | _ => ("LeafMatches$Piece", "top", "I", false)
def t_Piece : Nat → FieldType := fun k => match k with
  | 0 => (.object "LeafMatches$Leaf")
  | 1 => .boolean
  | 2 => .boolean
  | 3 => .int
  | _ => .int
theorem n_Piece : ∀ a, a < 5 → ∀ b, b < 5 → a ≠ b → (F_Piece a).2.1 ≠ (F_Piece b).2.1 := by decide +kernel
theorem t_Piece_ok : ∀ k, k < 5 → parseFieldDescriptor (F_Piece k).2.2.1 = some (t_Piece k) := by decide +kernel
set_option maxRecDepth 20000 in
theorem il_Piece : ∀ w ∈ u_ws R_Piece F_Piece 5, w ∈ lw_tbl := by decide +kernel
theorem i_Piece : ∀ w ∈ u_ws R_Piece F_Piece 5, w ∈ wA := fun w hw => wA_in (il_Piece w hw) (List.all_eq_true.mp (show (u_ws R_Piece F_Piece 5).all goodWord = true from rfl) w hw)
def F_Face : u_T := fun k => match k with
  | 0 => ("LeafMatches$Face", "kind", "I", true)
  | _ => ("LeafMatches$Face", "pieces", "[LLeafMatches$Piece;", true)
def t_Face : Nat → FieldType := fun k => match k with
  | 0 => .int
  | _ => (.array (.object "LeafMatches$Piece"))
theorem n_Face : ∀ a, a < 2 → ∀ b, b < 2 → a ≠ b → (F_Face a).2.1 ≠ (F_Face b).2.1 := by decide +kernel
theorem t_Face_ok : ∀ k, k < 2 → parseFieldDescriptor (F_Face k).2.2.1 = some (t_Face k) := by decide +kernel
set_option maxRecDepth 20000 in
theorem il_Face : ∀ w ∈ u_ws R_Face F_Face 2, w ∈ lw_tbl := by decide +kernel
theorem i_Face : ∀ w ∈ u_ws R_Face F_Face 2, w ∈ wA := fun w hw => wA_in (il_Face w hw) (List.all_eq_true.mp (show (u_ws R_Face F_Face 2).all goodWord = true from rfl) w hw)
def F_Plan : u_T := fun k => match k with
  | 0 => ("LeafMatches$Planner", "wanted", "[I", true)
  | 1 => ("LeafMatches$Planner", "wantedCount", "I", false)
  | 2 => ("LeafMatches$Planner", "isFound", "Z", false)
  | 3 => ("LeafMatches$Planner", "firstLeaf", "[I", true)
  | 4 => ("LeafMatches$Planner", "rowLength", "[I", true)
  | 5 => ("LeafMatches$Planner", "rowEnd", "[I", false)
  | 6 => ("LeafMatches$Planner", "rowLoss", "[I", false)
  | 7 => ("LeafMatches$Planner", "leastLoss", "[I", false)
  | _ => ("LeafMatches$Planner", "sets", "I", false)
def t_Plan : Nat → FieldType := fun k => match k with
  | 0 => (.array .int)
  | 1 => .int
  | 2 => .boolean
  | 3 => (.array .int)
  | 4 => (.array .int)
  | 5 => (.array .int)
  | 6 => (.array .int)
  | 7 => (.array .int)
  | _ => .int
theorem n_Plan : ∀ a, a < 9 → ∀ b, b < 9 → a ≠ b → (F_Plan a).2.1 ≠ (F_Plan b).2.1 := by decide +kernel
theorem t_Plan_ok : ∀ k, k < 9 → parseFieldDescriptor (F_Plan k).2.2.1 = some (t_Plan k) := by decide +kernel
set_option maxRecDepth 20000 in
theorem il_Plan : ∀ w ∈ u_ws R_Plan F_Plan 9, w ∈ lw_tbl := by decide +kernel
theorem i_Plan : ∀ w ∈ u_ws R_Plan F_Plan 9, w ∈ wA := fun w hw => wA_in (il_Plan w hw) (List.all_eq_true.mp (show (u_ws R_Plan F_Plan 9).all goodWord = true from rfl) w hw)
def F_Mod : u_T := fun k => match k with
  | 0 => ("LeafMatchesModel", "code", "I", false)
  | 1 => ("LeafMatchesModel", "leaves", "I", false)
  | 2 => ("LeafMatchesModel", "flitches", "[I", true)
  | 3 => ("LeafMatchesModel", "numbers", "[I", true)
  | 4 => ("LeafMatchesModel", "wides", "[I", true)
  | 5 => ("LeafMatchesModel", "highs", "[I", true)
  | 6 => ("LeafMatchesModel", "orders", "[I", true)
  | 7 => ("LeafMatchesModel", "used", "[Z", true)
  | 8 => ("LeafMatchesModel", "greys", "[I", true)
  | 9 => ("LeafMatchesModel", "faces", "I", false)
  | 10 => ("LeafMatchesModel", "kinds", "[I", true)
  | 11 => ("LeafMatchesModel", "sizes", "[I", true)
  | 12 => ("LeafMatchesModel", "pieces", "[I", true)
  | 13 => ("LeafMatchesModel", "wants", "I", false)
  | 14 => ("LeafMatchesModel", "wanted", "[I", true)
  | 15 => ("LeafMatchesModel", "planned", "Z", false)
  | 16 => ("LeafMatchesModel", "planFirst", "[I", true)
  | 17 => ("LeafMatchesModel", "planMany", "[I", true)
  | 18 => ("LeafMatchesModel", "rowSize", "I", false)
  | 19 => ("LeafMatchesModel", "row", "[I", true)
  | 20 => ("LeafMatchesModel", "least", "[I", true)
  | _ => ("LeafMatchesModel", "text", "[I", true)
def t_Mod : Nat → FieldType := fun k => match k with
  | 0 => .int
  | 1 => .int
  | 2 => (.array .int)
  | 3 => (.array .int)
  | 4 => (.array .int)
  | 5 => (.array .int)
  | 6 => (.array .int)
  | 7 => (.array .boolean)
  | 8 => (.array .int)
  | 9 => .int
  | 10 => (.array .int)
  | 11 => (.array .int)
  | 12 => (.array .int)
  | 13 => .int
  | 14 => (.array .int)
  | 15 => .boolean
  | 16 => (.array .int)
  | 17 => (.array .int)
  | 18 => .int
  | 19 => (.array .int)
  | 20 => (.array .int)
  | _ => (.array .int)
theorem n_Mod : ∀ a, a < 22 → ∀ b, b < 22 → a ≠ b → (F_Mod a).2.1 ≠ (F_Mod b).2.1 := by decide +kernel
theorem t_Mod_ok : ∀ k, k < 22 → parseFieldDescriptor (F_Mod k).2.2.1 = some (t_Mod k) := by decide +kernel
set_option maxRecDepth 20000 in
theorem il_Mod : ∀ w ∈ u_ws R_Mod F_Mod 22, w ∈ lw_tbl := by decide +kernel
theorem i_Mod : ∀ w ∈ u_ws R_Mod F_Mod 22, w ∈ wA := fun w hw => wA_in (il_Mod w hw) (List.all_eq_true.mp (show (u_ws R_Mod F_Mod 22).all goodWord = true from rfl) w hw)
def F_SB : u_T := fun k => match k with
  | 0 => ("java/lang/AbstractStringBuilder", "value", "[B", false)
  | 1 => ("java/lang/AbstractStringBuilder", "coder", "B", false)
  | 2 => ("java/lang/AbstractStringBuilder", "maybeLatin1", "Z", false)
  | _ => ("java/lang/AbstractStringBuilder", "count", "I", false)
def t_SB : Nat → FieldType := fun k => match k with
  | 0 => (.array .byte)
  | 1 => .byte
  | 2 => .boolean
  | _ => .int
theorem n_SB : ∀ a, a < 4 → ∀ b, b < 4 → a ≠ b → (F_SB a).2.1 ≠ (F_SB b).2.1 := by decide +kernel
theorem t_SB_ok : ∀ k, k < 4 → parseFieldDescriptor (F_SB k).2.2.1 = some (t_SB k) := by decide +kernel
set_option maxRecDepth 20000 in
theorem il_SB : ∀ w ∈ u_ws R_SB F_SB 4, w ∈ lw_tbl := by decide +kernel
theorem i_SB : ∀ w ∈ u_ws R_SB F_SB 4, w ∈ wA := fun w hw => wA_in (il_SB w hw) (List.all_eq_true.mp (show (u_ws R_SB F_SB 4).all goodWord = true from rfl) w hw)
abbrev vwCl : List vw_C := [(R_LM, F_LM, 6), (R_Leaf, F_Leaf, 8), (R_Piece, F_Piece, 5), (R_Face, F_Face, 2), (R_Plan, F_Plan, 9), (R_Mod, F_Mod, 22), (R_SB, F_SB, 4)]
abbrev xaty : List FieldType := [.int, .object "LeafMatches$Leaf", .object "LeafMatches$Face", .object "LeafMatches$Piece", .boolean, .long, .byte]
def xnw : List Cond := [(Jvm.Cond.castable "java/lang/IllegalStateException" "java/lang/IllegalStateException"), (Jvm.Cond.declares ({ cls := "java/lang/RuntimeException", name := "<init>", desc := "()V" } : Jvm.MethodName)), (Jvm.Cond.declares ({ cls := "java/lang/RuntimeException", name := "<init>", desc := "(Ljava/lang/String;)V" } : Jvm.MethodName)), (Jvm.Cond.declares ({ cls := "java/lang/Exception", name := "<init>", desc := "()V" } : Jvm.MethodName)), (Jvm.Cond.declares ({ cls := "java/lang/Exception", name := "<init>", desc := "(Ljava/lang/String;)V" } : Jvm.MethodName)), (Jvm.Cond.declares ({ cls := "java/lang/Throwable", name := "<init>", desc := "()V" } : Jvm.MethodName)), (Jvm.Cond.declares ({ cls := "java/lang/Throwable", name := "<init>", desc := "(Ljava/lang/String;)V" } : Jvm.MethodName)), (Jvm.Cond.castable "java/lang/IllegalArgumentException" "java/lang/IllegalArgumentException"), (Jvm.Cond.castable "java/lang/IndexOutOfBoundsException" "java/lang/IndexOutOfBoundsException"), (Jvm.Cond.methodLinkNest "LeafMatches$Face" (34 : Nat) ({ cls := "LeafMatches", name := "isWithin", desc := "(III)Z" } : Jvm.MethodName) "LeafMatches"), (Jvm.Cond.fieldLinkNest "LeafMatches$Face" (70 : Nat) "LeafMatches" "SHIFTS" "[I" "LeafMatches"), (Jvm.Cond.castable "[B" "java/lang/Cloneable")]
theorem xnw_warm {s U : State} (hW : s.WarmedH U.vm) : ∀ w ∈ xnw, va_Nw w s → va_Nw w U := List.forall_mem_cons.mpr ⟨fun h => va_Nw.warmC hW h, List.forall_mem_cons.mpr ⟨fun h => va_Nw.warmD hW h, List.forall_mem_cons.mpr ⟨fun h => va_Nw.warmD hW h, List.forall_mem_cons.mpr ⟨fun h => va_Nw.warmD hW h, List.forall_mem_cons.mpr ⟨fun h => va_Nw.warmD hW h, List.forall_mem_cons.mpr ⟨fun h => va_Nw.warmD hW h, List.forall_mem_cons.mpr ⟨fun h => va_Nw.warmD hW h, List.forall_mem_cons.mpr ⟨fun h => va_Nw.warmC hW h, List.forall_mem_cons.mpr ⟨fun h => va_Nw.warmC hW h, List.forall_mem_cons.mpr ⟨fun h => va_Nw.warmM hW h, List.forall_mem_cons.mpr ⟨fun h => va_Nw.warmF hW h, List.forall_mem_cons.mpr ⟨fun h => va_Nw.warmC hW h, fun w h => by cases h⟩⟩⟩⟩⟩⟩⟩⟩⟩⟩⟩⟩
theorem xnw_tab : ∀ w ∈ xnw, w.onTables = true := List.forall_mem_cons.mpr ⟨rfl, List.forall_mem_cons.mpr ⟨rfl, List.forall_mem_cons.mpr ⟨rfl, List.forall_mem_cons.mpr ⟨rfl, List.forall_mem_cons.mpr ⟨rfl, List.forall_mem_cons.mpr ⟨rfl, List.forall_mem_cons.mpr ⟨rfl, List.forall_mem_cons.mpr ⟨rfl, List.forall_mem_cons.mpr ⟨rfl, List.forall_mem_cons.mpr ⟨rfl, List.forall_mem_cons.mpr ⟨rfl, List.forall_mem_cons.mpr ⟨rfl, fun w h => by cases h⟩⟩⟩⟩⟩⟩⟩⟩⟩⟩⟩⟩
theorem xnw_in : ∀ w ∈ xnw, w ∈ lw_tbl := by decide +kernel
def xstr : List (String × Nat × String) := [("LeafMatches", 40, "there are 32 leaves"), ("LeafMatches", 49, "the flitch has a leaf of that number"), ("LeafMatches", 57, "flitch is not 0 .. 3 or number not 0 .. 1000"), ("LeafMatches", 60, "w or h is not 1 .. 12"), ("LeafMatches", 77, "no such leaf, column or row"), ("LeafMatches", 80, "v is not 0 .. 255"), ("LeafMatches", 85, "no such leaf"), ("LeafMatches", 91, "the leaf is used"), ("LeafMatches", 93, "order is not 0 .. 1000"), ("LeafMatches", 98, "there are 8 faces"), ("LeafMatches", 104, "no flitch has so many free leaves"), ("LeafMatches", 106, "there is no such kind"), ("LeafMatches", 108, "n is not 2 .. 8, or not 4 for a diamond"), ("LeafMatches", 128, "no such face"), ("LeafMatches", 133, "no such face or piece"), ("LeafMatches", 163, "what is not 0 .. 4"), ("LeafMatches", 182, "what is not 0 .. 3"), ("LeafMatches", 187, "no such face or seam"), ("LeafMatches", 192, "shift is not -3 .. 3"), ("LeafMatches", 201, "i is below 0"), ("LeafMatches", 276, "BSRD"), ("LeafMatches", 219, "there are 8 faces wanted"), ("LeafMatches", 221, "w is not 1 .. 100"), ("LeafMatches", 230, "flitch is not 0 .. 3"), ("LeafMatches", 239, "no plan was found as things are"), ("LeafMatches", 241, "no such face wanted"), ("LeafMatches", 250, "what is not 0 or 1")]
def xnc : List (String × String) := [("LeafMatches", "java/lang/IllegalStateException"), ("LeafMatches$Planner", "java/lang/IllegalStateException"), ("LeafMatchesModel", "java/lang/IllegalStateException"), ("java/lang/IllegalArgumentException", "java/lang/IllegalStateException"), ("LeafMatches$Leaf", "java/lang/IllegalStateException"), ("java/lang/IndexOutOfBoundsException", "java/lang/IllegalStateException"), ("LeafMatches$Face", "java/lang/IllegalStateException"), ("LeafMatches$Piece", "java/lang/IllegalStateException"), ("java/lang/StringBuilder", "java/lang/IllegalStateException"), ("LeafMatches", "java/lang/IllegalArgumentException"), ("LeafMatches$Planner", "java/lang/IllegalArgumentException"), ("LeafMatchesModel", "java/lang/IllegalArgumentException"), ("java/lang/IllegalStateException", "java/lang/IllegalArgumentException"), ("LeafMatches$Leaf", "java/lang/IllegalArgumentException"), ("java/lang/IndexOutOfBoundsException", "java/lang/IllegalArgumentException"), ("LeafMatches$Face", "java/lang/IllegalArgumentException"), ("LeafMatches$Piece", "java/lang/IllegalArgumentException"), ("java/lang/StringBuilder", "java/lang/IllegalArgumentException"), ("LeafMatches", "java/lang/IndexOutOfBoundsException"), ("LeafMatches$Planner", "java/lang/IndexOutOfBoundsException"), ("LeafMatchesModel", "java/lang/IndexOutOfBoundsException"), ("java/lang/IllegalStateException", "java/lang/IndexOutOfBoundsException"), ("java/lang/IllegalArgumentException", "java/lang/IndexOutOfBoundsException"), ("LeafMatches$Leaf", "java/lang/IndexOutOfBoundsException"), ("LeafMatches$Face", "java/lang/IndexOutOfBoundsException"), ("LeafMatches$Piece", "java/lang/IndexOutOfBoundsException"), ("java/lang/StringBuilder", "java/lang/IndexOutOfBoundsException")]
abbrev b_ASB_append0 : ByteArray := prog_8_method_31_code
def y_ASB_append0 : MethodName := ⟨R_ASB, "append", "(C)Ljava/lang/AbstractStringBuilder;"⟩
abbrev b_ASB_append1 : ByteArray := prog_8_method_32_code
def y_ASB_append1 : MethodName := ⟨R_ASB, "append", "(I)Ljava/lang/AbstractStringBuilder;"⟩
abbrev b_ASB_charAt : ByteArray := prog_8_method_14_code
def y_ASB_charAt : MethodName := ⟨R_ASB, "charAt", "(I)C"⟩
abbrev b_ASB_ensureCapacityInternal : ByteArray := prog_8_method_9_code
def y_ASB_ensureCapacityInternal : MethodName := ⟨R_ASB, "ensureCapacityInternal", "(I)V"⟩
abbrev b_ASB_inflate : ByteArray := prog_8_method_11_code
def y_ASB_inflate : MethodName := ⟨R_ASB, "inflate", "()V"⟩
abbrev b_ASB_init : ByteArray := prog_8_method_2_code
def y_ASB_init : MethodName := ⟨R_ASB, "<init>", "(I)V"⟩
abbrev b_ASB_isLatin1 : ByteArray := prog_8_method_68_code
def y_ASB_isLatin1 : MethodName := ⟨R_ASB, "isLatin1", "()Z"⟩
abbrev b_ASB_length : ByteArray := prog_8_method_6_code
def y_ASB_length : MethodName := ⟨R_ASB, "length", "()I"⟩
abbrev b_ASB_newCapacity : ByteArray := prog_8_method_10_code
def y_ASB_newCapacity : MethodName := ⟨R_ASB, "newCapacity", "(I)I"⟩
abbrev b_Face_bestShift : ByteArray := prog_2_method_7_code
def y_Face_bestShift : MethodName := ⟨R_Face, "bestShift", "(I)I"⟩
abbrev b_Face_differenceAt : ByteArray := prog_2_method_6_code
def y_Face_differenceAt : MethodName := ⟨R_Face, "differenceAt", "(II)I"⟩
abbrev b_Face_greatestBottom : ByteArray := prog_2_method_10_code
def y_Face_greatestBottom : MethodName := ⟨R_Face, "greatestBottom", "()I"⟩
abbrev b_Face_greySeen : ByteArray := prog_2_method_11_code
def y_Face_greySeen : MethodName := ⟨R_Face, "greySeen", "(II)I"⟩
abbrev b_Face_hasPiece : ByteArray := prog_2_method_3_code
def y_Face_hasPiece : MethodName := ⟨R_Face, "hasPiece", "(I)Z"⟩
abbrev b_Face_hasSeam : ByteArray := prog_2_method_4_code
def y_Face_hasSeam : MethodName := ⟨R_Face, "hasSeam", "(I)Z"⟩
abbrev b_Face_init : ByteArray := prog_2_method_1_code
def y_Face_init : MethodName := ⟨R_Face, "<init>", "(I[LLeafMatches$Leaf;I)V"⟩
abbrev b_Face_isBalanced : ByteArray := prog_2_method_12_code
def y_Face_isBalanced : MethodName := ⟨R_Face, "isBalanced", "()Z"⟩
abbrev b_Face_layOut : ByteArray := prog_2_method_5_code
def y_Face_layOut : MethodName := ⟨R_Face, "layOut", "()V"⟩
abbrev b_Face_leastTop : ByteArray := prog_2_method_9_code
def y_Face_leastTop : MethodName := ⟨R_Face, "leastTop", "()I"⟩
abbrev b_Face_markUsed : ByteArray := prog_2_method_2_code
def y_Face_markUsed : MethodName := ⟨R_Face, "markUsed", "(Z)V"⟩
abbrev b_Face_sizeAcross : ByteArray := prog_2_method_8_code
def y_Face_sizeAcross : MethodName := ⟨R_Face, "sizeAcross", "()I"⟩
abbrev b_Int_getChars : ByteArray := prog_14_method_12_code
def y_Int_getChars : MethodName := ⟨R_Int, "getChars", "(II[B)I"⟩
abbrev b_Int_stringSize : ByteArray := prog_14_method_13_code
def y_Int_stringSize : MethodName := ⟨R_Int, "stringSize", "(I)I"⟩
abbrev b_LM_about : ByteArray := prog_1_method_9_code
def y_LM_about : MethodName := ⟨R_LM, "about", "(II)I"⟩
abbrev b_LM_apart : ByteArray := prog_1_method_6_code
def y_LM_apart : MethodName := ⟨R_LM, "apart", "(I)I"⟩
abbrev b_LM_at : ByteArray := prog_1_method_8_code
def y_LM_at : MethodName := ⟨R_LM, "at", "(III)I"⟩
abbrev b_LM_balance : ByteArray := prog_1_method_13_code
def y_LM_balance : MethodName := ⟨R_LM, "balance", "(I)Z"⟩
abbrev b_LM_clear : ByteArray := prog_1_method_16_code
def y_LM_clear : MethodName := ⟨R_LM, "clear", "()I"⟩
abbrev b_LM_countFree : ByteArray := prog_1_method_23_code
def y_LM_countFree : MethodName := ⟨R_LM, "countFree", "(I)I"⟩
abbrev b_LM_faceOrNull : ByteArray := prog_1_method_21_code
def y_LM_faceOrNull : MethodName := ⟨R_LM, "faceOrNull", "(I)LLeafMatches$Face;"⟩
abbrev b_LM_faces : ByteArray := prog_1_method_17_code
def y_LM_faces : MethodName := ⟨R_LM, "faces", "(I)I"⟩
abbrev b_LM_gatherFree : ByteArray := prog_1_method_25_code
def y_LM_gatherFree : MethodName := ⟨R_LM, "gatherFree", "(I)I"⟩
abbrev b_LM_init : ByteArray := prog_1_method_1_code
def y_LM_init : MethodName := ⟨R_LM, "<init>", "()V"⟩
abbrev b_LM_isBroken : ByteArray := prog_1_method_26_code
def y_LM_isBroken : MethodName := ⟨R_LM, "isBroken", "(I)Z"⟩
abbrev b_LM_isNumberTaken : ByteArray := prog_1_method_22_code
def y_LM_isNumberTaken : MethodName := ⟨R_LM, "isNumberTaken", "(II)Z"⟩
abbrev b_LM_isWithin : ByteArray := prog_1_method_19_code
def y_LM_isWithin : MethodName := ⟨R_LM, "isWithin", "(III)Z"⟩
abbrev b_LM_leaf : ByteArray := prog_1_method_2_code
def y_LM_leaf : MethodName := ⟨R_LM, "leaf", "(IIII)I"⟩
abbrev b_LM_leafOrNull : ByteArray := prog_1_method_20_code
def y_LM_leafOrNull : MethodName := ⟨R_LM, "leafOrNull", "(I)LLeafMatches$Leaf;"⟩
abbrev b_LM_leastFlitchWith : ByteArray := prog_1_method_24_code
def y_LM_leastFlitchWith : MethodName := ⟨R_LM, "leastFlitchWith", "(I)I"⟩
abbrev b_LM_match : ByteArray := prog_1_method_5_code
def y_LM_match : MethodName := ⟨R_LM, "match", "(II)I"⟩
abbrev b_LM_mirrored : ByteArray := prog_1_method_12_code
def y_LM_mirrored : MethodName := ⟨R_LM, "mirrored", "(II)Z"⟩
abbrev b_LM_number : ByteArray := prog_1_method_14_code
def y_LM_number : MethodName := ⟨R_LM, "number", "(III)I"⟩
abbrev b_LM_pixel : ByteArray := prog_1_method_3_code
def y_LM_pixel : MethodName := ⟨R_LM, "pixel", "(IIII)Z"⟩
abbrev b_LM_place : ByteArray := prog_1_method_7_code
def y_LM_place : MethodName := ⟨R_LM, "place", "(III)I"⟩
abbrev b_LM_planned : ByteArray := prog_1_method_18_code
def y_LM_planned : MethodName := ⟨R_LM, "planned", "(II)I"⟩
abbrev b_LM_reserve : ByteArray := prog_1_method_4_code
def y_LM_reserve : MethodName := ⟨R_LM, "reserve", "(II)Z"⟩
abbrev b_LM_seam : ByteArray := prog_1_method_10_code
def y_LM_seam : MethodName := ⟨R_LM, "seam", "(II)I"⟩
abbrev b_LM_sum : ByteArray := prog_1_method_11_code
def y_LM_sum : MethodName := ⟨R_LM, "sum", "(III)J"⟩
abbrev b_LM_want : ByteArray := prog_1_method_15_code
def y_LM_want : MethodName := ⟨R_LM, "want", "(I)I"⟩
abbrev b_LM_writtenOn : ByteArray := prog_1_method_27_code
def y_LM_writtenOn : MethodName := ⟨R_LM, "writtenOn", "(IILLeafMatches$Piece;)Ljava/lang/StringBuilder;"⟩
abbrev b_Law_about : ByteArray := method_10_code
def y_Law_about : MethodName := ⟨R_Law, "about", "(LLeafMatches;II[J)I"⟩
abbrev b_Law_apart : ByteArray := method_7_code
def y_Law_apart : MethodName := ⟨R_Law, "apart", "(LLeafMatches;I[J)I"⟩
abbrev b_Law_at : ByteArray := method_9_code
def y_Law_at : MethodName := ⟨R_Law, "at", "(LLeafMatches;III[J)I"⟩
abbrev b_Law_balance : ByteArray := method_14_code
def y_Law_balance : MethodName := ⟨R_Law, "balance", "(LLeafMatches;I[J)I"⟩
abbrev b_Law_faces : ByteArray := method_17_code
def y_Law_faces : MethodName := ⟨R_Law, "faces", "(LLeafMatches;I[J)I"⟩
abbrev b_Law_leaf : ByteArray := method_3_code
def y_Law_leaf : MethodName := ⟨R_Law, "leaf", "(LLeafMatches;IIII[J)I"⟩
abbrev b_Law_match : ByteArray := method_6_code
def y_Law_match : MethodName := ⟨R_Law, "match", "(LLeafMatches;II[J)I"⟩
abbrev b_Law_mirrored : ByteArray := method_13_code
def y_Law_mirrored : MethodName := ⟨R_Law, "mirrored", "(LLeafMatches;II[J)I"⟩
abbrev b_Law_number : ByteArray := method_15_code
def y_Law_number : MethodName := ⟨R_Law, "number", "(LLeafMatches;III[J)I"⟩
abbrev b_Law_pixel : ByteArray := method_4_code
def y_Law_pixel : MethodName := ⟨R_Law, "pixel", "(LLeafMatches;IIII[J)I"⟩
abbrev b_Law_place : ByteArray := method_8_code
def y_Law_place : MethodName := ⟨R_Law, "place", "(LLeafMatches;III[J)I"⟩
abbrev b_Law_planned : ByteArray := method_18_code
def y_Law_planned : MethodName := ⟨R_Law, "planned", "(LLeafMatches;II[J)I"⟩
abbrev b_Law_reserve : ByteArray := method_5_code
def y_Law_reserve : MethodName := ⟨R_Law, "reserve", "(LLeafMatches;II[J)I"⟩
abbrev b_Law_seam : ByteArray := method_11_code
def y_Law_seam : MethodName := ⟨R_Law, "seam", "(LLeafMatches;II[J)I"⟩
abbrev b_Law_sum : ByteArray := method_12_code
def y_Law_sum : MethodName := ⟨R_Law, "sum", "(LLeafMatches;III[J)I"⟩
abbrev b_Law_want : ByteArray := method_16_code
def y_Law_want : MethodName := ⟨R_Law, "want", "(LLeafMatches;I[J)I"⟩
abbrev b_Leaf_follows : ByteArray := prog_3_method_3_code
def y_Leaf_follows : MethodName := ⟨R_Leaf, "follows", "(LLeafMatches$Leaf;)Z"⟩
abbrev b_Leaf_greyOrNone : ByteArray := prog_3_method_5_code
def y_Leaf_greyOrNone : MethodName := ⟨R_Leaf, "greyOrNone", "(II)I"⟩
abbrev b_Leaf_holds : ByteArray := prog_3_method_4_code
def y_Leaf_holds : MethodName := ⟨R_Leaf, "holds", "(II)Z"⟩
abbrev b_Leaf_init : ByteArray := prog_3_method_1_code
def y_Leaf_init : MethodName := ⟨R_Leaf, "<init>", "(IIIII)V"⟩
abbrev b_Leaf_isFree : ByteArray := prog_3_method_2_code
def y_Leaf_isFree : MethodName := ⟨R_Leaf, "isFree", "()Z"⟩
abbrev b_Leaf_paint : ByteArray := prog_3_method_6_code
def y_Leaf_paint : MethodName := ⟨R_Leaf, "paint", "(III)Z"⟩
abbrev b_Mod_about : ByteArray := prog_7_method_27_code
def y_Mod_about : MethodName := ⟨R_Mod, "about", "(II)I"⟩
abbrev b_Mod_across : ByteArray := prog_7_method_20_code
def y_Mod_across : MethodName := ⟨R_Mod, "across", "(II)I"⟩
abbrev b_Mod_apart : ByteArray := prog_7_method_10_code
def y_Mod_apart : MethodName := ⟨R_Mod, "apart", "(I)I"⟩
abbrev b_Mod_at : ByteArray := prog_7_method_25_code
def y_Mod_at : MethodName := ⟨R_Mod, "at", "(III)I"⟩
abbrev b_Mod_balance : ByteArray := prog_7_method_32_code
def y_Mod_balance : MethodName := ⟨R_Mod, "balance", "(I)Z"⟩
abbrev b_Mod_clear : ByteArray := prog_7_method_36_code
def y_Mod_clear : MethodName := ⟨R_Mod, "clear", "()I"⟩
abbrev b_Mod_faces : ByteArray := prog_7_method_40_code
def y_Mod_faces : MethodName := ⟨R_Mod, "faces", "(I)I"⟩
abbrev b_Mod_fillRow : ByteArray := prog_7_method_7_code
def y_Mod_fillRow : MethodName := ⟨R_Mod, "fillRow", "(I)V"⟩
abbrev b_Mod_grey : ByteArray := prog_7_method_13_code
def y_Mod_grey : MethodName := ⟨R_Mod, "grey", "(IIII)I"⟩
abbrev b_Mod_high : ByteArray := prog_7_method_15_code
def y_Mod_high : MethodName := ⟨R_Mod, "high", "(II)I"⟩
abbrev b_Mod_init : ByteArray := prog_7_method_1_code
def y_Mod_init : MethodName := ⟨R_Mod, "<init>", "()V"⟩
abbrev b_Mod_isIn : ByteArray := prog_7_method_3_code
def y_Mod_isIn : MethodName := ⟨R_Mod, "isIn", "(III)Z"⟩
abbrev b_Mod_isMirrored : ByteArray := prog_7_method_11_code
def y_Mod_isMirrored : MethodName := ⟨R_Mod, "isMirrored", "(II)Z"⟩
abbrev b_Mod_isTurned : ByteArray := prog_7_method_12_code
def y_Mod_isTurned : MethodName := ⟨R_Mod, "isTurned", "(II)Z"⟩
abbrev b_Mod_leaf : ByteArray := prog_7_method_4_code
def y_Mod_leaf : MethodName := ⟨R_Mod, "leaf", "(IIII)I"⟩
abbrev b_Mod_leastTop : ByteArray := prog_7_method_22_code
def y_Mod_leastTop : MethodName := ⟨R_Mod, "leastTop", "(I)I"⟩
abbrev b_Mod_leftOf : ByteArray := prog_7_method_17_code
def y_Mod_leftOf : MethodName := ⟨R_Mod, "leftOf", "(II)I"⟩
abbrev b_Mod_lossFrom : ByteArray := prog_7_method_38_code
def y_Mod_lossFrom : MethodName := ⟨R_Mod, "lossFrom", "(III)I"⟩
abbrev b_Mod_lossWith : ByteArray := prog_7_method_39_code
def y_Mod_lossWith : MethodName := ⟨R_Mod, "lossWith", "(III)I"⟩
abbrev b_Mod_manyFrom : ByteArray := prog_7_method_37_code
def y_Mod_manyFrom : MethodName := ⟨R_Mod, "manyFrom", "(II)I"⟩
abbrev b_Mod_match : ByteArray := prog_7_method_8_code
def y_Mod_match : MethodName := ⟨R_Mod, "match", "(II)I"⟩
abbrev b_Mod_mirrored : ByteArray := prog_7_method_31_code
def y_Mod_mirrored : MethodName := ⟨R_Mod, "mirrored", "(II)Z"⟩
abbrev b_Mod_noFace : ByteArray := prog_7_method_9_code
def y_Mod_noFace : MethodName := ⟨R_Mod, "noFace", "(I)Z"⟩
abbrev b_Mod_noPiece : ByteArray := prog_7_method_23_code
def y_Mod_noPiece : MethodName := ⟨R_Mod, "noPiece", "(II)Z"⟩
abbrev b_Mod_noSeam : ByteArray := prog_7_method_28_code
def y_Mod_noSeam : MethodName := ⟨R_Mod, "noSeam", "(II)Z"⟩
abbrev b_Mod_number : ByteArray := prog_7_method_34_code
def y_Mod_number : MethodName := ⟨R_Mod, "number", "(III)I"⟩
abbrev b_Mod_pixel : ByteArray := prog_7_method_5_code
def y_Mod_pixel : MethodName := ⟨R_Mod, "pixel", "(IIII)Z"⟩
abbrev b_Mod_place : ByteArray := prog_7_method_24_code
def y_Mod_place : MethodName := ⟨R_Mod, "place", "(III)I"⟩
abbrev b_Mod_planned : ByteArray := prog_7_method_42_code
def y_Mod_planned : MethodName := ⟨R_Mod, "planned", "(II)I"⟩
abbrev b_Mod_reserve : ByteArray := prog_7_method_6_code
def y_Mod_reserve : MethodName := ⟨R_Mod, "reserve", "(II)Z"⟩
abbrev b_Mod_seam : ByteArray := prog_7_method_29_code
def y_Mod_seam : MethodName := ⟨R_Mod, "seam", "(II)I"⟩
abbrev b_Mod_seams : ByteArray := prog_7_method_16_code
def y_Mod_seams : MethodName := ⟨R_Mod, "seams", "(I)I"⟩
abbrev b_Mod_shiftOf : ByteArray := prog_7_method_19_code
def y_Mod_shiftOf : MethodName := ⟨R_Mod, "shiftOf", "(II)I"⟩
abbrev b_Mod_sum : ByteArray := prog_7_method_30_code
def y_Mod_sum : MethodName := ⟨R_Mod, "sum", "(III)J"⟩
abbrev b_Mod_sumAt : ByteArray := prog_7_method_18_code
def y_Mod_sumAt : MethodName := ⟨R_Mod, "sumAt", "(III)I"⟩
abbrev b_Mod_thrown : ByteArray := prog_7_method_2_code
def y_Mod_thrown : MethodName := ⟨R_Mod, "thrown", "()I"⟩
abbrev b_Mod_topOf : ByteArray := prog_7_method_21_code
def y_Mod_topOf : MethodName := ⟨R_Mod, "topOf", "(II)I"⟩
abbrev b_Mod_walk : ByteArray := prog_7_method_41_code
def y_Mod_walk : MethodName := ⟨R_Mod, "walk", "(I)V"⟩
abbrev b_Mod_want : ByteArray := prog_7_method_35_code
def y_Mod_want : MethodName := ⟨R_Mod, "want", "(I)I"⟩
abbrev b_Mod_wide : ByteArray := prog_7_method_14_code
def y_Mod_wide : MethodName := ⟨R_Mod, "wide", "(II)I"⟩
abbrev b_Mod_wideOf : ByteArray := prog_7_method_26_code
def y_Mod_wideOf : MethodName := ⟨R_Mod, "wideOf", "(I)I"⟩
abbrev b_Mod_writeNumber : ByteArray := prog_7_method_33_code
def y_Mod_writeNumber : MethodName := ⟨R_Mod, "writeNumber", "(II)I"⟩
abbrev b_Piece_bottom : ByteArray := prog_4_method_3_code
def y_Piece_bottom : MethodName := ⟨R_Piece, "bottom", "()I"⟩
abbrev b_Piece_end : ByteArray := prog_4_method_2_code
def y_Piece_end : MethodName := ⟨R_Piece, "end", "()I"⟩
abbrev b_Piece_greyShown : ByteArray := prog_4_method_4_code
def y_Piece_greyShown : MethodName := ⟨R_Piece, "greyShown", "(II)I"⟩
abbrev b_Piece_init : ByteArray := prog_4_method_1_code
def y_Piece_init : MethodName := ⟨R_Piece, "<init>", "(LLeafMatches$Leaf;ZZ)V"⟩
abbrev b_Plan_addWanted : ByteArray := prog_5_method_3_code
def y_Plan_addWanted : MethodName := ⟨R_Plan, "addWanted", "(I)V"⟩
abbrev b_Plan_dropWanted : ByteArray := prog_5_method_4_code
def y_Plan_dropWanted : MethodName := ⟨R_Plan, "dropWanted", "()V"⟩
abbrev b_Plan_faceBegunAt : ByteArray := prog_5_method_13_code
def y_Plan_faceBegunAt : MethodName := ⟨R_Plan, "faceBegunAt", "(II)I"⟩
abbrev b_Plan_findLeastLoss : ByteArray := prog_5_method_10_code
def y_Plan_findLeastLoss : MethodName := ⟨R_Plan, "findLeastLoss", "(I)V"⟩
abbrev b_Plan_findRow : ByteArray := prog_5_method_9_code
def y_Plan_findRow : MethodName := ⟨R_Plan, "findRow", "([LLeafMatches$Leaf;III)V"⟩
abbrev b_Plan_findRows : ByteArray := prog_5_method_8_code
def y_Plan_findRows : MethodName := ⟨R_Plan, "findRows", "([LLeafMatches$Leaf;I)V"⟩
abbrev b_Plan_forgetPlan : ByteArray := prog_5_method_2_code
def y_Plan_forgetPlan : MethodName := ⟨R_Plan, "forgetPlan", "()V"⟩
abbrev b_Plan_grown : ByteArray := prog_5_method_7_code
def y_Plan_grown : MethodName := ⟨R_Plan, "grown", "([II)[I"⟩
abbrev b_Plan_init : ByteArray := prog_5_method_1_code
def y_Plan_init : MethodName := ⟨R_Plan, "<init>", "()V"⟩
abbrev b_Plan_keepPlan : ByteArray := prog_5_method_12_code
def y_Plan_keepPlan : MethodName := ⟨R_Plan, "keepPlan", "([LLeafMatches$Leaf;I)V"⟩
abbrev b_Plan_lowerByFace : ByteArray := prog_5_method_11_code
def y_Plan_lowerByFace : MethodName := ⟨R_Plan, "lowerByFace", "(II)V"⟩
abbrev b_Plan_makeRoom : ByteArray := prog_5_method_6_code
def y_Plan_makeRoom : MethodName := ⟨R_Plan, "makeRoom", "(I)V"⟩
abbrev b_Plan_planFrom : ByteArray := prog_5_method_5_code
def y_Plan_planFrom : MethodName := ⟨R_Plan, "planFrom", "([LLeafMatches$Leaf;I)I"⟩
abbrev b_Pre_checkFromIndexSize : ByteArray := prog_25_method_13_code
def y_Pre_checkFromIndexSize : MethodName := ⟨R_Pre, "checkFromIndexSize", "(IIILjava/util/function/BiFunction;)I"⟩
abbrev b_Pre_checkFromToIndex : ByteArray := prog_25_method_12_code
def y_Pre_checkFromToIndex : MethodName := ⟨R_Pre, "checkFromToIndex", "(IIILjava/util/function/BiFunction;)I"⟩
abbrev b_Pre_checkIndex : ByteArray := prog_25_method_11_code
def y_Pre_checkIndex : MethodName := ⟨R_Pre, "checkIndex", "(IILjava/util/function/BiFunction;)I"⟩
abbrev b_SB_append0 : ByteArray := prog_18_method_14_code
def y_SB_append0 : MethodName := ⟨R_SB, "append", "(C)Ljava/lang/StringBuilder;"⟩
abbrev b_SB_append1 : ByteArray := prog_18_method_15_code
def y_SB_append1 : MethodName := ⟨R_SB, "append", "(I)Ljava/lang/StringBuilder;"⟩
abbrev b_SB_charAt : ByteArray := prog_18_method_88_code
def y_SB_charAt : MethodName := ⟨R_SB, "charAt", "(I)C"⟩
abbrev b_SB_init : ByteArray := prog_18_method_1_code
def y_SB_init : MethodName := ⟨R_SB, "<init>", "()V"⟩
abbrev b_SB_length : ByteArray := prog_18_method_93_code
def y_SB_length : MethodName := ⟨R_SB, "length", "()I"⟩
abbrev b_SL1_canEncode : ByteArray := prog_19_method_3_code
def y_SL1_canEncode : MethodName := ⟨R_SL1, "canEncode", "(C)Z"⟩
abbrev b_SL1_charAt : ByteArray := prog_19_method_2_code
def y_SL1_charAt : MethodName := ⟨R_SL1, "charAt", "([BI)C"⟩
abbrev b_SL1_inflate : ByteArray := prog_19_method_50_code
def y_SL1_inflate : MethodName := ⟨R_SL1, "inflate", "([BI[BII)V"⟩
abbrev b_Str_charAt : ByteArray := prog_17_method_56_code
def y_Str_charAt : MethodName := ⟨R_Str, "charAt", "(I)C"⟩
abbrev b_Str_checkBoundsBeginEnd : ByteArray := prog_17_method_158_code
def y_Str_checkBoundsBeginEnd : MethodName := ⟨R_Str, "checkBoundsBeginEnd", "(III)V"⟩
abbrev b_Str_checkBoundsOffCount : ByteArray := prog_17_method_157_code
def y_Str_checkBoundsOffCount : MethodName := ⟨R_Str, "checkBoundsOffCount", "(III)I"⟩
abbrev b_Str_checkIndex : ByteArray := prog_17_method_155_code
def y_Str_checkIndex : MethodName := ⟨R_Str, "checkIndex", "(II)V"⟩
abbrev b_Str_isLatin1 : ByteArray := prog_17_method_154_code
def y_Str_isLatin1 : MethodName := ⟨R_Str, "isLatin1", "()Z"⟩
