-- ===== PART A: goes FIRST, ahead of the names: the tables' words, and 'selects' of the private methods out of them =====
/-- a private method of a class that the tables say can be made, by its rows of tables_1 -/
def lw_okq (q : MethodName × Nat) : Prop := (q.1.cls ≠ "java/lang/invoke/MethodHandle" ∧ q.1.cls ≠ "java/lang/invoke/VarHandle") ∧ Cond.instantiable q.1.cls q.2 ∈ tables_1 ∧ Cond.privateMethod q.1 ∈ tables_1 ∧ Cond.instanceMethod q.1 ∈ tables_1
theorem lw_p0 : lw_okq (⟨"FieldsByDots$Text", "isFaulty", "(I)Z"⟩, 2) := ⟨⟨by decide +kernel, by decide +kernel⟩, List.mem_of_getElem? (i := 19) (by decide +kernel), List.mem_of_getElem? (i := 156) (by decide +kernel), List.mem_of_getElem? (i := 157) (by decide +kernel)⟩
theorem lw_p1 : lw_okq (⟨"FieldsByDots$Text", "isToldBefore", "(I)Z"⟩, 2) := ⟨⟨by decide +kernel, by decide +kernel⟩, List.mem_of_getElem? (i := 19) (by decide +kernel), List.mem_of_getElem? (i := 163) (by decide +kernel), List.mem_of_getElem? (i := 164) (by decide +kernel)⟩
theorem lw_p2 : lw_okq (⟨"FieldsByDots", "isCorner", "(II)Z"⟩, 8) := ⟨⟨by decide +kernel, by decide +kernel⟩, List.mem_of_getElem? (i := 11) (by decide +kernel), List.mem_of_getElem? (i := 182) (by decide +kernel), List.mem_of_getElem? (i := 183) (by decide +kernel)⟩
theorem lw_p3 : lw_okq (⟨"FieldsByDots$Outline", "isFoldedAt", "(I)Z"⟩, 3) := ⟨⟨by decide +kernel, by decide +kernel⟩, List.mem_of_getElem? (i := 35) (by decide +kernel), List.mem_of_getElem? (i := 250) (by decide +kernel), List.mem_of_getElem? (i := 251) (by decide +kernel)⟩
theorem lw_p4 : lw_okq (⟨"FieldsByDots$Outline", "isTouching", "(II)Z"⟩, 3) := ⟨⟨by decide +kernel, by decide +kernel⟩, List.mem_of_getElem? (i := 35) (by decide +kernel), List.mem_of_getElem? (i := 270) (by decide +kernel), List.mem_of_getElem? (i := 271) (by decide +kernel)⟩
theorem lw_p5 : lw_okq (⟨"FieldsByDots", "aboutCuts", "(LFieldsByDots$Outline;I)I"⟩, 8) := ⟨⟨by decide +kernel, by decide +kernel⟩, List.mem_of_getElem? (i := 11) (by decide +kernel), List.mem_of_getElem? (i := 318) (by decide +kernel), List.mem_of_getElem? (i := 319) (by decide +kernel)⟩
theorem lw_p6 : lw_okq (⟨"FieldsByDots$Outline", "nearestToward", "(II)I"⟩, 3) := ⟨⟨by decide +kernel, by decide +kernel⟩, List.mem_of_getElem? (i := 35) (by decide +kernel), List.mem_of_getElem? (i := 330) (by decide +kernel), List.mem_of_getElem? (i := 331) (by decide +kernel)⟩
theorem lw_p7 : lw_okq (⟨"FieldsByDots$Outline", "isCrossed", "(II)Z"⟩, 3) := ⟨⟨by decide +kernel, by decide +kernel⟩, List.mem_of_getElem? (i := 35) (by decide +kernel), List.mem_of_getElem? (i := 334) (by decide +kernel), List.mem_of_getElem? (i := 335) (by decide +kernel)⟩
theorem lw_p8 : lw_okq (⟨"FieldsByDots$Outline", "placeOfMiddle", "(II)I"⟩, 3) := ⟨⟨by decide +kernel, by decide +kernel⟩, List.mem_of_getElem? (i := 35) (by decide +kernel), List.mem_of_getElem? (i := 342) (by decide +kernel), List.mem_of_getElem? (i := 343) (by decide +kernel)⟩
theorem lw_p9 : lw_okq (⟨"FieldsByDots$Cuts", "planPart", "(IIZ)V"⟩, 4) := ⟨⟨by decide +kernel, by decide +kernel⟩, List.mem_of_getElem? (i := 79) (by decide +kernel), List.mem_of_getElem? (i := 372) (by decide +kernel), List.mem_of_getElem? (i := 373) (by decide +kernel)⟩
theorem lw_p10 : lw_okq (⟨"FieldsByDots$Cuts", "planTip", "(III)V"⟩, 4) := ⟨⟨by decide +kernel, by decide +kernel⟩, List.mem_of_getElem? (i := 79) (by decide +kernel), List.mem_of_getElem? (i := 376) (by decide +kernel), List.mem_of_getElem? (i := 377) (by decide +kernel)⟩
theorem lw_p11 : lw_okq (⟨"FieldsByDots$Cuts", "addStrip", "(III)V"⟩, 4) := ⟨⟨by decide +kernel, by decide +kernel⟩, List.mem_of_getElem? (i := 79) (by decide +kernel), List.mem_of_getElem? (i := 384) (by decide +kernel), List.mem_of_getElem? (i := 385) (by decide +kernel)⟩
theorem lw_p12 : lw_okq (⟨"FieldsByDots$Cuts", "whole", "()I"⟩, 4) := ⟨⟨by decide +kernel, by decide +kernel⟩, List.mem_of_getElem? (i := 79) (by decide +kernel), List.mem_of_getElem? (i := 395) (by decide +kernel), List.mem_of_getElem? (i := 396) (by decide +kernel)⟩
theorem lw_p13 : lw_okq (⟨"FieldsByDots$Outline", "rightmostFrom", "(I)I"⟩, 3) := ⟨⟨by decide +kernel, by decide +kernel⟩, List.mem_of_getElem? (i := 35) (by decide +kernel), List.mem_of_getElem? (i := 459) (by decide +kernel), List.mem_of_getElem? (i := 460) (by decide +kernel)⟩
theorem lw_p14 : lw_okq (⟨"FieldsByDots", "isPair", "(III)Z"⟩, 8) := ⟨⟨by decide +kernel, by decide +kernel⟩, List.mem_of_getElem? (i := 11) (by decide +kernel), List.mem_of_getElem? (i := 471) (by decide +kernel), List.mem_of_getElem? (i := 472) (by decide +kernel)⟩
theorem lw_p15 : lw_okq (⟨"FieldsByDots", "fairest", "(LFieldsByDots$Outline;)I"⟩, 8) := ⟨⟨by decide +kernel, by decide +kernel⟩, List.mem_of_getElem? (i := 11) (by decide +kernel), List.mem_of_getElem? (i := 493) (by decide +kernel), List.mem_of_getElem? (i := 494) (by decide +kernel)⟩
def lw_privs_1 : List (MethodName × Nat) := [(⟨"FieldsByDots$Text", "isFaulty", "(I)Z"⟩, 2), (⟨"FieldsByDots$Text", "isToldBefore", "(I)Z"⟩, 2), (⟨"FieldsByDots", "isCorner", "(II)Z"⟩, 8), (⟨"FieldsByDots$Outline", "isFoldedAt", "(I)Z"⟩, 3), (⟨"FieldsByDots$Outline", "isTouching", "(II)Z"⟩, 3), (⟨"FieldsByDots", "aboutCuts", "(LFieldsByDots$Outline;I)I"⟩, 8), (⟨"FieldsByDots$Outline", "nearestToward", "(II)I"⟩, 3), (⟨"FieldsByDots$Outline", "isCrossed", "(II)Z"⟩, 3), (⟨"FieldsByDots$Outline", "placeOfMiddle", "(II)I"⟩, 3), (⟨"FieldsByDots$Cuts", "planPart", "(IIZ)V"⟩, 4), (⟨"FieldsByDots$Cuts", "planTip", "(III)V"⟩, 4), (⟨"FieldsByDots$Cuts", "addStrip", "(III)V"⟩, 4), (⟨"FieldsByDots$Cuts", "whole", "()I"⟩, 4), (⟨"FieldsByDots$Outline", "rightmostFrom", "(I)I"⟩, 3), (⟨"FieldsByDots", "isPair", "(III)Z"⟩, 8), (⟨"FieldsByDots", "fairest", "(LFieldsByDots$Outline;)I"⟩, 8)]
theorem lw_r1 : ∀ q ∈ lw_privs_1, lw_okq q := List.forall_mem_cons.mpr ⟨lw_p0, List.forall_mem_cons.mpr ⟨lw_p1, List.forall_mem_cons.mpr ⟨lw_p2, List.forall_mem_cons.mpr ⟨lw_p3, List.forall_mem_cons.mpr ⟨lw_p4, List.forall_mem_cons.mpr ⟨lw_p5, List.forall_mem_cons.mpr ⟨lw_p6, List.forall_mem_cons.mpr ⟨lw_p7, List.forall_mem_cons.mpr ⟨lw_p8, List.forall_mem_cons.mpr ⟨lw_p9, List.forall_mem_cons.mpr ⟨lw_p10, List.forall_mem_cons.mpr ⟨lw_p11, List.forall_mem_cons.mpr ⟨lw_p12, List.forall_mem_cons.mpr ⟨lw_p13, List.forall_mem_cons.mpr ⟨lw_p14, List.forall_mem_cons.mpr ⟨lw_p15, fun _ h => absurd h List.not_mem_nil⟩⟩⟩⟩⟩⟩⟩⟩⟩⟩⟩⟩⟩⟩⟩⟩
theorem lw_p16 : lw_okq (⟨"FieldsByDots$Sights", "withSeen", "(I)I"⟩, 3) := ⟨⟨by decide +kernel, by decide +kernel⟩, List.mem_of_getElem? (i := 62) (by decide +kernel), List.mem_of_getElem? (i := 514) (by decide +kernel), List.mem_of_getElem? (i := 515) (by decide +kernel)⟩
theorem lw_p17 : lw_okq (⟨"FieldsByDots", "refusalOfTwo", "(II)I"⟩, 8) := ⟨⟨by decide +kernel, by decide +kernel⟩, List.mem_of_getElem? (i := 11) (by decide +kernel), List.mem_of_getElem? (i := 530) (by decide +kernel), List.mem_of_getElem? (i := 531) (by decide +kernel)⟩
theorem lw_p18 : lw_okq (⟨"FieldsByDots$Likeness", "arrange", "(LFieldsByDots$Outline;IZ)V"⟩, 1) := ⟨⟨by decide +kernel, by decide +kernel⟩, List.mem_of_getElem? (i := 99) (by decide +kernel), List.mem_of_getElem? (i := 538) (by decide +kernel), List.mem_of_getElem? (i := 539) (by decide +kernel)⟩
theorem lw_p19 : lw_okq (⟨"FieldsByDots$Likeness", "isMapped", "(LFieldsByDots$Outline;I)Z"⟩, 1) := ⟨⟨by decide +kernel, by decide +kernel⟩, List.mem_of_getElem? (i := 99) (by decide +kernel), List.mem_of_getElem? (i := 545) (by decide +kernel), List.mem_of_getElem? (i := 546) (by decide +kernel)⟩
theorem lw_p20 : lw_okq (⟨"FieldsByDots", "allCorners", "()I"⟩, 8) := ⟨⟨by decide +kernel, by decide +kernel⟩, List.mem_of_getElem? (i := 11) (by decide +kernel), List.mem_of_getElem? (i := 565) (by decide +kernel), List.mem_of_getElem? (i := 566) (by decide +kernel)⟩
theorem lw_p21 : lw_okq (⟨"FieldsByDots", "soundFields", "()I"⟩, 8) := ⟨⟨by decide +kernel, by decide +kernel⟩, List.mem_of_getElem? (i := 11) (by decide +kernel), List.mem_of_getElem? (i := 577) (by decide +kernel), List.mem_of_getElem? (i := 578) (by decide +kernel)⟩
theorem lw_p22 : lw_okq (⟨"FieldsByDotsModel", "readText", "()I"⟩, 28) := ⟨⟨by decide +kernel, by decide +kernel⟩, List.mem_of_getElem? (i := 581) (by decide +kernel), List.mem_of_getElem? (i := 689) (by decide +kernel), List.mem_of_getElem? (i := 690) (by decide +kernel)⟩
theorem lw_p23 : lw_okq (⟨"FieldsByDotsModel", "isTold", "(II)Z"⟩, 28) := ⟨⟨by decide +kernel, by decide +kernel⟩, List.mem_of_getElem? (i := 581) (by decide +kernel), List.mem_of_getElem? (i := 700) (by decide +kernel), List.mem_of_getElem? (i := 701) (by decide +kernel)⟩
theorem lw_p24 : lw_okq (⟨"FieldsByDotsModel", "isCorner", "(II)Z"⟩, 28) := ⟨⟨by decide +kernel, by decide +kernel⟩, List.mem_of_getElem? (i := 581) (by decide +kernel), List.mem_of_getElem? (i := 716) (by decide +kernel), List.mem_of_getElem? (i := 717) (by decide +kernel)⟩
theorem lw_p25 : lw_okq (⟨"FieldsByDotsModel", "cornerAt", "(III)I"⟩, 28) := ⟨⟨by decide +kernel, by decide +kernel⟩, List.mem_of_getElem? (i := 581) (by decide +kernel), List.mem_of_getElem? (i := 728) (by decide +kernel), List.mem_of_getElem? (i := 729) (by decide +kernel)⟩
theorem lw_p26 : lw_okq (⟨"FieldsByDotsModel", "isSound", "(I)Z"⟩, 28) := ⟨⟨by decide +kernel, by decide +kernel⟩, List.mem_of_getElem? (i := 581) (by decide +kernel), List.mem_of_getElem? (i := 754) (by decide +kernel), List.mem_of_getElem? (i := 755) (by decide +kernel)⟩
theorem lw_p27 : lw_okq (⟨"FieldsByDotsModel", "place", "(II)I"⟩, 28) := ⟨⟨by decide +kernel, by decide +kernel⟩, List.mem_of_getElem? (i := 581) (by decide +kernel), List.mem_of_getElem? (i := 758) (by decide +kernel), List.mem_of_getElem? (i := 759) (by decide +kernel)⟩
theorem lw_p28 : lw_okq (⟨"FieldsByDotsModel", "side", "(III)I"⟩, 28) := ⟨⟨by decide +kernel, by decide +kernel⟩, List.mem_of_getElem? (i := 581) (by decide +kernel), List.mem_of_getElem? (i := 762) (by decide +kernel), List.mem_of_getElem? (i := 763) (by decide +kernel)⟩
theorem lw_p29 : lw_okq (⟨"FieldsByDotsModel", "meet", "(IIII)Z"⟩, 28) := ⟨⟨by decide +kernel, by decide +kernel⟩, List.mem_of_getElem? (i := 581) (by decide +kernel), List.mem_of_getElem? (i := 766) (by decide +kernel), List.mem_of_getElem? (i := 767) (by decide +kernel)⟩
theorem lw_p30 : lw_okq (⟨"FieldsByDotsModel", "isBetween", "(III)Z"⟩, 28) := ⟨⟨by decide +kernel, by decide +kernel⟩, List.mem_of_getElem? (i := 581) (by decide +kernel), List.mem_of_getElem? (i := 773) (by decide +kernel), List.mem_of_getElem? (i := 774) (by decide +kernel)⟩
theorem lw_p31 : lw_okq (⟨"FieldsByDotsModel", "whereOf", "(IJJJ)I"⟩, 28) := ⟨⟨by decide +kernel, by decide +kernel⟩, List.mem_of_getElem? (i := 581) (by decide +kernel), List.mem_of_getElem? (i := 781) (by decide +kernel), List.mem_of_getElem? (i := 782) (by decide +kernel)⟩
def lw_privs_2 : List (MethodName × Nat) := [(⟨"FieldsByDots$Sights", "withSeen", "(I)I"⟩, 3), (⟨"FieldsByDots", "refusalOfTwo", "(II)I"⟩, 8), (⟨"FieldsByDots$Likeness", "arrange", "(LFieldsByDots$Outline;IZ)V"⟩, 1), (⟨"FieldsByDots$Likeness", "isMapped", "(LFieldsByDots$Outline;I)Z"⟩, 1), (⟨"FieldsByDots", "allCorners", "()I"⟩, 8), (⟨"FieldsByDots", "soundFields", "()I"⟩, 8), (⟨"FieldsByDotsModel", "readText", "()I"⟩, 28), (⟨"FieldsByDotsModel", "isTold", "(II)Z"⟩, 28), (⟨"FieldsByDotsModel", "isCorner", "(II)Z"⟩, 28), (⟨"FieldsByDotsModel", "cornerAt", "(III)I"⟩, 28), (⟨"FieldsByDotsModel", "isSound", "(I)Z"⟩, 28), (⟨"FieldsByDotsModel", "place", "(II)I"⟩, 28), (⟨"FieldsByDotsModel", "side", "(III)I"⟩, 28), (⟨"FieldsByDotsModel", "meet", "(IIII)Z"⟩, 28), (⟨"FieldsByDotsModel", "isBetween", "(III)Z"⟩, 28), (⟨"FieldsByDotsModel", "whereOf", "(IJJJ)I"⟩, 28)]
theorem lw_r2 : ∀ q ∈ lw_privs_2, lw_okq q := List.forall_mem_cons.mpr ⟨lw_p16, List.forall_mem_cons.mpr ⟨lw_p17, List.forall_mem_cons.mpr ⟨lw_p18, List.forall_mem_cons.mpr ⟨lw_p19, List.forall_mem_cons.mpr ⟨lw_p20, List.forall_mem_cons.mpr ⟨lw_p21, List.forall_mem_cons.mpr ⟨lw_p22, List.forall_mem_cons.mpr ⟨lw_p23, List.forall_mem_cons.mpr ⟨lw_p24, List.forall_mem_cons.mpr ⟨lw_p25, List.forall_mem_cons.mpr ⟨lw_p26, List.forall_mem_cons.mpr ⟨lw_p27, List.forall_mem_cons.mpr ⟨lw_p28, List.forall_mem_cons.mpr ⟨lw_p29, List.forall_mem_cons.mpr ⟨lw_p30, List.forall_mem_cons.mpr ⟨lw_p31, fun _ h => absurd h List.not_mem_nil⟩⟩⟩⟩⟩⟩⟩⟩⟩⟩⟩⟩⟩⟩⟩⟩
theorem lw_p32 : lw_okq (⟨"FieldsByDotsModel", "howOf", "(II)I"⟩, 28) := ⟨⟨by decide +kernel, by decide +kernel⟩, List.mem_of_getElem? (i := 581) (by decide +kernel), List.mem_of_getElem? (i := 789) (by decide +kernel), List.mem_of_getElem? (i := 790) (by decide +kernel)⟩
theorem lw_p33 : lw_okq (⟨"FieldsByDotsModel", "area", "(I)I"⟩, 28) := ⟨⟨by decide +kernel, by decide +kernel⟩, List.mem_of_getElem? (i := 581) (by decide +kernel), List.mem_of_getElem? (i := 793) (by decide +kernel), List.mem_of_getElem? (i := 794) (by decide +kernel)⟩
theorem lw_p34 : lw_okq (⟨"FieldsByDotsModel", "areaOf", "(III)I"⟩, 28) := ⟨⟨by decide +kernel, by decide +kernel⟩, List.mem_of_getElem? (i := 581) (by decide +kernel), List.mem_of_getElem? (i := 797) (by decide +kernel), List.mem_of_getElem? (i := 798) (by decide +kernel)⟩
theorem lw_p35 : lw_okq (⟨"FieldsByDotsModel", "widthOf", "(III)I"⟩, 28) := ⟨⟨by decide +kernel, by decide +kernel⟩, List.mem_of_getElem? (i := 581) (by decide +kernel), List.mem_of_getElem? (i := 807) (by decide +kernel), List.mem_of_getElem? (i := 808) (by decide +kernel)⟩
theorem lw_p36 : lw_okq (⟨"FieldsByDotsModel", "fenceDots", "(I)I"⟩, 28) := ⟨⟨by decide +kernel, by decide +kernel⟩, List.mem_of_getElem? (i := 581) (by decide +kernel), List.mem_of_getElem? (i := 830) (by decide +kernel), List.mem_of_getElem? (i := 831) (by decide +kernel)⟩
theorem lw_p37 : lw_okq (⟨"FieldsByDotsModel", "nextHull", "(II)I"⟩, 28) := ⟨⟨by decide +kernel, by decide +kernel⟩, List.mem_of_getElem? (i := 581) (by decide +kernel), List.mem_of_getElem? (i := 839) (by decide +kernel), List.mem_of_getElem? (i := 840) (by decide +kernel)⟩
theorem lw_p38 : lw_okq (⟨"FieldsByDotsModel", "long2", "(II)I"⟩, 28) := ⟨⟨by decide +kernel, by decide +kernel⟩, List.mem_of_getElem? (i := 581) (by decide +kernel), List.mem_of_getElem? (i := 843) (by decide +kernel), List.mem_of_getElem? (i := 844) (by decide +kernel)⟩
theorem lw_p39 : lw_okq (⟨"FieldsByDotsModel", "areTwo", "(III)Z"⟩, 28) := ⟨⟨by decide +kernel, by decide +kernel⟩, List.mem_of_getElem? (i := 581) (by decide +kernel), List.mem_of_getElem? (i := 851) (by decide +kernel), List.mem_of_getElem? (i := 852) (by decide +kernel)⟩
theorem lw_p40 : lw_okq (⟨"FieldsByDotsModel", "isSight", "(III)Z"⟩, 28) := ⟨⟨by decide +kernel, by decide +kernel⟩, List.mem_of_getElem? (i := 581) (by decide +kernel), List.mem_of_getElem? (i := 855) (by decide +kernel), List.mem_of_getElem? (i := 856) (by decide +kernel)⟩
theorem lw_p41 : lw_okq (⟨"FieldsByDotsModel", "addMeet", "(II)V"⟩, 28) := ⟨⟨by decide +kernel, by decide +kernel⟩, List.mem_of_getElem? (i := 581) (by decide +kernel), List.mem_of_getElem? (i := 859) (by decide +kernel), List.mem_of_getElem? (i := 860) (by decide +kernel)⟩
theorem lw_p42 : lw_okq (⟨"FieldsByDotsModel", "layMeet", "(IIII)V"⟩, 28) := ⟨⟨by decide +kernel, by decide +kernel⟩, List.mem_of_getElem? (i := 581) (by decide +kernel), List.mem_of_getElem? (i := 863) (by decide +kernel), List.mem_of_getElem? (i := 864) (by decide +kernel)⟩
theorem lw_p43 : lw_okq (⟨"FieldsByDotsModel", "partOf", "(III)I"⟩, 28) := ⟨⟨by decide +kernel, by decide +kernel⟩, List.mem_of_getElem? (i := 581) (by decide +kernel), List.mem_of_getElem? (i := 867) (by decide +kernel), List.mem_of_getElem? (i := 868) (by decide +kernel)⟩
theorem lw_p44 : lw_okq (⟨"FieldsByDotsModel", "isStrip", "(III)Z"⟩, 28) := ⟨⟨by decide +kernel, by decide +kernel⟩, List.mem_of_getElem? (i := 581) (by decide +kernel), List.mem_of_getElem? (i := 875) (by decide +kernel), List.mem_of_getElem? (i := 876) (by decide +kernel)⟩
theorem lw_p45 : lw_okq (⟨"FieldsByDotsModel", "isAlong", "(IIII)Z"⟩, 28) := ⟨⟨by decide +kernel, by decide +kernel⟩, List.mem_of_getElem? (i := 581) (by decide +kernel), List.mem_of_getElem? (i := 879) (by decide +kernel), List.mem_of_getElem? (i := 880) (by decide +kernel)⟩
theorem lw_p46 : lw_okq (⟨"FieldsByDotsModel", "layStrips", "(I)I"⟩, 28) := ⟨⟨by decide +kernel, by decide +kernel⟩, List.mem_of_getElem? (i := 581) (by decide +kernel), List.mem_of_getElem? (i := 887) (by decide +kernel), List.mem_of_getElem? (i := 888) (by decide +kernel)⟩
theorem lw_p47 : lw_okq (⟨"FieldsByDotsModel", "layCuts", "(I)V"⟩, 28) := ⟨⟨by decide +kernel, by decide +kernel⟩, List.mem_of_getElem? (i := 581) (by decide +kernel), List.mem_of_getElem? (i := 891) (by decide +kernel), List.mem_of_getElem? (i := 892) (by decide +kernel)⟩
def lw_privs_3 : List (MethodName × Nat) := [(⟨"FieldsByDotsModel", "howOf", "(II)I"⟩, 28), (⟨"FieldsByDotsModel", "area", "(I)I"⟩, 28), (⟨"FieldsByDotsModel", "areaOf", "(III)I"⟩, 28), (⟨"FieldsByDotsModel", "widthOf", "(III)I"⟩, 28), (⟨"FieldsByDotsModel", "fenceDots", "(I)I"⟩, 28), (⟨"FieldsByDotsModel", "nextHull", "(II)I"⟩, 28), (⟨"FieldsByDotsModel", "long2", "(II)I"⟩, 28), (⟨"FieldsByDotsModel", "areTwo", "(III)Z"⟩, 28), (⟨"FieldsByDotsModel", "isSight", "(III)Z"⟩, 28), (⟨"FieldsByDotsModel", "addMeet", "(II)V"⟩, 28), (⟨"FieldsByDotsModel", "layMeet", "(IIII)V"⟩, 28), (⟨"FieldsByDotsModel", "partOf", "(III)I"⟩, 28), (⟨"FieldsByDotsModel", "isStrip", "(III)Z"⟩, 28), (⟨"FieldsByDotsModel", "isAlong", "(IIII)Z"⟩, 28), (⟨"FieldsByDotsModel", "layStrips", "(I)I"⟩, 28), (⟨"FieldsByDotsModel", "layCuts", "(I)V"⟩, 28)]
theorem lw_r3 : ∀ q ∈ lw_privs_3, lw_okq q := List.forall_mem_cons.mpr ⟨lw_p32, List.forall_mem_cons.mpr ⟨lw_p33, List.forall_mem_cons.mpr ⟨lw_p34, List.forall_mem_cons.mpr ⟨lw_p35, List.forall_mem_cons.mpr ⟨lw_p36, List.forall_mem_cons.mpr ⟨lw_p37, List.forall_mem_cons.mpr ⟨lw_p38, List.forall_mem_cons.mpr ⟨lw_p39, List.forall_mem_cons.mpr ⟨lw_p40, List.forall_mem_cons.mpr ⟨lw_p41, List.forall_mem_cons.mpr ⟨lw_p42, List.forall_mem_cons.mpr ⟨lw_p43, List.forall_mem_cons.mpr ⟨lw_p44, List.forall_mem_cons.mpr ⟨lw_p45, List.forall_mem_cons.mpr ⟨lw_p46, List.forall_mem_cons.mpr ⟨lw_p47, fun _ h => absurd h List.not_mem_nil⟩⟩⟩⟩⟩⟩⟩⟩⟩⟩⟩⟩⟩⟩⟩⟩
theorem lw_p48 : lw_okq (⟨"FieldsByDotsModel", "layLeast", "(I)I"⟩, 28) := ⟨⟨by decide +kernel, by decide +kernel⟩, List.mem_of_getElem? (i := 581) (by decide +kernel), List.mem_of_getElem? (i := 899) (by decide +kernel), List.mem_of_getElem? (i := 900) (by decide +kernel)⟩
theorem lw_p49 : lw_okq (⟨"FieldsByDotsModel", "sidesOf", "(III)I"⟩, 28) := ⟨⟨by decide +kernel, by decide +kernel⟩, List.mem_of_getElem? (i := 581) (by decide +kernel), List.mem_of_getElem? (i := 910) (by decide +kernel), List.mem_of_getElem? (i := 911) (by decide +kernel)⟩
theorem lw_p50 : lw_okq (⟨"FieldsByDotsModel", "laySeen", "(I)V"⟩, 28) := ⟨⟨by decide +kernel, by decide +kernel⟩, List.mem_of_getElem? (i := 581) (by decide +kernel), List.mem_of_getElem? (i := 922) (by decide +kernel), List.mem_of_getElem? (i := 923) (by decide +kernel)⟩
theorem lw_p51 : lw_okq (⟨"FieldsByDotsModel", "isLike", "(III)Z"⟩, 28) := ⟨⟨by decide +kernel, by decide +kernel⟩, List.mem_of_getElem? (i := 581) (by decide +kernel), List.mem_of_getElem? (i := 937) (by decide +kernel), List.mem_of_getElem? (i := 938) (by decide +kernel)⟩
theorem lw_p52 : lw_okq (⟨"FieldsByDotsModel", "isMap", "(IIIII)Z"⟩, 28) := ⟨⟨by decide +kernel, by decide +kernel⟩, List.mem_of_getElem? (i := 581) (by decide +kernel), List.mem_of_getElem? (i := 941) (by decide +kernel), List.mem_of_getElem? (i := 942) (by decide +kernel)⟩
theorem lw_p53 : lw_okq (⟨"FieldsByDotsModel", "corners", "()I"⟩, 28) := ⟨⟨by decide +kernel, by decide +kernel⟩, List.mem_of_getElem? (i := 581) (by decide +kernel), List.mem_of_getElem? (i := 957) (by decide +kernel), List.mem_of_getElem? (i := 958) (by decide +kernel)⟩
def lw_privs_4 : List (MethodName × Nat) := [(⟨"FieldsByDotsModel", "layLeast", "(I)I"⟩, 28), (⟨"FieldsByDotsModel", "sidesOf", "(III)I"⟩, 28), (⟨"FieldsByDotsModel", "laySeen", "(I)V"⟩, 28), (⟨"FieldsByDotsModel", "isLike", "(III)Z"⟩, 28), (⟨"FieldsByDotsModel", "isMap", "(IIIII)Z"⟩, 28), (⟨"FieldsByDotsModel", "corners", "()I"⟩, 28)]
theorem lw_r4 : ∀ q ∈ lw_privs_4, lw_okq q := List.forall_mem_cons.mpr ⟨lw_p48, List.forall_mem_cons.mpr ⟨lw_p49, List.forall_mem_cons.mpr ⟨lw_p50, List.forall_mem_cons.mpr ⟨lw_p51, List.forall_mem_cons.mpr ⟨lw_p52, List.forall_mem_cons.mpr ⟨lw_p53, fun _ h => absurd h List.not_mem_nil⟩⟩⟩⟩⟩⟩
def lw_privs : List (MethodName × Nat) := lw_privs_1 ++ (lw_privs_2 ++ (lw_privs_3 ++ (lw_privs_4)))
def lw_tbl : List Cond := k2_sels lw_privs ++ tables_1
theorem lw_privs_ok : ∀ q ∈ lw_privs, lw_okq q := by
  show ∀ q ∈ lw_privs_1 ++ (lw_privs_2 ++ (lw_privs_3 ++ (lw_privs_4))), lw_okq q
  exact List.forall_mem_append.mpr ⟨lw_r1, List.forall_mem_append.mpr ⟨lw_r2, List.forall_mem_append.mpr ⟨lw_r3, lw_r4⟩⟩⟩

def RX0 : String := "FieldsByDots$Cuts"
def TX0 : u_T := fun k => match k with
  | 0 => ("FieldsByDots$Cuts", "ways", "[I", true)
  | 1 => ("FieldsByDots$Cuts", "leastLongs", "[I", true)
  | 2 => ("FieldsByDots$Cuts", "firstSets", "[J", true)
  | _ => ("FieldsByDots$Cuts", "size", "I", false)
def tyX0 : Nat → FieldType := fun k => match k with
  | 0 => .array .int
  | 1 => .array .int
  | 2 => .array .long
  | _ => .int
abbrev wsX00 : List Cond := u_ws RX0 TX0 4
theorem nmX0 : ∀ a, a < 4 → ∀ b, b < 4 → a ≠ b → (TX0 a).2.1 ≠ (TX0 b).2.1 := by decide +kernel
theorem tyX0_ok : ∀ k, k < 4 → parseFieldDescriptor (TX0 k).2.2.1 = some (tyX0 k) := by decide +kernel
abbrev cX0_init : ByteArray := prog_2_method_1_code
def yX0_init : MethodName := ⟨RX0, "<init>", "()V"⟩
abbrev cX0_plan : ByteArray := prog_2_method_2_code
def yX0_plan : MethodName := ⟨RX0, "plan", "(LFieldsByDots$Outline;LFieldsByDots$Sights;)V"⟩
abbrev cX0_planPart : ByteArray := prog_2_method_3_code
def yX0_planPart : MethodName := ⟨RX0, "planPart", "(IIZ)V"⟩
abbrev cX0_addStrip : ByteArray := prog_2_method_4_code
def yX0_addStrip : MethodName := ⟨RX0, "addStrip", "(III)V"⟩
abbrev cX0_planTip : ByteArray := prog_2_method_5_code
def yX0_planTip : MethodName := ⟨RX0, "planTip", "(III)V"⟩
abbrev cX0_bitOf : ByteArray := prog_2_method_6_code
def yX0_bitOf : MethodName := ⟨RX0, "bitOf", "(II)J"⟩
abbrev cX0_whole : ByteArray := prog_2_method_7_code
def yX0_whole : MethodName := ⟨RX0, "whole", "()I"⟩
abbrev cX0_allWays : ByteArray := prog_2_method_8_code
def yX0_allWays : MethodName := ⟨RX0, "allWays", "()I"⟩
abbrev cX0_leastLong : ByteArray := prog_2_method_9_code
def yX0_leastLong : MethodName := ⟨RX0, "leastLong", "()I"⟩
abbrev cX0_stripOfFirst : ByteArray := prog_2_method_10_code
def yX0_stripOfFirst : MethodName := ⟨RX0, "stripOfFirst", "(I)I"⟩
def RX1 : String := "FieldsByDots$Likeness"
def TX1 : u_T := fun k => match k with
  | _ => ("FieldsByDots$Likeness", "arranged", "LFieldsByDots$Outline;", true)
def tyX1 : Nat → FieldType := fun k => match k with
  | _ => .object "FieldsByDots$Outline"
abbrev wsX10 : List Cond := u_ws RX1 TX1 1
theorem nmX1 : ∀ a, a < 1 → ∀ b, b < 1 → a ≠ b → (TX1 a).2.1 ≠ (TX1 b).2.1 := by decide +kernel
theorem tyX1_ok : ∀ k, k < 1 → parseFieldDescriptor (TX1 k).2.2.1 = some (tyX1 k) := by decide +kernel
abbrev cX1_init : ByteArray := prog_3_method_1_code
def yX1_init : MethodName := ⟨RX1, "<init>", "()V"⟩
abbrev cX1_isFound : ByteArray := prog_3_method_2_code
def yX1_isFound : MethodName := ⟨RX1, "isFound", "(LFieldsByDots$Outline;LFieldsByDots$Outline;I)Z"⟩
abbrev cX1_arrange : ByteArray := prog_3_method_3_code
def yX1_arrange : MethodName := ⟨RX1, "arrange", "(LFieldsByDots$Outline;IZ)V"⟩
abbrev cX1_isMapped : ByteArray := prog_3_method_4_code
def yX1_isMapped : MethodName := ⟨RX1, "isMapped", "(LFieldsByDots$Outline;I)Z"⟩
abbrev cX1_isRowMapped : ByteArray := prog_3_method_5_code
def yX1_isRowMapped : MethodName := ⟨RX1, "isRowMapped", "(LFieldsByDots$Outline;[II)Z"⟩
def RX2 : String := "FieldsByDots$Outline"
def TX2 : u_T := fun k => match k with
  | 0 => ("FieldsByDots$Outline", "xs", "[I", true)
  | 1 => ("FieldsByDots$Outline", "ys", "[I", true)
  | _ => ("FieldsByDots$Outline", "size", "I", false)
def tyX2 : Nat → FieldType := fun k => match k with
  | 0 => .array .int
  | 1 => .array .int
  | _ => .int
abbrev wsX20 : List Cond := u_ws RX2 TX2 3
theorem nmX2 : ∀ a, a < 3 → ∀ b, b < 3 → a ≠ b → (TX2 a).2.1 ≠ (TX2 b).2.1 := by decide +kernel
theorem tyX2_ok : ∀ k, k < 3 → parseFieldDescriptor (TX2 k).2.2.1 = some (tyX2 k) := by decide +kernel
abbrev cX2_init : ByteArray := prog_4_method_1_code
def yX2_init : MethodName := ⟨RX2, "<init>", "()V"⟩
abbrev cX2_has : ByteArray := prog_4_method_2_code
def yX2_has : MethodName := ⟨RX2, "has", "(I)Z"⟩
abbrev cX2_cornerAt : ByteArray := prog_4_method_3_code
def yX2_cornerAt : MethodName := ⟨RX2, "cornerAt", "(II)I"⟩
abbrev cX2_copyFrom : ByteArray := prog_4_method_4_code
def yX2_copyFrom : MethodName := ⟨RX2, "copyFrom", "(LFieldsByDots$Outline;)V"⟩
abbrev cX2_insert : ByteArray := prog_4_method_5_code
def yX2_insert : MethodName := ⟨RX2, "insert", "(III)V"⟩
abbrev cX2_remove : ByteArray := prog_4_method_6_code
def yX2_remove : MethodName := ⟨RX2, "remove", "(I)V"⟩
abbrev cX2_mirrorLeftToRight : ByteArray := prog_4_method_7_code
def yX2_mirrorLeftToRight : MethodName := ⟨RX2, "mirrorLeftToRight", "()V"⟩
abbrev cX2_turnQuarterLeft : ByteArray := prog_4_method_8_code
def yX2_turnQuarterLeft : MethodName := ⟨RX2, "turnQuarterLeft", "()V"⟩
abbrev cX2_staysOnDots : ByteArray := prog_4_method_9_code
def yX2_staysOnDots : MethodName := ⟨RX2, "staysOnDots", "(II)Z"⟩
abbrev cX2_shiftBy : ByteArray := prog_4_method_10_code
def yX2_shiftBy : MethodName := ⟨RX2, "shiftBy", "(II)V"⟩
abbrev cX2_next : ByteArray := prog_4_method_11_code
def yX2_next : MethodName := ⟨RX2, "next", "(I)I"⟩
abbrev cX2_previous : ByteArray := prog_4_method_12_code
def yX2_previous : MethodName := ⟨RX2, "previous", "(I)I"⟩
abbrev cX2_sideOf : ByteArray := prog_4_method_13_code
def yX2_sideOf : MethodName := ⟨RX2, "sideOf", "(III)I"⟩
abbrev cX2_spreadAt : ByteArray := prog_4_method_14_code
def yX2_spreadAt : MethodName := ⟨RX2, "spreadAt", "(III)I"⟩
abbrev cX2_isBetween : ByteArray := prog_4_method_15_code
def yX2_isBetween : MethodName := ⟨RX2, "isBetween", "(III)Z"⟩
abbrev cX2_isCrossing : ByteArray := prog_4_method_16_code
def yX2_isCrossing : MethodName := ⟨RX2, "isCrossing", "(IIII)Z"⟩
abbrev cX2_isSound : ByteArray := prog_4_method_17_code
def yX2_isSound : MethodName := ⟨RX2, "isSound", "()Z"⟩
abbrev cX2_isFoldedAt : ByteArray := prog_4_method_18_code
def yX2_isFoldedAt : MethodName := ⟨RX2, "isFoldedAt", "(I)Z"⟩
abbrev cX2_isTouching : ByteArray := prog_4_method_19_code
def yX2_isTouching : MethodName := ⟨RX2, "isTouching", "(II)Z"⟩
abbrev cX2_signedArea : ByteArray := prog_4_method_20_code
def yX2_signedArea : MethodName := ⟨RX2, "signedArea", "()I"⟩
abbrev cX2_signedAreaOf : ByteArray := prog_4_method_21_code
def yX2_signedAreaOf : MethodName := ⟨RX2, "signedAreaOf", "(II)I"⟩
abbrev cX2_unlikenessOfSides : ByteArray := prog_4_method_22_code
def yX2_unlikenessOfSides : MethodName := ⟨RX2, "unlikenessOfSides", "(II)I"⟩
abbrev cX2_fenceDots : ByteArray := prog_4_method_23_code
def yX2_fenceDots : MethodName := ⟨RX2, "fenceDots", "()I"⟩
abbrev cX2_innerDots : ByteArray := prog_4_method_24_code
def yX2_innerDots : MethodName := ⟨RX2, "innerDots", "()I"⟩
abbrev cX2_bendAt : ByteArray := prog_4_method_25_code
def yX2_bendAt : MethodName := ⟨RX2, "bendAt", "(I)I"⟩
abbrev cX2_cornersThat : ByteArray := prog_4_method_26_code
def yX2_cornersThat : MethodName := ⟨RX2, "cornersThat", "(I)I"⟩
abbrev cX2_widthBy : ByteArray := prog_4_method_27_code
def yX2_widthBy : MethodName := ⟨RX2, "widthBy", "(II)I"⟩
abbrev cX2_placeOf : ByteArray := prog_4_method_28_code
def yX2_placeOf : MethodName := ⟨RX2, "placeOf", "(II)I"⟩
abbrev cX2_isInOneLine : ByteArray := prog_4_method_29_code
def yX2_isInOneLine : MethodName := ⟨RX2, "isInOneLine", "()Z"⟩
abbrev cX2_hullInto : ByteArray := prog_4_method_30_code
def yX2_hullInto : MethodName := ⟨RX2, "hullInto", "(LFieldsByDots$Outline;)V"⟩
abbrev cX2_rightmostFrom : ByteArray := prog_4_method_31_code
def yX2_rightmostFrom : MethodName := ⟨RX2, "rightmostFrom", "(I)I"⟩
abbrev cX2_isSeen : ByteArray := prog_4_method_32_code
def yX2_isSeen : MethodName := ⟨RX2, "isSeen", "(II)Z"⟩
abbrev cX2_isStrip : ByteArray := prog_4_method_33_code
def yX2_isStrip : MethodName := ⟨RX2, "isStrip", "(II)Z"⟩
abbrev cX2_nearestToward : ByteArray := prog_4_method_34_code
def yX2_nearestToward : MethodName := ⟨RX2, "nearestToward", "(II)I"⟩
abbrev cX2_isCrossed : ByteArray := prog_4_method_35_code
def yX2_isCrossed : MethodName := ⟨RX2, "isCrossed", "(II)Z"⟩
abbrev cX2_placeOfMiddle : ByteArray := prog_4_method_36_code
def yX2_placeOfMiddle : MethodName := ⟨RX2, "placeOfMiddle", "(II)I"⟩
abbrev cX2_longBy : ByteArray := prog_4_method_37_code
def yX2_longBy : MethodName := ⟨RX2, "longBy", "(II)I"⟩
def RX3 : String := "FieldsByDots$Sights"
def TX3 : u_T := fun k => match k with
  | 0 => ("FieldsByDots$Sights", "seen", "[I", true)
  | 1 => ("FieldsByDots$Sights", "strips", "[I", true)
  | _ => ("FieldsByDots$Sights", "size", "I", false)
def tyX3 : Nat → FieldType := fun k => match k with
  | 0 => .array .int
  | 1 => .array .int
  | _ => .int
abbrev wsX30 : List Cond := u_ws RX3 TX3 3
theorem nmX3 : ∀ a, a < 3 → ∀ b, b < 3 → a ≠ b → (TX3 a).2.1 ≠ (TX3 b).2.1 := by decide +kernel
theorem tyX3_ok : ∀ k, k < 3 → parseFieldDescriptor (TX3 k).2.2.1 = some (tyX3 k) := by decide +kernel
abbrev cX3_init : ByteArray := prog_5_method_1_code
def yX3_init : MethodName := ⟨RX3, "<init>", "()V"⟩
abbrev cX3_lookAt : ByteArray := prog_5_method_2_code
def yX3_lookAt : MethodName := ⟨RX3, "lookAt", "(LFieldsByDots$Outline;)V"⟩
abbrev cX3_hasStrip : ByteArray := prog_5_method_3_code
def yX3_hasStrip : MethodName := ⟨RX3, "hasStrip", "(II)Z"⟩
abbrev cX3_stripNumber : ByteArray := prog_5_method_4_code
def yX3_stripNumber : MethodName := ⟨RX3, "stripNumber", "()I"⟩
abbrev cX3_withSeen : ByteArray := prog_5_method_5_code
def yX3_withSeen : MethodName := ⟨RX3, "withSeen", "(I)I"⟩
abbrev cX3_fewestThatSeeAll : ByteArray := prog_5_method_6_code
def yX3_fewestThatSeeAll : MethodName := ⟨RX3, "fewestThatSeeAll", "()I"⟩
abbrev cX3_stepsBetween : ByteArray := prog_5_method_7_code
def yX3_stepsBetween : MethodName := ⟨RX3, "stepsBetween", "(II)I"⟩
def RX4 : String := "FieldsByDots$Text"
def TX4 : u_T := fun k => match k with
  | 0 => ("FieldsByDots$Text", "bytes", "[I", true)
  | _ => ("FieldsByDots$Text", "length", "I", false)
def tyX4 : Nat → FieldType := fun k => match k with
  | 0 => .array .int
  | _ => .int
abbrev wsX40 : List Cond := u_ws RX4 TX4 2
theorem nmX4 : ∀ a, a < 2 → ∀ b, b < 2 → a ≠ b → (TX4 a).2.1 ≠ (TX4 b).2.1 := by decide +kernel
theorem tyX4_ok : ∀ k, k < 2 → parseFieldDescriptor (TX4 k).2.2.1 = some (tyX4 k) := by decide +kernel
abbrev cX4_init : ByteArray := prog_6_method_1_code
def yX4_init : MethodName := ⟨RX4, "<init>", "()V"⟩
abbrev cX4_append : ByteArray := prog_6_method_2_code
def yX4_append : MethodName := ⟨RX4, "append", "(IJ)V"⟩
abbrev cX4_firstFault : ByteArray := prog_6_method_3_code
def yX4_firstFault : MethodName := ⟨RX4, "firstFault", "()I"⟩
abbrev cX4_isFaulty : ByteArray := prog_6_method_4_code
def yX4_isFaulty : MethodName := ⟨RX4, "isFaulty", "(I)Z"⟩
abbrev cX4_isToldBefore : ByteArray := prog_6_method_5_code
def yX4_isToldBefore : MethodName := ⟨RX4, "isToldBefore", "(I)Z"⟩
abbrev cX4_valueOf : ByteArray := prog_6_method_6_code
def yX4_valueOf : MethodName := ⟨RX4, "valueOf", "(I)I"⟩
abbrev cX4_tellInto : ByteArray := prog_6_method_7_code
def yX4_tellInto : MethodName := ⟨RX4, "tellInto", "(LFieldsByDots$Outline;)V"⟩
def RX5 : String := "FieldsByDots"
def TX5 : u_T := fun k => match k with
  | 0 => ("FieldsByDots", "text", "LFieldsByDots$Text;", true)
  | 1 => ("FieldsByDots", "fields", "[LFieldsByDots$Outline;", true)
  | 2 => ("FieldsByDots", "kept", "[LFieldsByDots$Outline;", true)
  | 3 => ("FieldsByDots", "isKept", "[Z", true)
  | 4 => ("FieldsByDots", "spare", "LFieldsByDots$Outline;", true)
  | 5 => ("FieldsByDots", "sights", "LFieldsByDots$Sights;", true)
  | 6 => ("FieldsByDots", "cuts", "LFieldsByDots$Cuts;", true)
  | _ => ("FieldsByDots", "likeness", "LFieldsByDots$Likeness;", true)
def tyX5 : Nat → FieldType := fun k => match k with
  | 0 => .object "FieldsByDots$Text"
  | 1 => .array (.object "FieldsByDots$Outline")
  | 2 => .array (.object "FieldsByDots$Outline")
  | 3 => .array .boolean
  | 4 => .object "FieldsByDots$Outline"
  | 5 => .object "FieldsByDots$Sights"
  | 6 => .object "FieldsByDots$Cuts"
  | _ => .object "FieldsByDots$Likeness"
abbrev wsX50 : List Cond := u_ws RX5 TX5 8
theorem nmX5 : ∀ a, a < 8 → ∀ b, b < 8 → a ≠ b → (TX5 a).2.1 ≠ (TX5 b).2.1 := by decide +kernel
theorem tyX5_ok : ∀ k, k < 8 → parseFieldDescriptor (TX5 k).2.2.1 = some (tyX5 k) := by decide +kernel
abbrev cX5_init : ByteArray := prog_1_method_1_code
def yX5_init : MethodName := ⟨RX5, "<init>", "()V"⟩
abbrev cX5_write : ByteArray := prog_1_method_2_code
def yX5_write : MethodName := ⟨RX5, "write", "(IJ)I"⟩
abbrev cX5_wipe : ByteArray := prog_1_method_3_code
def yX5_wipe : MethodName := ⟨RX5, "wipe", "()I"⟩
abbrev cX5_fault : ByteArray := prog_1_method_4_code
def yX5_fault : MethodName := ⟨RX5, "fault", "()I"⟩
abbrev cX5_field : ByteArray := prog_1_method_5_code
def yX5_field : MethodName := ⟨RX5, "field", "(I)I"⟩
abbrev cX5_corner : ByteArray := prog_1_method_6_code
def yX5_corner : MethodName := ⟨RX5, "corner", "(III)I"⟩
abbrev cX5_move : ByteArray := prog_1_method_7_code
def yX5_move : MethodName := ⟨RX5, "move", "(IIII)I"⟩
abbrev cX5_put : ByteArray := prog_1_method_8_code
def yX5_put : MethodName := ⟨RX5, "put", "(IIII)I"⟩
abbrev cX5_take : ByteArray := prog_1_method_9_code
def yX5_take : MethodName := ⟨RX5, "take", "(II)I"⟩
abbrev cX5_turn : ByteArray := prog_1_method_10_code
def yX5_turn : MethodName := ⟨RX5, "turn", "(II)I"⟩
abbrev cX5_shift : ByteArray := prog_1_method_11_code
def yX5_shift : MethodName := ⟨RX5, "shift", "(III)I"⟩
abbrev cX5_sound : ByteArray := prog_1_method_12_code
def yX5_sound : MethodName := ⟨RX5, "sound", "(I)I"⟩
abbrev cX5_about : ByteArray := prog_1_method_13_code
def yX5_about : MethodName := ⟨RX5, "about", "(II)I"⟩
abbrev cX5_where : ByteArray := prog_1_method_14_code
def yX5_where : MethodName := ⟨RX5, "where", "(III)I"⟩
abbrev cX5_how : ByteArray := prog_1_method_15_code
def yX5_how : MethodName := ⟨RX5, "how", "(II)I"⟩
abbrev cX5_wide : ByteArray := prog_1_method_16_code
def yX5_wide : MethodName := ⟨RX5, "wide", "(III)I"⟩
abbrev cX5_narrow : ByteArray := prog_1_method_17_code
def yX5_narrow : MethodName := ⟨RX5, "narrow", "(II)I"⟩
abbrev cX5_grown : ByteArray := prog_1_method_18_code
def yX5_grown : MethodName := ⟨RX5, "grown", "(II)J"⟩
abbrev cX5_hull : ByteArray := prog_1_method_19_code
def yX5_hull : MethodName := ⟨RX5, "hull", "(II)I"⟩
abbrev cX5_sees : ByteArray := prog_1_method_20_code
def yX5_sees : MethodName := ⟨RX5, "sees", "(III)I"⟩
abbrev cX5_strip : ByteArray := prog_1_method_21_code
def yX5_strip : MethodName := ⟨RX5, "strip", "(III)I"⟩
abbrev cX5_least : ByteArray := prog_1_method_22_code
def yX5_least : MethodName := ⟨RX5, "least", "(II)I"⟩
abbrev cX5_fair : ByteArray := prog_1_method_23_code
def yX5_fair : MethodName := ⟨RX5, "fair", "(I)I"⟩
abbrev cX5_sides : ByteArray := prog_1_method_24_code
def yX5_sides : MethodName := ⟨RX5, "sides", "(III)I"⟩
abbrev cX5_guards : ByteArray := prog_1_method_25_code
def yX5_guards : MethodName := ⟨RX5, "guards", "(I)I"⟩
abbrev cX5_hops : ByteArray := prog_1_method_26_code
def yX5_hops : MethodName := ⟨RX5, "hops", "(III)I"⟩
abbrev cX5_alike : ByteArray := prog_1_method_27_code
def yX5_alike : MethodName := ⟨RX5, "alike", "(II)I"⟩
abbrev cX5_mirrored : ByteArray := prog_1_method_28_code
def yX5_mirrored : MethodName := ⟨RX5, "mirrored", "(II)I"⟩
abbrev cX5_common : ByteArray := prog_1_method_29_code
def yX5_common : MethodName := ⟨RX5, "common", "(II)I"⟩
abbrev cX5_keep : ByteArray := prog_1_method_30_code
def yX5_keep : MethodName := ⟨RX5, "keep", "(I)I"⟩
abbrev cX5_again : ByteArray := prog_1_method_31_code
def yX5_again : MethodName := ⟨RX5, "again", "(I)I"⟩
abbrev cX5_count : ByteArray := prog_1_method_32_code
def yX5_count : MethodName := ⟨RX5, "count", "(I)I"⟩
abbrev cX5_isField : ByteArray := prog_1_method_33_code
def yX5_isField : MethodName := ⟨RX5, "isField", "(I)Z"⟩
abbrev cX5_isDot : ByteArray := prog_1_method_34_code
def yX5_isDot : MethodName := ⟨RX5, "isDot", "(II)Z"⟩
abbrev cX5_isSlant : ByteArray := prog_1_method_35_code
def yX5_isSlant : MethodName := ⟨RX5, "isSlant", "(II)Z"⟩
abbrev cX5_isCorner : ByteArray := prog_1_method_36_code
def yX5_isCorner : MethodName := ⟨RX5, "isCorner", "(II)Z"⟩
abbrev cX5_isPair : ByteArray := prog_1_method_37_code
def yX5_isPair : MethodName := ⟨RX5, "isPair", "(III)Z"⟩
abbrev cX5_refusalOfTwo : ByteArray := prog_1_method_38_code
def yX5_refusalOfTwo : MethodName := ⟨RX5, "refusalOfTwo", "(II)I"⟩
abbrev cX5_aboutShape : ByteArray := prog_1_method_39_code
def yX5_aboutShape : MethodName := ⟨RX5, "aboutShape", "(LFieldsByDots$Outline;I)I"⟩
abbrev cX5_aboutCuts : ByteArray := prog_1_method_40_code
def yX5_aboutCuts : MethodName := ⟨RX5, "aboutCuts", "(LFieldsByDots$Outline;I)I"⟩
abbrev cX5_narrowest : ByteArray := prog_1_method_41_code
def yX5_narrowest : MethodName := ⟨RX5, "narrowest", "(LFieldsByDots$Outline;I)I"⟩
abbrev cX5_fairest : ByteArray := prog_1_method_42_code
def yX5_fairest : MethodName := ⟨RX5, "fairest", "(LFieldsByDots$Outline;)I"⟩
abbrev cX5_allCorners : ByteArray := prog_1_method_43_code
def yX5_allCorners : MethodName := ⟨RX5, "allCorners", "()I"⟩
abbrev cX5_soundFields : ByteArray := prog_1_method_44_code
def yX5_soundFields : MethodName := ⟨RX5, "soundFields", "()I"⟩
abbrev cX5_commonDivisor : ByteArray := prog_1_method_45_code
def yX5_commonDivisor : MethodName := ⟨RX5, "commonDivisor", "(II)I"⟩
def RX6 : String := "FieldsByDotsModel"
def TX6 : u_T := fun k => match k with
  | 0 => ("FieldsByDotsModel", "text", "[I", true)
  | 1 => ("FieldsByDotsModel", "length", "I", false)
  | 2 => ("FieldsByDotsModel", "readX", "[I", true)
  | 3 => ("FieldsByDotsModel", "readY", "[I", true)
  | 4 => ("FieldsByDotsModel", "readMany", "I", false)
  | 5 => ("FieldsByDotsModel", "xs", "[I", true)
  | 6 => ("FieldsByDotsModel", "ys", "[I", true)
  | 7 => ("FieldsByDotsModel", "many", "[I", true)
  | 8 => ("FieldsByDotsModel", "hullX", "[I", true)
  | 9 => ("FieldsByDotsModel", "hullY", "[I", true)
  | 10 => ("FieldsByDotsModel", "up", "[I", true)
  | 11 => ("FieldsByDotsModel", "down", "[I", true)
  | 12 => ("FieldsByDotsModel", "meets", "I", false)
  | 13 => ("FieldsByDotsModel", "strips", "[Z", true)
  | 14 => ("FieldsByDotsModel", "isOpen", "[Z", true)
  | 15 => ("FieldsByDotsModel", "cuts", "[I", true)
  | 16 => ("FieldsByDotsModel", "costs", "[I", true)
  | 17 => ("FieldsByDotsModel", "chosen", "[I", true)
  | 18 => ("FieldsByDotsModel", "seen", "[I", true)
  | 19 => ("FieldsByDotsModel", "mapA", "I", false)
  | 20 => ("FieldsByDotsModel", "mapB", "I", false)
  | 21 => ("FieldsByDotsModel", "mapC", "I", false)
  | 22 => ("FieldsByDotsModel", "mapD", "I", false)
  | 23 => ("FieldsByDotsModel", "mapBy", "I", false)
  | 24 => ("FieldsByDotsModel", "isKept", "[Z", true)
  | 25 => ("FieldsByDotsModel", "keptX", "[I", true)
  | 26 => ("FieldsByDotsModel", "keptY", "[I", true)
  | _ => ("FieldsByDotsModel", "keptMany", "[I", true)
def tyX6 : Nat → FieldType := fun k => match k with
  | 0 => .array .int
  | 1 => .int
  | 2 => .array .int
  | 3 => .array .int
  | 4 => .int
  | 5 => .array .int
  | 6 => .array .int
  | 7 => .array .int
  | 8 => .array .int
  | 9 => .array .int
  | 10 => .array .int
  | 11 => .array .int
  | 12 => .int
  | 13 => .array .boolean
  | 14 => .array .boolean
  | 15 => .array .int
  | 16 => .array .int
  | 17 => .array .int
  | 18 => .array .int
  | 19 => .int
  | 20 => .int
  | 21 => .int
  | 22 => .int
  | 23 => .int
  | 24 => .array .boolean
  | 25 => .array .int
  | 26 => .array .int
  | _ => .array .int
abbrev wsX60 : List Cond := u_ws RX6 TX6 28
theorem nmX6 : ∀ a, a < 28 → ∀ b, b < 28 → a ≠ b → (TX6 a).2.1 ≠ (TX6 b).2.1 := by decide +kernel
theorem tyX6_ok : ∀ k, k < 28 → parseFieldDescriptor (TX6 k).2.2.1 = some (tyX6 k) := by decide +kernel
abbrev cX6_init : ByteArray := prog_8_method_1_code
def yX6_init : MethodName := ⟨RX6, "<init>", "()V"⟩
abbrev cX6_in : ByteArray := prog_8_method_3_code
def yX6_in : MethodName := ⟨RX6, "in", "(JJJ)Z"⟩
abbrev cX6_write : ByteArray := prog_8_method_4_code
def yX6_write : MethodName := ⟨RX6, "write", "(IJ)I"⟩
abbrev cX6_wipe : ByteArray := prog_8_method_5_code
def yX6_wipe : MethodName := ⟨RX6, "wipe", "()I"⟩
abbrev cX6_valueOf : ByteArray := prog_8_method_6_code
def yX6_valueOf : MethodName := ⟨RX6, "valueOf", "(I)I"⟩
abbrev cX6_isTold : ByteArray := prog_8_method_7_code
def yX6_isTold : MethodName := ⟨RX6, "isTold", "(II)Z"⟩
abbrev cX6_readText : ByteArray := prog_8_method_8_code
def yX6_readText : MethodName := ⟨RX6, "readText", "()I"⟩
abbrev cX6_fault : ByteArray := prog_8_method_9_code
def yX6_fault : MethodName := ⟨RX6, "fault", "()I"⟩
abbrev cX6_isField : ByteArray := prog_8_method_10_code
def yX6_isField : MethodName := ⟨RX6, "isField", "(I)Z"⟩
abbrev cX6_isCorner : ByteArray := prog_8_method_11_code
def yX6_isCorner : MethodName := ⟨RX6, "isCorner", "(II)Z"⟩
abbrev cX6_isDot : ByteArray := prog_8_method_12_code
def yX6_isDot : MethodName := ⟨RX6, "isDot", "(II)Z"⟩
abbrev cX6_field : ByteArray := prog_8_method_13_code
def yX6_field : MethodName := ⟨RX6, "field", "(I)I"⟩
abbrev cX6_corner : ByteArray := prog_8_method_14_code
def yX6_corner : MethodName := ⟨RX6, "corner", "(III)I"⟩
abbrev cX6_cornerAt : ByteArray := prog_8_method_15_code
def yX6_cornerAt : MethodName := ⟨RX6, "cornerAt", "(III)I"⟩
abbrev cX6_move : ByteArray := prog_8_method_16_code
def yX6_move : MethodName := ⟨RX6, "move", "(IIII)I"⟩
abbrev cX6_put : ByteArray := prog_8_method_17_code
def yX6_put : MethodName := ⟨RX6, "put", "(IIII)I"⟩
abbrev cX6_take : ByteArray := prog_8_method_18_code
def yX6_take : MethodName := ⟨RX6, "take", "(II)I"⟩
abbrev cX6_turn : ByteArray := prog_8_method_19_code
def yX6_turn : MethodName := ⟨RX6, "turn", "(II)I"⟩
abbrev cX6_shift : ByteArray := prog_8_method_20_code
def yX6_shift : MethodName := ⟨RX6, "shift", "(III)I"⟩
abbrev cX6_place : ByteArray := prog_8_method_21_code
def yX6_place : MethodName := ⟨RX6, "place", "(II)I"⟩
abbrev cX6_side : ByteArray := prog_8_method_22_code
def yX6_side : MethodName := ⟨RX6, "side", "(III)I"⟩
abbrev cX6_isBetween : ByteArray := prog_8_method_23_code
def yX6_isBetween : MethodName := ⟨RX6, "isBetween", "(III)Z"⟩
abbrev cX6_meet : ByteArray := prog_8_method_24_code
def yX6_meet : MethodName := ⟨RX6, "meet", "(IIII)Z"⟩
abbrev cX6_sign : ByteArray := prog_8_method_25_code
def yX6_sign : MethodName := ⟨RX6, "sign", "(I)I"⟩
abbrev cX6_isSound : ByteArray := prog_8_method_26_code
def yX6_isSound : MethodName := ⟨RX6, "isSound", "(I)Z"⟩
abbrev cX6_sound : ByteArray := prog_8_method_27_code
def yX6_sound : MethodName := ⟨RX6, "sound", "(I)I"⟩
abbrev cX6_areaOf : ByteArray := prog_8_method_28_code
def yX6_areaOf : MethodName := ⟨RX6, "areaOf", "(III)I"⟩
abbrev cX6_area : ByteArray := prog_8_method_29_code
def yX6_area : MethodName := ⟨RX6, "area", "(I)I"⟩
abbrev cX6_without : ByteArray := prog_8_method_30_code
def yX6_without : MethodName := ⟨RX6, "without", "(I)I"⟩
abbrev cX6_divisor : ByteArray := prog_8_method_31_code
def yX6_divisor : MethodName := ⟨RX6, "divisor", "(II)I"⟩
abbrev cX6_fenceDots : ByteArray := prog_8_method_32_code
def yX6_fenceDots : MethodName := ⟨RX6, "fenceDots", "(I)I"⟩
abbrev cX6_howOf : ByteArray := prog_8_method_33_code
def yX6_howOf : MethodName := ⟨RX6, "howOf", "(II)I"⟩
abbrev cX6_whereOf : ByteArray := prog_8_method_34_code
def yX6_whereOf : MethodName := ⟨RX6, "whereOf", "(IJJJ)I"⟩
abbrev cX6_where : ByteArray := prog_8_method_35_code
def yX6_where : MethodName := ⟨RX6, "where", "(III)I"⟩
abbrev cX6_how : ByteArray := prog_8_method_36_code
def yX6_how : MethodName := ⟨RX6, "how", "(II)I"⟩
abbrev cX6_widthOf : ByteArray := prog_8_method_37_code
def yX6_widthOf : MethodName := ⟨RX6, "widthOf", "(III)I"⟩
abbrev cX6_wide : ByteArray := prog_8_method_38_code
def yX6_wide : MethodName := ⟨RX6, "wide", "(III)I"⟩
abbrev cX6_narrow : ByteArray := prog_8_method_39_code
def yX6_narrow : MethodName := ⟨RX6, "narrow", "(II)I"⟩
abbrev cX6_grown : ByteArray := prog_8_method_40_code
def yX6_grown : MethodName := ⟨RX6, "grown", "(II)J"⟩
abbrev cX6_hull : ByteArray := prog_8_method_41_code
def yX6_hull : MethodName := ⟨RX6, "hull", "(II)I"⟩
abbrev cX6_nextHull : ByteArray := prog_8_method_42_code
def yX6_nextHull : MethodName := ⟨RX6, "nextHull", "(II)I"⟩
abbrev cX6_long2 : ByteArray := prog_8_method_43_code
def yX6_long2 : MethodName := ⟨RX6, "long2", "(II)I"⟩
abbrev cX6_addMeet : ByteArray := prog_8_method_44_code
def yX6_addMeet : MethodName := ⟨RX6, "addMeet", "(II)V"⟩
abbrev cX6_layMeet : ByteArray := prog_8_method_45_code
def yX6_layMeet : MethodName := ⟨RX6, "layMeet", "(IIII)V"⟩
abbrev cX6_partOf : ByteArray := prog_8_method_46_code
def yX6_partOf : MethodName := ⟨RX6, "partOf", "(III)I"⟩
abbrev cX6_isSight : ByteArray := prog_8_method_47_code
def yX6_isSight : MethodName := ⟨RX6, "isSight", "(III)Z"⟩
abbrev cX6_isStrip : ByteArray := prog_8_method_48_code
def yX6_isStrip : MethodName := ⟨RX6, "isStrip", "(III)Z"⟩
abbrev cX6_isAlong : ByteArray := prog_8_method_49_code
def yX6_isAlong : MethodName := ⟨RX6, "isAlong", "(IIII)Z"⟩
abbrev cX6_areTwo : ByteArray := prog_8_method_50_code
def yX6_areTwo : MethodName := ⟨RX6, "areTwo", "(III)Z"⟩
abbrev cX6_sees : ByteArray := prog_8_method_51_code
def yX6_sees : MethodName := ⟨RX6, "sees", "(III)I"⟩
abbrev cX6_strip : ByteArray := prog_8_method_52_code
def yX6_strip : MethodName := ⟨RX6, "strip", "(III)I"⟩
abbrev cX6_layStrips : ByteArray := prog_8_method_53_code
def yX6_layStrips : MethodName := ⟨RX6, "layStrips", "(I)I"⟩
abbrev cX6_layCuts : ByteArray := prog_8_method_54_code
def yX6_layCuts : MethodName := ⟨RX6, "layCuts", "(I)V"⟩
abbrev cX6_about : ByteArray := prog_8_method_55_code
def yX6_about : MethodName := ⟨RX6, "about", "(II)I"⟩
abbrev cX6_layLeast : ByteArray := prog_8_method_56_code
def yX6_layLeast : MethodName := ⟨RX6, "layLeast", "(I)I"⟩
abbrev cX6_cross : ByteArray := prog_8_method_57_code
def yX6_cross : MethodName := ⟨RX6, "cross", "(II)Z"⟩
abbrev cX6_least : ByteArray := prog_8_method_58_code
def yX6_least : MethodName := ⟨RX6, "least", "(II)I"⟩
abbrev cX6_sidesOf : ByteArray := prog_8_method_59_code
def yX6_sidesOf : MethodName := ⟨RX6, "sidesOf", "(III)I"⟩
abbrev cX6_fair : ByteArray := prog_8_method_60_code
def yX6_fair : MethodName := ⟨RX6, "fair", "(I)I"⟩
abbrev cX6_sides : ByteArray := prog_8_method_61_code
def yX6_sides : MethodName := ⟨RX6, "sides", "(III)I"⟩
abbrev cX6_laySeen : ByteArray := prog_8_method_62_code
def yX6_laySeen : MethodName := ⟨RX6, "laySeen", "(I)V"⟩
abbrev cX6_ones : ByteArray := prog_8_method_63_code
def yX6_ones : MethodName := ⟨RX6, "ones", "(I)I"⟩
abbrev cX6_guards : ByteArray := prog_8_method_64_code
def yX6_guards : MethodName := ⟨RX6, "guards", "(I)I"⟩
abbrev cX6_hops : ByteArray := prog_8_method_65_code
def yX6_hops : MethodName := ⟨RX6, "hops", "(III)I"⟩
abbrev cX6_isMap : ByteArray := prog_8_method_66_code
def yX6_isMap : MethodName := ⟨RX6, "isMap", "(IIIII)Z"⟩
abbrev cX6_isLike : ByteArray := prog_8_method_67_code
def yX6_isLike : MethodName := ⟨RX6, "isLike", "(III)Z"⟩
abbrev cX6_alike : ByteArray := prog_8_method_68_code
def yX6_alike : MethodName := ⟨RX6, "alike", "(II)I"⟩
abbrev cX6_mirrored : ByteArray := prog_8_method_69_code
def yX6_mirrored : MethodName := ⟨RX6, "mirrored", "(II)I"⟩
abbrev cX6_common : ByteArray := prog_8_method_70_code
def yX6_common : MethodName := ⟨RX6, "common", "(II)I"⟩
abbrev cX6_corners : ByteArray := prog_8_method_71_code
def yX6_corners : MethodName := ⟨RX6, "corners", "()I"⟩
abbrev cX6_keep : ByteArray := prog_8_method_72_code
def yX6_keep : MethodName := ⟨RX6, "keep", "(I)I"⟩
abbrev cX6_again : ByteArray := prog_8_method_73_code
def yX6_again : MethodName := ⟨RX6, "again", "(I)I"⟩
abbrev cX6_count : ByteArray := prog_8_method_74_code
def yX6_count : MethodName := ⟨RX6, "count", "(I)I"⟩
def RJ6 : String := "java/lang/Integer"
def TJ6 : u_T := fun k => match k with
  | _ => ("", "", "", false)
def tyJ6 : Nat → FieldType := fun k => match k with
  | _ => .int
abbrev wsJ60 : List Cond := u_ws RJ6 TJ6 0
theorem nmJ6 : ∀ a, a < 0 → ∀ b, b < 0 → a ≠ b → (TJ6 a).2.1 ≠ (TJ6 b).2.1 := by decide +kernel
theorem tyJ6_ok : ∀ k, k < 0 → parseFieldDescriptor (TJ6 k).2.2.1 = some (tyJ6 k) := by decide +kernel
abbrev cJ6_bitCount_0f7a4 : ByteArray := prog_9_method_49_code
def yJ6_bitCount_0f7a4 : MethodName := ⟨RJ6, "bitCount", "(I)I"⟩
def RJ9 : String := "java/lang/Math"
def TJ9 : u_T := fun k => match k with
  | _ => ("", "", "", false)
def tyJ9 : Nat → FieldType := fun k => match k with
  | _ => .int
abbrev wsJ90 : List Cond := u_ws RJ9 TJ9 0
theorem nmJ9 : ∀ a, a < 0 → ∀ b, b < 0 → a ≠ b → (TJ9 a).2.1 ≠ (TJ9 b).2.1 := by decide +kernel
theorem tyJ9_ok : ∀ k, k < 0 → parseFieldDescriptor (TJ9 k).2.2.1 = some (tyJ9 k) := by decide +kernel
abbrev cJ9_abs_0f7a4 : ByteArray := prog_10_method_59_code
def yJ9_abs_0f7a4 : MethodName := ⟨RJ9, "abs", "(I)I"⟩
abbrev cJ9_max_7cf53 : ByteArray := prog_10_method_65_code
def yJ9_max_7cf53 : MethodName := ⟨RJ9, "max", "(II)I"⟩
abbrev cJ9_min_7cf53 : ByteArray := prog_10_method_69_code
def yJ9_min_7cf53 : MethodName := ⟨RJ9, "min", "(II)I"⟩

def RL : String := "FieldsByDotsLaw"
abbrev cL_law : ByteArray := code
def yL_law : MethodName := ⟨RL, "law", "([I)Z"⟩
abbrev vwCl : List vw_C := [(RX0, TX0, 4), (RX1, TX1, 1), (RX2, TX2, 3), (RX3, TX3, 3), (RX4, TX4, 2), (RX5, TX5, 8), (RX6, TX6, 28)]
