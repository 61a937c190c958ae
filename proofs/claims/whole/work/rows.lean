section
-- ===== PART A: goes FIRST, ahead of the names: the tables' words, and 'selects' of the private methods out of them =====
/-- a private method of a class that the tables say can be made, by its rows of tables_1 -/
def lw_okq (q : MethodName × Nat) : Prop := (q.1.cls ≠ "java/lang/invoke/MethodHandle" ∧ q.1.cls ≠ "java/lang/invoke/VarHandle") ∧ Cond.instantiable q.1.cls q.2 ∈ tables_1 ∧ Cond.privateMethod q.1 ∈ tables_1 ∧ Cond.instanceMethod q.1 ∈ tables_1
theorem lw_p0 : lw_okq (⟨"FieldsByDots$Text", "isFaulty", "(I)Z"⟩, 2) := ⟨⟨by decide +kernel, by decide +kernel⟩, List.mem_of_getElem? (i := 19) (by decide +kernel), List.mem_of_getElem? (i := 156) (by decide +kernel), List.mem_of_getElem? (i := 157) (by decide +kernel)⟩
theorem lw_p1 : lw_okq (⟨"FieldsByDots$Text", "isToldBefore", "(I)Z"⟩, 2) := ⟨⟨by decide +kernel, by decide +kernel⟩, List.mem_of_getElem? (i := 19) (by decide +kernel), List.mem_of_getElem? (i := 163) (by decide +kernel), List.mem_of_getElem? (i := 164) (by decide +kernel)⟩
theorem lw_p2 : lw_okq (⟨"FieldsByDots", "isCorner", "(II)Z"⟩, 8) := ⟨⟨by decide +kernel, by decide +kernel⟩, List.mem_of_getElem? (i := 11) (by decide +kernel), List.mem_of_getElem? (i := 182) (by decide +kernel), List.mem_of_getElem? (i := 183) (by decide +kernel)⟩
theorem lw_p3 : lw_okq (⟨"FieldsByDots$Outline", "isFoldedAt", "(I)Z"⟩, 3) := ⟨⟨by decide +kernel, by decide +kernel⟩, List.mem_of_getElem? (i := 35) (by decide +kernel), List.mem_of_getElem? (i := 250) (by decide +kernel), List.mem_of_getElem? (i := 251) (by decide +kernel)⟩
theorem lw_p4 : lw_okq (⟨"FieldsByDots$Outline", "isTouching", "(II)Z"⟩, 3) := ⟨⟨by decide +kernel, by decide +kernel⟩, List.mem_of_getElem? (i := 35) (by decide +kernel), List.mem_of_getElem? (i := 270) (by decide +kernel), List.mem_of_getElem? (i := 271) (by decide +kernel)⟩
theorem lw_p5 : lw_okq (⟨"FieldsByDots", "aboutCuts", "(LFieldsByDots$Outline;I)I"⟩, 8) := ⟨⟨by decide +kernel, by decide +kernel⟩, List.mem_of_getElem? (i := 11) (by decide +kernel), List.mem_of_getElem? (i := 318) (by decide +kernel), List.mem_of_getElem? (i := 319) (by decide +kernel)⟩
theorem lw_p6 : lw_okq (⟨"FieldsByDots$Outline", "nearestToward", "(II)I"⟩, 3) := ⟨⟨by decide +kernel, by decide +kernel⟩, List.mem_of_getElem? (i := 35) (by decide +kernel), List.mem_of_getElem? (i := 330) (by decide +kernel), List.mem_of_getElem? (i := 331) (by decide +kernel)⟩
theorem lw_p7 : lw_okq (⟨"FieldsByDots$Outline", "isCrossed", "(II)Z"⟩, 3) := ⟨⟨by decide +kernel, by decide +kernel⟩, List.mem_of_getElem? (i := 35) (by decide +kernel), List.mem_of_getElem? (i := 334) (by decide +kernel), List.mem_of_getElem? (i := 335) (by decide +kernel)⟩
theorem lw_p8 : lw_okq (⟨"FieldsByDots$Outline", "placeOfMiddle", "(II)I"⟩, 3) := ⟨⟨by decide +kernel, by decide +kernel⟩, List.mem_of_getElem? (i := 35) (by decide +kernel), List.mem_of_getElem? (i := 342) (by decide +kernel), List.mem_of_getElem? (i := 343) (by decide +kernel)⟩
theorem lw_p9 : lw_okq (⟨"FieldsByDots$Cuts", "planPart", "(IIZ)V"⟩, 4) := ⟨⟨by decide +kernel, by decide +kernel⟩, List.mem_of_getElem? (i := 79) (by decide +kernel), List.mem_of_getElem? (i := 372) (by decide +kernel), List.mem_of_getElem? (i := 373) (by decide +kernel)⟩
theorem lw_p10 : lw_okq (⟨"FieldsByDots$Cuts", "planTip", "(III)V"⟩, 4) := ⟨⟨by decide +kernel, by decide +kernel⟩, List.mem_of_getElem? (i := 79) (by decide +kernel), List.mem_of_getElem? (i := 376) (by decide +kernel), List.mem_of_getElem? (i := 377) (by decide +kernel)⟩
theorem lw_p11 : lw_okq (⟨"FieldsByDots$Cuts", "addStrip", "(III)V"⟩, 4) := ⟨⟨by decide +kernel, by decide +kernel⟩, List.mem_of_getElem? (i := 79) (by decide +kernel), List.mem_of_getElem? (i := 384) (by decide +kernel), List.mem_of_getElem? (i := 385) (by decide +kernel)⟩
theorem lw_p12 : lw_okq (⟨"FieldsByDots$Cuts", "whole", "()I"⟩, 4) := ⟨⟨by decide +kernel, by decide +kernel⟩, List.mem_of_getElem? (i := 79) (by decide +kernel), List.mem_of_getElem? (i := 395) (by decide +kernel), List.mem_of_getElem? (i := 396) (by decide +kernel)⟩
theorem lw_p13 : lw_okq (⟨"FieldsByDots$Outline", "rightmostFrom", "(I)I"⟩, 3) := ⟨⟨by decide +kernel, by decide +kernel⟩, List.mem_of_getElem? (i := 35) (by decide +kernel), List.mem_of_getElem? (i := 459) (by decide +kernel), List.mem_of_getElem? (i := 460) (by decide +kernel)⟩
theorem lw_p14 : lw_okq (⟨"FieldsByDots", "isPair", "(III)Z"⟩, 8) := ⟨⟨by decide +kernel, by decide +kernel⟩, List.mem_of_getElem? (i := 11) (by decide +kernel), List.mem_of_getElem? (i := 471) (by decide +kernel), List.mem_of_getElem? (i := 472) (by decide +kernel)⟩
theorem lw_p15 : lw_okq (⟨"FieldsByDots", "fairest", "(LFieldsByDots$Outline;)I"⟩, 8) := ⟨⟨by decide +kernel, by decide +kernel⟩, List.mem_of_getElem? (i := 11) (by decide +kernel), List.mem_of_getElem? (i := 493) (by decide +kernel), List.mem_of_getElem? (i := 494) (by decide +kernel)⟩
def lw_privs_1 : List (MethodName × Nat) := [(⟨"FieldsByDots$Text", "isFaulty", "(I)Z"⟩, 2), (⟨"FieldsByDots$Text", "isToldBefore", "(I)Z"⟩, 2), (⟨"FieldsByDots", "isCorner", "(II)Z"⟩, 8), (⟨"FieldsByDots$Outline", "isFoldedAt", "(I)Z"⟩, 3), (⟨"FieldsByDots$Outline", "isTouching", "(II)Z"⟩, 3), (⟨"FieldsByDots", "aboutCuts", "(LFieldsByDots$Outline;I)I"⟩, 8), (⟨"FieldsByDots$Outline", "nearestToward", "(II)I"⟩, 3), (⟨"FieldsByDots$Outline", "isCrossed", "(II)Z"⟩, 3), (⟨"FieldsByDots$Outline", "placeOfMiddle", "(II)I"⟩, 3), (⟨"FieldsByDots$Cuts", "planPart", "(IIZ)V"⟩, 4), (⟨"FieldsByDots$Cuts", "planTip", "(III)V"⟩, 4), (⟨"FieldsByDots$Cuts", "addStrip", "(III)V"⟩, 4), (⟨"FieldsByDots$Cuts", "whole", "()I"⟩, 4), (⟨"FieldsByDots$Outline", "rightmostFrom", "(I)I"⟩, 3), (⟨"FieldsByDots", "isPair", "(III)Z"⟩, 8), (⟨"FieldsByDots", "fairest", "(LFieldsByDots$Outline;)I"⟩, 8)]
theorem lw_r1 : ∀ q ∈ lw_privs_1, lw_okq q := List.forall_mem_cons.mpr ⟨lw_p0, List.forall_mem_cons.mpr ⟨lw_p1, List.forall_mem_cons.mpr ⟨lw_p2, List.forall_mem_cons.mpr ⟨lw_p3, List.forall_mem_cons.mpr ⟨lw_p4, List.forall_mem_cons.mpr ⟨lw_p5, List.forall_mem_cons.mpr ⟨lw_p6, List.forall_mem_cons.mpr ⟨lw_p7, List.forall_mem_cons.mpr ⟨lw_p8, List.forall_mem_cons.mpr ⟨lw_p9, List.forall_mem_cons.mpr ⟨lw_p10, List.forall_mem_cons.mpr ⟨lw_p11, List.forall_mem_cons.mpr ⟨lw_p12, List.forall_mem_cons.mpr ⟨lw_p13, List.forall_mem_cons.mpr ⟨lw_p14, List.forall_mem_cons.mpr ⟨lw_p15, fun _ h => absurd h List.not_mem_nil⟩⟩⟩⟩⟩⟩⟩⟩⟩⟩⟩⟩⟩⟩⟩⟩
theorem lw_p16 : lw_okq (⟨"FieldsByDots$Sights", "withSeen", "(I)I"⟩, 3) := ⟨⟨by decide +kernel, by decide +kernel⟩, List.mem_of_getElem? (i := 62) (by decide +kernel), List.mem_of_getElem? (i := 514) (by decide +kernel), List.mem_of_getElem? (i := 515) (by decide +kernel)⟩
theorem lw_p17 : lw_okq (⟨"FieldsByDots", "refusalOfTwo", "(II)I"⟩, 8) := ⟨⟨by decide +kernel, by decide +kernel⟩, List.mem_of_getElem? (i := 11) (by decide +kernel), List.mem_of_getElem? (i := 530) (by decide +kernel), List.mem_of_getElem? (i := 531) (by decide +kernel)⟩
theorem lw_p18 : lw_okq (⟨"FieldsByDots$Likeness", "arrange", "(LFieldsByDots$Outline;IZ)V"⟩, 1) := ⟨⟨by decide +kernel, by decide +kernel⟩, List.mem_of_getElem? (i := 99) (by decide +kernel), List.mem_of_getElem? (i := 538) (by decide +kernel), List.mem_of_getElem? (i := 539) (by decide +kernel)⟩
theorem lw_p19 : lw_okq (⟨"FieldsByDots$Likeness", "isMapped", "(LFieldsByDots$Outline;I)Z"⟩, 1) := ⟨⟨by decide +kernel, by decide +kernel⟩, List.mem_of_getElem? (i := 99) (by decide +kernel), List.mem_of_getElem? (i := 545) (by decide +kernel), List.mem_of_getElem? (i := 546) (by decide +kernel)⟩
theorem lw_p20 : lw_okq (⟨"FieldsByDots", "allCorners", "()I"⟩, 8) := ⟨⟨by decide +kernel, by decide +kernel⟩, List.mem_of_getElem? (i := 11) (by decide +kernel), List.mem_of_getElem? (i := 565) (by decide +kernel), List.mem_of_getElem? (i := 566) (by decide +kernel)⟩
theorem lw_p21 : lw_okq (⟨"FieldsByDots", "soundFields", "()I"⟩, 8) := ⟨⟨by decide +kernel, by decide +kernel⟩, List.mem_of_getElem? (i := 11) (by decide +kernel), List.mem_of_getElem? (i := 577) (by decide +kernel), List.mem_of_getElem? (i := 578) (by decide +kernel)⟩
theorem lw_p22 : lw_okq (⟨"FieldsByDotsModel", "readText", "()I"⟩, 28) := ⟨⟨by decide +kernel, by decide +kernel⟩, List.mem_of_getElem? (i := 581) (by decide +kernel), List.mem_of_getElem? (i := 689) (by decide +kernel), List.mem_of_getElem? (i := 690) (by decide +kernel)⟩
theorem lw_p23 : lw_okq (⟨"FieldsByDotsModel", "isTold", "(II)Z"⟩, 28) := ⟨⟨by decide +kernel, by decide +kernel⟩, List.mem_of_getElem? (i := 581) (by decide +kernel), List.mem_of_getElem? (i := 700) (by decide +kernel), List.mem_of_getElem? (i := 701) (by decide +kernel)⟩
theorem lw_p24 : lw_okq (⟨"FieldsByDotsModel", "isCorner", "(II)Z"⟩, 28) := ⟨⟨by decide +kernel, by decide +kernel⟩, List.mem_of_getElem? (i := 581) (by decide +kernel), List.mem_of_getElem? (i := 716) (by decide +kernel), List.mem_of_getElem? (i := 717) (by decide +kernel)⟩
theorem lw_p25 : lw_okq (⟨"FieldsByDotsModel", "cornerAt", "(III)I"⟩, 28) := ⟨⟨by decide +kernel, by decide +kernel⟩, List.mem_of_getElem? (i := 581) (by decide +kernel), List.mem_of_getElem? (i := 728) (by decide +kernel), List.mem_of_getElem? (i := 729) (by decide +kernel)⟩
theorem lw_p26 : lw_okq (⟨"FieldsByDotsModel", "isSound", "(I)Z"⟩, 28) := ⟨⟨by decide +kernel, by decide +kernel⟩, List.mem_of_getElem? (i := 581) (by decide +kernel), List.mem_of_getElem? (i := 754) (by decide +kernel), List.mem_of_getElem? (i := 755) (by decide +kernel)⟩
theorem lw_p27 : lw_okq (⟨"FieldsByDotsModel", "place", "(II)I"⟩, 28) := ⟨⟨by decide +kernel, by decide +kernel⟩, List.mem_of_getElem? (i := 581) (by decide +kernel), List.mem_of_getElem? (i := 758) (by decide +kernel), List.mem_of_getElem? (i := 759) (by decide +kernel)⟩
theorem lw_p28 : lw_okq (⟨"FieldsByDotsModel", "side", "(III)I"⟩, 28) := ⟨⟨by decide +kernel, by decide +kernel⟩, List.mem_of_getElem? (i := 581) (by decide +kernel), List.mem_of_getElem? (i := 762) (by decide +kernel), List.mem_of_getElem? (i := 763) (by decide +kernel)⟩
theorem lw_p29 : lw_okq (⟨"FieldsByDotsModel", "meet", "(IIII)Z"⟩, 28) := ⟨⟨by decide +kernel, by decide +kernel⟩, List.mem_of_getElem? (i := 581) (by decide +kernel), List.mem_of_getElem? (i := 766) (by decide +kernel), List.mem_of_getElem? (i := 767) (by decide +kernel)⟩
theorem lw_p30 : lw_okq (⟨"FieldsByDotsModel", "isBetween", "(III)Z"⟩, 28) := ⟨⟨by decide +kernel, by decide +kernel⟩, List.mem_of_getElem? (i := 581) (by decide +kernel), List.mem_of_getElem? (i := 773) (by decide +kernel), List.mem_of_getElem? (i := 774) (by decide +kernel)⟩
theorem lw_p31 : lw_okq (⟨"FieldsByDotsModel", "whereOf", "(IJJJ)I"⟩, 28) := ⟨⟨by decide +kernel, by decide +kernel⟩, List.mem_of_getElem? (i := 581) (by decide +kernel), List.mem_of_getElem? (i := 781) (by decide +kernel), List.mem_of_getElem? (i := 782) (by decide +kernel)⟩
def lw_privs_2 : List (MethodName × Nat) := [(⟨"FieldsByDots$Sights", "withSeen", "(I)I"⟩, 3), (⟨"FieldsByDots", "refusalOfTwo", "(II)I"⟩, 8), (⟨"FieldsByDots$Likeness", "arrange", "(LFieldsByDots$Outline;IZ)V"⟩, 1), (⟨"FieldsByDots$Likeness", "isMapped", "(LFieldsByDots$Outline;I)Z"⟩, 1), (⟨"FieldsByDots", "allCorners", "()I"⟩, 8), (⟨"FieldsByDots", "soundFields", "()I"⟩, 8), (⟨"FieldsByDotsModel", "readText", "()I"⟩, 28), (⟨"FieldsByDotsModel", "isTold", "(II)Z"⟩, 28), (⟨"FieldsByDotsModel", "isCorner", "(II)Z"⟩, 28), (⟨"FieldsByDotsModel", "cornerAt", "(III)I"⟩, 28), (⟨"FieldsByDotsModel", "isSound", "(I)Z"⟩, 28), (⟨"FieldsByDotsModel", "place", "(II)I"⟩, 28), (⟨"FieldsByDotsModel", "side", "(III)I"⟩, 28), (⟨"FieldsByDotsModel", "meet", "(IIII)Z"⟩, 28), (⟨"FieldsByDotsModel", "isBetween", "(III)Z"⟩, 28), (⟨"FieldsByDotsModel", "whereOf", "(IJJJ)I"⟩, 28)]
theorem lw_r2 : ∀ q ∈ lw_privs_2, lw_okq q := List.forall_mem_cons.mpr ⟨lw_p16, List.forall_mem_cons.mpr ⟨lw_p17, List.forall_mem_cons.mpr ⟨lw_p18, List.forall_mem_cons.mpr ⟨lw_p19, List.forall_mem_cons.mpr ⟨lw_p20, List.forall_mem_cons.mpr ⟨lw_p21, List.forall_mem_cons.mpr ⟨lw_p22, List.forall_mem_cons.mpr ⟨lw_p23, List.forall_mem_cons.mpr ⟨lw_p24, List.forall_mem_cons.mpr ⟨lw_p25, List.forall_mem_cons.mpr ⟨lw_p26, List.forall_mem_cons.mpr ⟨lw_p27, List.forall_mem_cons.mpr ⟨lw_p28, List.forall_mem_cons.mpr ⟨lw_p29, List.forall_mem_cons.mpr ⟨lw_p30, List.forall_mem_cons.mpr ⟨lw_p31, fun _ h => absurd h List.not_mem_nil⟩⟩⟩⟩⟩⟩⟩⟩⟩⟩⟩⟩⟩⟩⟩⟩
theorem lw_p32 : lw_okq (⟨"FieldsByDotsModel", "howOf", "(II)I"⟩, 28) := ⟨⟨by decide +kernel, by decide +kernel⟩, List.mem_of_getElem? (i := 581) (by decide +kernel), List.mem_of_getElem? (i := 789) (by decide +kernel), List.mem_of_getElem? (i := 790) (by decide +kernel)⟩
theorem lw_p33 : lw_okq (⟨"FieldsByDotsModel", "area", "(I)I"⟩, 28) := ⟨⟨by decide +kernel, by decide +kernel⟩, List.mem_of_getElem? (i := 581) (by decide +kernel), List.mem_of_getElem? (i := 793) (by decide +kernel), List.mem_of_getElem? (i := 794) (by decide +kernel)⟩
theorem lw_p34 : lw_okq (⟨"FieldsByDotsModel", "areaOf", "(III)I"⟩, 28) := ⟨⟨by decide +kernel, by decide +kernel⟩, List.mem_of_getElem? (i := 581) (by decide +kernel), List.mem_of_getElem? (i := 797) (by decide +kernel), List.mem_of_getElem? (i := 798) (by decide +kernel)⟩
theorem lw_p35 : lw_okq (⟨"FieldsByDotsModel", "widthOf", "(III)I"⟩, 28) := ⟨⟨by decide +kernel, by decide +kernel⟩, List.mem_of_getElem? (i := 581) (by decide +kernel), List.mem_of_getElem? (i := 807) (by decide +kernel), List.mem_of_getElem? (i := 808) (by decide +kernel)⟩
theorem lw_p36 : lw_okq (⟨"FieldsByDotsModel", "fenceDots", "(I)I"⟩, 28) := ⟨⟨by decide +kernel, by decide +kernel⟩, List.mem_of_getElem? (i := 581) (by decide +kernel), List.mem_of_getElem? (i := 830) (by decide +kernel), List.mem_of_getElem? (i := 831) (by decide +kernel)⟩
theorem lw_p37 : lw_okq (⟨"FieldsByDotsModel", "nextHull", "(II)I"⟩, 28) := ⟨⟨by decide +kernel, by decide +kernel⟩, List.mem_of_getElem? (i := 581) (by decide +kernel), List.mem_of_getElem? (i := 839) (by decide +kernel), List.mem_of_getElem? (i := 840) (by decide +kernel)⟩
theorem lw_p38 : lw_okq (⟨"FieldsByDotsModel", "long2", "(II)I"⟩, 28) := ⟨⟨by decide +kernel, by decide +kernel⟩, List.mem_of_getElem? (i := 581) (by decide +kernel), List.mem_of_getElem? (i := 843) (by decide +kernel), List.mem_of_getElem? (i := 844) (by decide +kernel)⟩
theorem lw_p39 : lw_okq (⟨"FieldsByDotsModel", "areTwo", "(III)Z"⟩, 28) := ⟨⟨by decide +kernel, by decide +kernel⟩, List.mem_of_getElem? (i := 581) (by decide +kernel), List.mem_of_getElem? (i := 851) (by decide +kernel), List.mem_of_getElem? (i := 852) (by decide +kernel)⟩
theorem lw_p40 : lw_okq (⟨"FieldsByDotsModel", "isSight", "(III)Z"⟩, 28) := ⟨⟨by decide +kernel, by decide +kernel⟩, List.mem_of_getElem? (i := 581) (by decide +kernel), List.mem_of_getElem? (i := 855) (by decide +kernel), List.mem_of_getElem? (i := 856) (by decide +kernel)⟩
theorem lw_p41 : lw_okq (⟨"FieldsByDotsModel", "addMeet", "(II)V"⟩, 28) := ⟨⟨by decide +kernel, by decide +kernel⟩, List.mem_of_getElem? (i := 581) (by decide +kernel), List.mem_of_getElem? (i := 859) (by decide +kernel), List.mem_of_getElem? (i := 860) (by decide +kernel)⟩
theorem lw_p42 : lw_okq (⟨"FieldsByDotsModel", "layMeet", "(IIII)V"⟩, 28) := ⟨⟨by decide +kernel, by decide +kernel⟩, List.mem_of_getElem? (i := 581) (by decide +kernel), List.mem_of_getElem? (i := 863) (by decide +kernel), List.mem_of_getElem? (i := 864) (by decide +kernel)⟩
theorem lw_p43 : lw_okq (⟨"FieldsByDotsModel", "partOf", "(III)I"⟩, 28) := ⟨⟨by decide +kernel, by decide +kernel⟩, List.mem_of_getElem? (i := 581) (by decide +kernel), List.mem_of_getElem? (i := 867) (by decide +kernel), List.mem_of_getElem? (i := 868) (by decide +kernel)⟩
theorem lw_p44 : lw_okq (⟨"FieldsByDotsModel", "isStrip", "(III)Z"⟩, 28) := ⟨⟨by decide +kernel, by decide +kernel⟩, List.mem_of_getElem? (i := 581) (by decide +kernel), List.mem_of_getElem? (i := 875) (by decide +kernel), List.mem_of_getElem? (i := 876) (by decide +kernel)⟩
theorem lw_p45 : lw_okq (⟨"FieldsByDotsModel", "isAlong", "(IIII)Z"⟩, 28) := ⟨⟨by decide +kernel, by decide +kernel⟩, List.mem_of_getElem? (i := 581) (by decide +kernel), List.mem_of_getElem? (i := 879) (by decide +kernel), List.mem_of_getElem? (i := 880) (by decide +kernel)⟩
theorem lw_p46 : lw_okq (⟨"FieldsByDotsModel", "layStrips", "(I)I"⟩, 28) := ⟨⟨by decide +kernel, by decide +kernel⟩, List.mem_of_getElem? (i := 581) (by decide +kernel), List.mem_of_getElem? (i := 887) (by decide +kernel), List.mem_of_getElem? (i := 888) (by decide +kernel)⟩
theorem lw_p47 : lw_okq (⟨"FieldsByDotsModel", "layCuts", "(I)V"⟩, 28) := ⟨⟨by decide +kernel, by decide +kernel⟩, List.mem_of_getElem? (i := 581) (by decide +kernel), List.mem_of_getElem? (i := 891) (by decide +kernel), List.mem_of_getElem? (i := 892) (by decide +kernel)⟩
def lw_privs_3 : List (MethodName × Nat) := [(⟨"FieldsByDotsModel", "howOf", "(II)I"⟩, 28), (⟨"FieldsByDotsModel", "area", "(I)I"⟩, 28), (⟨"FieldsByDotsModel", "areaOf", "(III)I"⟩, 28), (⟨"FieldsByDotsModel", "widthOf", "(III)I"⟩, 28), (⟨"FieldsByDotsModel", "fenceDots", "(I)I"⟩, 28), (⟨"FieldsByDotsModel", "nextHull", "(II)I"⟩, 28), (⟨"FieldsByDotsModel", "long2", "(II)I"⟩, 28), (⟨"FieldsByDotsModel", "areTwo", "(III)Z"⟩, 28), (⟨"FieldsByDotsModel", "isSight", "(III)Z"⟩, 28), (⟨"FieldsByDotsModel", "addMeet", "(II)V"⟩, 28), (⟨"FieldsByDotsModel", "layMeet", "(IIII)V"⟩, 28), (⟨"FieldsByDotsModel", "partOf", "(III)I"⟩, 28), (⟨"FieldsByDotsModel", "isStrip", "(III)Z"⟩, 28), (⟨"FieldsByDotsModel", "isAlong", "(IIII)Z"⟩, 28), (⟨"FieldsByDotsModel", "layStrips", "(I)I"⟩, 28), (⟨"FieldsByDotsModel", "layCuts", "(I)V"⟩, 28)]
theorem lw_r3 : ∀ q ∈ lw_privs_3, lw_okq q := List.forall_mem_cons.mpr ⟨lw_p32, List.forall_mem_cons.mpr ⟨lw_p33, List.forall_mem_cons.mpr ⟨lw_p34, List.forall_mem_cons.mpr ⟨lw_p35, List.forall_mem_cons.mpr ⟨lw_p36, List.forall_mem_cons.mpr ⟨lw_p37, List.forall_mem_cons.mpr ⟨lw_p38, List.forall_mem_cons.mpr ⟨lw_p39, List.forall_mem_cons.mpr ⟨lw_p40, List.forall_mem_cons.mpr ⟨lw_p41, List.forall_mem_cons.mpr ⟨lw_p42, List.forall_mem_cons.mpr ⟨lw_p43, List.forall_mem_cons.mpr ⟨lw_p44, List.forall_mem_cons.mpr ⟨lw_p45, List.forall_mem_cons.mpr ⟨lw_p46, List.forall_mem_cons.mpr ⟨lw_p47, fun _ h => absurd h List.not_mem_nil⟩⟩⟩⟩⟩⟩⟩⟩⟩⟩⟩⟩⟩⟩⟩⟩
theorem lw_p48 : lw_okq (⟨"FieldsByDotsModel", "layLeast", "(I)I"⟩, 28) := ⟨⟨by decide +kernel, by decide +kernel⟩, List.mem_of_getElem? (i := 581) (by decide +kernel), List.mem_of_getElem? (i := 899) (by decide +kernel), List.mem_of_getElem? (i := 900) (by decide +kernel)⟩
theorem lw_p49 : lw_okq (⟨"FieldsByDotsModel", "sidesOf", "(III)I"⟩, 28) := ⟨⟨by decide +kernel, by decide +kernel⟩, List.mem_of_getElem? (i := 581) (by decide +kernel), List.mem_of_getElem? (i := 910) (by decide +kernel), List.mem_of_getElem? (i := 911) (by decide +kernel)⟩
theorem lw_p50 : lw_okq (⟨"FieldsByDotsModel", "laySeen", "(I)V"⟩, 28) := ⟨⟨by decide +kernel, by decide +kernel⟩, List.mem_of_getElem? (i := 581) (by decide +kernel), List.mem_of_getElem? (i := 922) (by decide +kernel), List.mem_of_getElem? (i := 923) (by decide +kernel)⟩
theorem lw_p51 : lw_okq (⟨"FieldsByDotsModel", "isLike", "(III)Z"⟩, 28) := ⟨⟨by decide +kernel, by decide +kernel⟩, List.mem_of_getElem? (i := 581) (by decide +kernel), List.mem_of_getElem? (i := 937) (by decide +kernel), List.mem_of_getElem? (i := 938) (by decide +kernel)⟩
theorem lw_p52 : lw_okq (⟨"FieldsByDotsModel", "isMap", "(IIIII)Z"⟩, 28) := ⟨⟨by decide +kernel, by decide +kernel⟩, List.mem_of_getElem? (i := 581) (by decide +kernel), List.mem_of_getElem? (i := 941) (by decide +kernel), List.mem_of_getElem? (i := 942) (by decide +kernel)⟩
theorem lw_p53 : lw_okq (⟨"FieldsByDotsModel", "corners", "()I"⟩, 28) := ⟨⟨by decide +kernel, by decide +kernel⟩, List.mem_of_getElem? (i := 581) (by decide +kernel), List.mem_of_getElem? (i := 957) (by decide +kernel), List.mem_of_getElem? (i := 958) (by decide +kernel)⟩
def lw_privs_4 : List (MethodName × Nat) := [(⟨"FieldsByDotsModel", "layLeast", "(I)I"⟩, 28), (⟨"FieldsByDotsModel", "sidesOf", "(III)I"⟩, 28), (⟨"FieldsByDotsModel", "laySeen", "(I)V"⟩, 28), (⟨"FieldsByDotsModel", "isLike", "(III)Z"⟩, 28), (⟨"FieldsByDotsModel", "isMap", "(IIIII)Z"⟩, 28), (⟨"FieldsByDotsModel", "corners", "()I"⟩, 28)]
theorem lw_r4 : ∀ q ∈ lw_privs_4, lw_okq q := List.forall_mem_cons.mpr ⟨lw_p48, List.forall_mem_cons.mpr ⟨lw_p49, List.forall_mem_cons.mpr ⟨lw_p50, List.forall_mem_cons.mpr ⟨lw_p51, List.forall_mem_cons.mpr ⟨lw_p52, List.forall_mem_cons.mpr ⟨lw_p53, fun _ h => absurd h List.not_mem_nil⟩⟩⟩⟩⟩⟩
def lw_privs : List (MethodName × Nat) := lw_privs_1 ++ (lw_privs_2 ++ (lw_privs_3 ++ (lw_privs_4)))
def lw_tbl : List Cond := k2_sels lw_privs ++ tables_1
theorem lw_privs_ok : ∀ q ∈ lw_privs, lw_okq q := by
  show ∀ q ∈ lw_privs_1 ++ (lw_privs_2 ++ (lw_privs_3 ++ (lw_privs_4))), lw_okq q
  exact List.forall_mem_append.mpr ⟨lw_r1, List.forall_mem_append.mpr ⟨lw_r2, List.forall_mem_append.mpr ⟨lw_r3, lw_r4⟩⟩⟩

def RX0 : String := "FieldsByDots$Cuts"
def TX0 : u_T := fun k => match k with
  | 0 => ("FieldsByDots$Cuts", "ways", "[I", true)
  | 1 => ("FieldsByDots$Cuts", "leastLongs", "[I", true)
  | 2 => ("FieldsByDots$Cuts", "firstSets", "[J", true)
  | _ => ("FieldsByDots$Cuts", "size", "I", false)
def tyX0 : Nat → FieldType := fun k => match k with
  | 0 => .array .int
  | 1 => .array .int
  | 2 => .array .long
  | _ => .int
abbrev wsX00 : List Cond := u_ws RX0 TX0 4
theorem nmX0 : ∀ a, a < 4 → ∀ b, b < 4 → a ≠ b → (TX0 a).2.1 ≠ (TX0 b).2.1 := by decide +kernel
theorem tyX0_ok : ∀ k, k < 4 → parseFieldDescriptor (TX0 k).2.2.1 = some (tyX0 k) := by decide +kernel
abbrev cX0_init : ByteArray := prog_2_method_1_code
def yX0_init : MethodName := ⟨RX0, "<init>", "()V"⟩
abbrev cX0_plan : ByteArray := prog_2_method_2_code
def yX0_plan : MethodName := ⟨RX0, "plan", "(LFieldsByDots$Outline;LFieldsByDots$Sights;)V"⟩
abbrev cX0_planPart : ByteArray := prog_2_method_3_code
def yX0_planPart : MethodName := ⟨RX0, "planPart", "(IIZ)V"⟩
abbrev cX0_addStrip : ByteArray := prog_2_method_4_code
def yX0_addStrip : MethodName := ⟨RX0, "addStrip", "(III)V"⟩
abbrev cX0_planTip : ByteArray := prog_2_method_5_code
def yX0_planTip : MethodName := ⟨RX0, "planTip", "(III)V"⟩
abbrev cX0_bitOf : ByteArray := prog_2_method_6_code
def yX0_bitOf : MethodName := ⟨RX0, "bitOf", "(II)J"⟩
abbrev cX0_whole : ByteArray := prog_2_method_7_code
def yX0_whole : MethodName := ⟨RX0, "whole", "()I"⟩
abbrev cX0_allWays : ByteArray := prog_2_method_8_code
def yX0_allWays : MethodName := ⟨RX0, "allWays", "()I"⟩
abbrev cX0_leastLong : ByteArray := prog_2_method_9_code
def yX0_leastLong : MethodName := ⟨RX0, "leastLong", "()I"⟩
abbrev cX0_stripOfFirst : ByteArray := prog_2_method_10_code
def yX0_stripOfFirst : MethodName := ⟨RX0, "stripOfFirst", "(I)I"⟩
def RX1 : String := "FieldsByDots$Likeness"
def TX1 : u_T := fun k => match k with
  | _ => ("FieldsByDots$Likeness", "arranged", "LFieldsByDots$Outline;", true)
def tyX1 : Nat → FieldType := fun k => match k with
  | _ => .object "FieldsByDots$Outline"
abbrev wsX10 : List Cond := u_ws RX1 TX1 1
theorem nmX1 : ∀ a, a < 1 → ∀ b, b < 1 → a ≠ b → (TX1 a).2.1 ≠ (TX1 b).2.1 := by decide +kernel
theorem tyX1_ok : ∀ k, k < 1 → parseFieldDescriptor (TX1 k).2.2.1 = some (tyX1 k) := by decide +kernel
abbrev cX1_init : ByteArray := prog_3_method_1_code
def yX1_init : MethodName := ⟨RX1, "<init>", "()V"⟩
abbrev cX1_isFound : ByteArray := prog_3_method_2_code
def yX1_isFound : MethodName := ⟨RX1, "isFound", "(LFieldsByDots$Outline;LFieldsByDots$Outline;I)Z"⟩
abbrev cX1_arrange : ByteArray := prog_3_method_3_code
def yX1_arrange : MethodName := ⟨RX1, "arrange", "(LFieldsByDots$Outline;IZ)V"⟩
abbrev cX1_isMapped : ByteArray := prog_3_method_4_code
def yX1_isMapped : MethodName := ⟨RX1, "isMapped", "(LFieldsByDots$Outline;I)Z"⟩
abbrev cX1_isRowMapped : ByteArray := prog_3_method_5_code
def yX1_isRowMapped : MethodName := ⟨RX1, "isRowMapped", "(LFieldsByDots$Outline;[II)Z"⟩
def RX2 : String := "FieldsByDots$Outline"
def TX2 : u_T := fun k => match k with
  | 0 => ("FieldsByDots$Outline", "xs", "[I", true)
  | 1 => ("FieldsByDots$Outline", "ys", "[I", true)
  | _ => ("FieldsByDots$Outline", "size", "I", false)
def tyX2 : Nat → FieldType := fun k => match k with
  | 0 => .array .int
  | 1 => .array .int
  | _ => .int
abbrev wsX20 : List Cond := u_ws RX2 TX2 3
theorem nmX2 : ∀ a, a < 3 → ∀ b, b < 3 → a ≠ b → (TX2 a).2.1 ≠ (TX2 b).2.1 := by decide +kernel
theorem tyX2_ok : ∀ k, k < 3 → parseFieldDescriptor (TX2 k).2.2.1 = some (tyX2 k) := by decide +kernel
abbrev cX2_init : ByteArray := prog_4_method_1_code
def yX2_init : MethodName := ⟨RX2, "<init>", "()V"⟩
abbrev cX2_has : ByteArray := prog_4_method_2_code
def yX2_has : MethodName := ⟨RX2, "has", "(I)Z"⟩
abbrev cX2_cornerAt : ByteArray := prog_4_method_3_code
def yX2_cornerAt : MethodName := ⟨RX2, "cornerAt", "(II)I"⟩
abbrev cX2_copyFrom : ByteArray := prog_4_method_4_code
def yX2_copyFrom : MethodName := ⟨RX2, "copyFrom", "(LFieldsByDots$Outline;)V"⟩
abbrev cX2_insert : ByteArray := prog_4_method_5_code
def yX2_insert : MethodName := ⟨RX2, "insert", "(III)V"⟩
abbrev cX2_remove : ByteArray := prog_4_method_6_code
def yX2_remove : MethodName := ⟨RX2, "remove", "(I)V"⟩
abbrev cX2_mirrorLeftToRight : ByteArray := prog_4_method_7_code
def yX2_mirrorLeftToRight : MethodName := ⟨RX2, "mirrorLeftToRight", "()V"⟩
abbrev cX2_turnQuarterLeft : ByteArray := prog_4_method_8_code
def yX2_turnQuarterLeft : MethodName := ⟨RX2, "turnQuarterLeft", "()V"⟩
abbrev cX2_staysOnDots : ByteArray := prog_4_method_9_code
def yX2_staysOnDots : MethodName := ⟨RX2, "staysOnDots", "(II)Z"⟩
abbrev cX2_shiftBy : ByteArray := prog_4_method_10_code
def yX2_shiftBy : MethodName := ⟨RX2, "shiftBy", "(II)V"⟩
abbrev cX2_next : ByteArray := prog_4_method_11_code
def yX2_next : MethodName := ⟨RX2, "next", "(I)I"⟩
abbrev cX2_previous : ByteArray := prog_4_method_12_code
def yX2_previous : MethodName := ⟨RX2, "previous", "(I)I"⟩
abbrev cX2_sideOf : ByteArray := prog_4_method_13_code
def yX2_sideOf : MethodName := ⟨RX2, "sideOf", "(III)I"⟩
abbrev cX2_spreadAt : ByteArray := prog_4_method_14_code
def yX2_spreadAt : MethodName := ⟨RX2, "spreadAt", "(III)I"⟩
abbrev cX2_isBetween : ByteArray := prog_4_method_15_code
def yX2_isBetween : MethodName := ⟨RX2, "isBetween", "(III)Z"⟩
abbrev cX2_isCrossing : ByteArray := prog_4_method_16_code
def yX2_isCrossing : MethodName := ⟨RX2, "isCrossing", "(IIII)Z"⟩
abbrev cX2_isSound : ByteArray := prog_4_method_17_code
def yX2_isSound : MethodName := ⟨RX2, "isSound", "()Z"⟩
abbrev cX2_isFoldedAt : ByteArray := prog_4_method_18_code
def yX2_isFoldedAt : MethodName := ⟨RX2, "isFoldedAt", "(I)Z"⟩
abbrev cX2_isTouching : ByteArray := prog_4_method_19_code
def yX2_isTouching : MethodName := ⟨RX2, "isTouching", "(II)Z"⟩
abbrev cX2_signedArea : ByteArray := prog_4_method_20_code
def yX2_signedArea : MethodName := ⟨RX2, "signedArea", "()I"⟩
abbrev cX2_signedAreaOf : ByteArray := prog_4_method_21_code
def yX2_signedAreaOf : MethodName := ⟨RX2, "signedAreaOf", "(II)I"⟩
abbrev cX2_unlikenessOfSides : ByteArray := prog_4_method_22_code
def yX2_unlikenessOfSides : MethodName := ⟨RX2, "unlikenessOfSides", "(II)I"⟩
abbrev cX2_fenceDots : ByteArray := prog_4_method_23_code
def yX2_fenceDots : MethodName := ⟨RX2, "fenceDots", "()I"⟩
abbrev cX2_innerDots : ByteArray := prog_4_method_24_code
def yX2_innerDots : MethodName := ⟨RX2, "innerDots", "()I"⟩
abbrev cX2_bendAt : ByteArray := prog_4_method_25_code
def yX2_bendAt : MethodName := ⟨RX2, "bendAt", "(I)I"⟩
abbrev cX2_cornersThat : ByteArray := prog_4_method_26_code
def yX2_cornersThat : MethodName := ⟨RX2, "cornersThat", "(I)I"⟩
abbrev cX2_widthBy : ByteArray := prog_4_method_27_code
def yX2_widthBy : MethodName := ⟨RX2, "widthBy", "(II)I"⟩
abbrev cX2_placeOf : ByteArray := prog_4_method_28_code
def yX2_placeOf : MethodName := ⟨RX2, "placeOf", "(II)I"⟩
abbrev cX2_isInOneLine : ByteArray := prog_4_method_29_code
def yX2_isInOneLine : MethodName := ⟨RX2, "isInOneLine", "()Z"⟩
abbrev cX2_hullInto : ByteArray := prog_4_method_30_code
def yX2_hullInto : MethodName := ⟨RX2, "hullInto", "(LFieldsByDots$Outline;)V"⟩
abbrev cX2_rightmostFrom : ByteArray := prog_4_method_31_code
def yX2_rightmostFrom : MethodName := ⟨RX2, "rightmostFrom", "(I)I"⟩
abbrev cX2_isSeen : ByteArray := prog_4_method_32_code
def yX2_isSeen : MethodName := ⟨RX2, "isSeen", "(II)Z"⟩
abbrev cX2_isStrip : ByteArray := prog_4_method_33_code
def yX2_isStrip : MethodName := ⟨RX2, "isStrip", "(II)Z"⟩
abbrev cX2_nearestToward : ByteArray := prog_4_method_34_code
def yX2_nearestToward : MethodName := ⟨RX2, "nearestToward", "(II)I"⟩
abbrev cX2_isCrossed : ByteArray := prog_4_method_35_code
def yX2_isCrossed : MethodName := ⟨RX2, "isCrossed", "(II)Z"⟩
abbrev cX2_placeOfMiddle : ByteArray := prog_4_method_36_code
def yX2_placeOfMiddle : MethodName := ⟨RX2, "placeOfMiddle", "(II)I"⟩
abbrev cX2_longBy : ByteArray := prog_4_method_37_code
def yX2_longBy : MethodName := ⟨RX2, "longBy", "(II)I"⟩
def RX3 : String := "FieldsByDots$Sights"
def TX3 : u_T := fun k => match k with
  | 0 => ("FieldsByDots$Sights", "seen", "[I", true)
  | 1 => ("FieldsByDots$Sights", "strips", "[I", true)
  | _ => ("FieldsByDots$Sights", "size", "I", false)
def tyX3 : Nat → FieldType := fun k => match k with
  | 0 => .array .int
  | 1 => .array .int
  | _ => .int
abbrev wsX30 : List Cond := u_ws RX3 TX3 3
theorem nmX3 : ∀ a, a < 3 → ∀ b, b < 3 → a ≠ b → (TX3 a).2.1 ≠ (TX3 b).2.1 := by decide +kernel
theorem tyX3_ok : ∀ k, k < 3 → parseFieldDescriptor (TX3 k).2.2.1 = some (tyX3 k) := by decide +kernel
abbrev cX3_init : ByteArray := prog_5_method_1_code
def yX3_init : MethodName := ⟨RX3, "<init>", "()V"⟩
abbrev cX3_lookAt : ByteArray := prog_5_method_2_code
def yX3_lookAt : MethodName := ⟨RX3, "lookAt", "(LFieldsByDots$Outline;)V"⟩
abbrev cX3_hasStrip : ByteArray := prog_5_method_3_code
def yX3_hasStrip : MethodName := ⟨RX3, "hasStrip", "(II)Z"⟩
abbrev cX3_stripNumber : ByteArray := prog_5_method_4_code
def yX3_stripNumber : MethodName := ⟨RX3, "stripNumber", "()I"⟩
abbrev cX3_withSeen : ByteArray := prog_5_method_5_code
def yX3_withSeen : MethodName := ⟨RX3, "withSeen", "(I)I"⟩
abbrev cX3_fewestThatSeeAll : ByteArray := prog_5_method_6_code
def yX3_fewestThatSeeAll : MethodName := ⟨RX3, "fewestThatSeeAll", "()I"⟩
abbrev cX3_stepsBetween : ByteArray := prog_5_method_7_code
def yX3_stepsBetween : MethodName := ⟨RX3, "stepsBetween", "(II)I"⟩
def RX4 : String := "FieldsByDots$Text"
def TX4 : u_T := fun k => match k with
  | 0 => ("FieldsByDots$Text", "bytes", "[I", true)
  | _ => ("FieldsByDots$Text", "length", "I", false)
def tyX4 : Nat → FieldType := fun k => match k with
  | 0 => .array .int
  | _ => .int
abbrev wsX40 : List Cond := u_ws RX4 TX4 2
theorem nmX4 : ∀ a, a < 2 → ∀ b, b < 2 → a ≠ b → (TX4 a).2.1 ≠ (TX4 b).2.1 := by decide +kernel
theorem tyX4_ok : ∀ k, k < 2 → parseFieldDescriptor (TX4 k).2.2.1 = some (tyX4 k) := by decide +kernel
abbrev cX4_init : ByteArray := prog_6_method_1_code
def yX4_init : MethodName := ⟨RX4, "<init>", "()V"⟩
abbrev cX4_append : ByteArray := prog_6_method_2_code
def yX4_append : MethodName := ⟨RX4, "append", "(IJ)V"⟩
abbrev cX4_firstFault : ByteArray := prog_6_method_3_code
def yX4_firstFault : MethodName := ⟨RX4, "firstFault", "()I"⟩
abbrev cX4_isFaulty : ByteArray := prog_6_method_4_code
def yX4_isFaulty : MethodName := ⟨RX4, "isFaulty", "(I)Z"⟩
abbrev cX4_isToldBefore : ByteArray := prog_6_method_5_code
def yX4_isToldBefore : MethodName := ⟨RX4, "isToldBefore", "(I)Z"⟩
abbrev cX4_valueOf : ByteArray := prog_6_method_6_code
def yX4_valueOf : MethodName := ⟨RX4, "valueOf", "(I)I"⟩
abbrev cX4_tellInto : ByteArray := prog_6_method_7_code
def yX4_tellInto : MethodName := ⟨RX4, "tellInto", "(LFieldsByDots$Outline;)V"⟩
def RX5 : String := "FieldsByDots"
def TX5 : u_T := fun k => match k with
  | 0 => ("FieldsByDots", "text", "LFieldsByDots$Text;", true)
  | 1 => ("FieldsByDots", "fields", "[LFieldsByDots$Outline;", true)
  | 2 => ("FieldsByDots", "kept", "[LFieldsByDots$Outline;", true)
  | 3 => ("FieldsByDots", "isKept", "[Z", true)
  | 4 => ("FieldsByDots", "spare", "LFieldsByDots$Outline;", true)
  | 5 => ("FieldsByDots", "sights", "LFieldsByDots$Sights;", true)
  | 6 => ("FieldsByDots", "cuts", "LFieldsByDots$Cuts;", true)
  | _ => ("FieldsByDots", "likeness", "LFieldsByDots$Likeness;", true)
def tyX5 : Nat → FieldType := fun k => match k with
  | 0 => .object "FieldsByDots$Text"
  | 1 => .array (.object "FieldsByDots$Outline")
  | 2 => .array (.object "FieldsByDots$Outline")
  | 3 => .array .boolean
  | 4 => .object "FieldsByDots$Outline"
  | 5 => .object "FieldsByDots$Sights"
  | 6 => .object "FieldsByDots$Cuts"
  | _ => .object "FieldsByDots$Likeness"
abbrev wsX50 : List Cond := u_ws RX5 TX5 8
theorem nmX5 : ∀ a, a < 8 → ∀ b, b < 8 → a ≠ b → (TX5 a).2.1 ≠ (TX5 b).2.1 := by decide +kernel
theorem tyX5_ok : ∀ k, k < 8 → parseFieldDescriptor (TX5 k).2.2.1 = some (tyX5 k) := by decide +kernel
abbrev cX5_init : ByteArray := prog_1_method_1_code
def yX5_init : MethodName := ⟨RX5, "<init>", "()V"⟩
abbrev cX5_write : ByteArray := prog_1_method_2_code
def yX5_write : MethodName := ⟨RX5, "write", "(IJ)I"⟩
abbrev cX5_wipe : ByteArray := prog_1_method_3_code
def yX5_wipe : MethodName := ⟨RX5, "wipe", "()I"⟩
abbrev cX5_fault : ByteArray := prog_1_method_4_code
def yX5_fault : MethodName := ⟨RX5, "fault", "()I"⟩
abbrev cX5_field : ByteArray := prog_1_method_5_code
def yX5_field : MethodName := ⟨RX5, "field", "(I)I"⟩
abbrev cX5_corner : ByteArray := prog_1_method_6_code
def yX5_corner : MethodName := ⟨RX5, "corner", "(III)I"⟩
abbrev cX5_move : ByteArray := prog_1_method_7_code
def yX5_move : MethodName := ⟨RX5, "move", "(IIII)I"⟩
abbrev cX5_put : ByteArray := prog_1_method_8_code
def yX5_put : MethodName := ⟨RX5, "put", "(IIII)I"⟩
abbrev cX5_take : ByteArray := prog_1_method_9_code
def yX5_take : MethodName := ⟨RX5, "take", "(II)I"⟩
abbrev cX5_turn : ByteArray := prog_1_method_10_code
def yX5_turn : MethodName := ⟨RX5, "turn", "(II)I"⟩
abbrev cX5_shift : ByteArray := prog_1_method_11_code
def yX5_shift : MethodName := ⟨RX5, "shift", "(III)I"⟩
abbrev cX5_sound : ByteArray := prog_1_method_12_code
def yX5_sound : MethodName := ⟨RX5, "sound", "(I)I"⟩
abbrev cX5_about : ByteArray := prog_1_method_13_code
def yX5_about : MethodName := ⟨RX5, "about", "(II)I"⟩
abbrev cX5_where : ByteArray := prog_1_method_14_code
def yX5_where : MethodName := ⟨RX5, "where", "(III)I"⟩
abbrev cX5_how : ByteArray := prog_1_method_15_code
def yX5_how : MethodName := ⟨RX5, "how", "(II)I"⟩
abbrev cX5_wide : ByteArray := prog_1_method_16_code
def yX5_wide : MethodName := ⟨RX5, "wide", "(III)I"⟩
abbrev cX5_narrow : ByteArray := prog_1_method_17_code
def yX5_narrow : MethodName := ⟨RX5, "narrow", "(II)I"⟩
abbrev cX5_grown : ByteArray := prog_1_method_18_code
def yX5_grown : MethodName := ⟨RX5, "grown", "(II)J"⟩
abbrev cX5_hull : ByteArray := prog_1_method_19_code
def yX5_hull : MethodName := ⟨RX5, "hull", "(II)I"⟩
abbrev cX5_sees : ByteArray := prog_1_method_20_code
def yX5_sees : MethodName := ⟨RX5, "sees", "(III)I"⟩
abbrev cX5_strip : ByteArray := prog_1_method_21_code
def yX5_strip : MethodName := ⟨RX5, "strip", "(III)I"⟩
abbrev cX5_least : ByteArray := prog_1_method_22_code
def yX5_least : MethodName := ⟨RX5, "least", "(II)I"⟩
abbrev cX5_fair : ByteArray := prog_1_method_23_code
def yX5_fair : MethodName := ⟨RX5, "fair", "(I)I"⟩
abbrev cX5_sides : ByteArray := prog_1_method_24_code
def yX5_sides : MethodName := ⟨RX5, "sides", "(III)I"⟩
abbrev cX5_guards : ByteArray := prog_1_method_25_code
def yX5_guards : MethodName := ⟨RX5, "guards", "(I)I"⟩
abbrev cX5_hops : ByteArray := prog_1_method_26_code
def yX5_hops : MethodName := ⟨RX5, "hops", "(III)I"⟩
abbrev cX5_alike : ByteArray := prog_1_method_27_code
def yX5_alike : MethodName := ⟨RX5, "alike", "(II)I"⟩
abbrev cX5_mirrored : ByteArray := prog_1_method_28_code
def yX5_mirrored : MethodName := ⟨RX5, "mirrored", "(II)I"⟩
abbrev cX5_common : ByteArray := prog_1_method_29_code
def yX5_common : MethodName := ⟨RX5, "common", "(II)I"⟩
abbrev cX5_keep : ByteArray := prog_1_method_30_code
def yX5_keep : MethodName := ⟨RX5, "keep", "(I)I"⟩
abbrev cX5_again : ByteArray := prog_1_method_31_code
def yX5_again : MethodName := ⟨RX5, "again", "(I)I"⟩
abbrev cX5_count : ByteArray := prog_1_method_32_code
def yX5_count : MethodName := ⟨RX5, "count", "(I)I"⟩
abbrev cX5_isField : ByteArray := prog_1_method_33_code
def yX5_isField : MethodName := ⟨RX5, "isField", "(I)Z"⟩
abbrev cX5_isDot : ByteArray := prog_1_method_34_code
def yX5_isDot : MethodName := ⟨RX5, "isDot", "(II)Z"⟩
abbrev cX5_isSlant : ByteArray := prog_1_method_35_code
def yX5_isSlant : MethodName := ⟨RX5, "isSlant", "(II)Z"⟩
abbrev cX5_isCorner : ByteArray := prog_1_method_36_code
def yX5_isCorner : MethodName := ⟨RX5, "isCorner", "(II)Z"⟩
abbrev cX5_isPair : ByteArray := prog_1_method_37_code
def yX5_isPair : MethodName := ⟨RX5, "isPair", "(III)Z"⟩
abbrev cX5_refusalOfTwo : ByteArray := prog_1_method_38_code
def yX5_refusalOfTwo : MethodName := ⟨RX5, "refusalOfTwo", "(II)I"⟩
abbrev cX5_aboutShape : ByteArray := prog_1_method_39_code
def yX5_aboutShape : MethodName := ⟨RX5, "aboutShape", "(LFieldsByDots$Outline;I)I"⟩
abbrev cX5_aboutCuts : ByteArray := prog_1_method_40_code
def yX5_aboutCuts : MethodName := ⟨RX5, "aboutCuts", "(LFieldsByDots$Outline;I)I"⟩
abbrev cX5_narrowest : ByteArray := prog_1_method_41_code
def yX5_narrowest : MethodName := ⟨RX5, "narrowest", "(LFieldsByDots$Outline;I)I"⟩
abbrev cX5_fairest : ByteArray := prog_1_method_42_code
def yX5_fairest : MethodName := ⟨RX5, "fairest", "(LFieldsByDots$Outline;)I"⟩
abbrev cX5_allCorners : ByteArray := prog_1_method_43_code
def yX5_allCorners : MethodName := ⟨RX5, "allCorners", "()I"⟩
abbrev cX5_soundFields : ByteArray := prog_1_method_44_code
def yX5_soundFields : MethodName := ⟨RX5, "soundFields", "()I"⟩
abbrev cX5_commonDivisor : ByteArray := prog_1_method_45_code
def yX5_commonDivisor : MethodName := ⟨RX5, "commonDivisor", "(II)I"⟩
def RX6 : String := "FieldsByDotsModel"
def TX6 : u_T := fun k => match k with
  | 0 => ("FieldsByDotsModel", "text", "[I", true)
  | 1 => ("FieldsByDotsModel", "length", "I", false)
  | 2 => ("FieldsByDotsModel", "readX", "[I", true)
  | 3 => ("FieldsByDotsModel", "readY", "[I", true)
  | 4 => ("FieldsByDotsModel", "readMany", "I", false)
  | 5 => ("FieldsByDotsModel", "xs", "[I", true)
  | 6 => ("FieldsByDotsModel", "ys", "[I", true)
  | 7 => ("FieldsByDotsModel", "many", "[I", true)
  | 8 => ("FieldsByDotsModel", "hullX", "[I", true)
  | 9 => ("FieldsByDotsModel", "hullY", "[I", true)
  | 10 => ("FieldsByDotsModel", "up", "[I", true)
  | 11 => ("FieldsByDotsModel", "down", "[I", true)
  | 12 => ("FieldsByDotsModel", "meets", "I", false)
  | 13 => ("FieldsByDotsModel", "strips", "[Z", true)
  | 14 => ("FieldsByDotsModel", "isOpen", "[Z", true)
  | 15 => ("FieldsByDotsModel", "cuts", "[I", true)
  | 16 => ("FieldsByDotsModel", "costs", "[I", true)
  | 17 => ("FieldsByDotsModel", "chosen", "[I", true)
  | 18 => ("FieldsByDotsModel", "seen", "[I", true)
  | 19 => ("FieldsByDotsModel", "mapA", "I", false)
  | 20 => ("FieldsByDotsModel", "mapB", "I", false)
  | 21 => ("FieldsByDotsModel", "mapC", "I", false)
  | 22 => ("FieldsByDotsModel", "mapD", "I", false)
  | 23 => ("FieldsByDotsModel", "mapBy", "I", false)
  | 24 => ("FieldsByDotsModel", "isKept", "[Z", true)
  | 25 => ("FieldsByDotsModel", "keptX", "[I", true)
  | 26 => ("FieldsByDotsModel", "keptY", "[I", true)
  | _ => ("FieldsByDotsModel", "keptMany", "[I", true)
def tyX6 : Nat → FieldType := fun k => match k with
  | 0 => .array .int
  | 1 => .int
  | 2 => .array .int
  | 3 => .array .int
  | 4 => .int
  | 5 => .array .int
  | 6 => .array .int
  | 7 => .array .int
  | 8 => .array .int
  | 9 => .array .int
  | 10 => .array .int
  | 11 => .array .int
  | 12 => .int
  | 13 => .array .boolean
  | 14 => .array .boolean
  | 15 => .array .int
  | 16 => .array .int
  | 17 => .array .int
  | 18 => .array .int
  | 19 => .int
  | 20 => .int
  | 21 => .int
  | 22 => .int
  | 23 => .int
  | 24 => .array .boolean
  | 25 => .array .int
  | 26 => .array .int
  | _ => .array .int
abbrev wsX60 : List Cond := u_ws RX6 TX6 28
theorem nmX6 : ∀ a, a < 28 → ∀ b, b < 28 → a ≠ b → (TX6 a).2.1 ≠ (TX6 b).2.1 := by decide +kernel
theorem tyX6_ok : ∀ k, k < 28 → parseFieldDescriptor (TX6 k).2.2.1 = some (tyX6 k) := by decide +kernel
abbrev cX6_init : ByteArray := prog_8_method_1_code
def yX6_init : MethodName := ⟨RX6, "<init>", "()V"⟩
abbrev cX6_in : ByteArray := prog_8_method_3_code
def yX6_in : MethodName := ⟨RX6, "in", "(JJJ)Z"⟩
abbrev cX6_write : ByteArray := prog_8_method_4_code
def yX6_write : MethodName := ⟨RX6, "write", "(IJ)I"⟩
abbrev cX6_wipe : ByteArray := prog_8_method_5_code
def yX6_wipe : MethodName := ⟨RX6, "wipe", "()I"⟩
abbrev cX6_valueOf : ByteArray := prog_8_method_6_code
def yX6_valueOf : MethodName := ⟨RX6, "valueOf", "(I)I"⟩
abbrev cX6_isTold : ByteArray := prog_8_method_7_code
def yX6_isTold : MethodName := ⟨RX6, "isTold", "(II)Z"⟩
abbrev cX6_readText : ByteArray := prog_8_method_8_code
def yX6_readText : MethodName := ⟨RX6, "readText", "()I"⟩
abbrev cX6_fault : ByteArray := prog_8_method_9_code
def yX6_fault : MethodName := ⟨RX6, "fault", "()I"⟩
abbrev cX6_isField : ByteArray := prog_8_method_10_code
def yX6_isField : MethodName := ⟨RX6, "isField", "(I)Z"⟩
abbrev cX6_isCorner : ByteArray := prog_8_method_11_code
def yX6_isCorner : MethodName := ⟨RX6, "isCorner", "(II)Z"⟩
abbrev cX6_isDot : ByteArray := prog_8_method_12_code
def yX6_isDot : MethodName := ⟨RX6, "isDot", "(II)Z"⟩
abbrev cX6_field : ByteArray := prog_8_method_13_code
def yX6_field : MethodName := ⟨RX6, "field", "(I)I"⟩
abbrev cX6_corner : ByteArray := prog_8_method_14_code
def yX6_corner : MethodName := ⟨RX6, "corner", "(III)I"⟩
abbrev cX6_cornerAt : ByteArray := prog_8_method_15_code
def yX6_cornerAt : MethodName := ⟨RX6, "cornerAt", "(III)I"⟩
abbrev cX6_move : ByteArray := prog_8_method_16_code
def yX6_move : MethodName := ⟨RX6, "move", "(IIII)I"⟩
abbrev cX6_put : ByteArray := prog_8_method_17_code
def yX6_put : MethodName := ⟨RX6, "put", "(IIII)I"⟩
abbrev cX6_take : ByteArray := prog_8_method_18_code
def yX6_take : MethodName := ⟨RX6, "take", "(II)I"⟩
abbrev cX6_turn : ByteArray := prog_8_method_19_code
def yX6_turn : MethodName := ⟨RX6, "turn", "(II)I"⟩
abbrev cX6_shift : ByteArray := prog_8_method_20_code
def yX6_shift : MethodName := ⟨RX6, "shift", "(III)I"⟩
abbrev cX6_place : ByteArray := prog_8_method_21_code
def yX6_place : MethodName := ⟨RX6, "place", "(II)I"⟩
abbrev cX6_side : ByteArray := prog_8_method_22_code
def yX6_side : MethodName := ⟨RX6, "side", "(III)I"⟩
abbrev cX6_isBetween : ByteArray := prog_8_method_23_code
def yX6_isBetween : MethodName := ⟨RX6, "isBetween", "(III)Z"⟩
abbrev cX6_meet : ByteArray := prog_8_method_24_code
def yX6_meet : MethodName := ⟨RX6, "meet", "(IIII)Z"⟩
abbrev cX6_sign : ByteArray := prog_8_method_25_code
def yX6_sign : MethodName := ⟨RX6, "sign", "(I)I"⟩
abbrev cX6_isSound : ByteArray := prog_8_method_26_code
def yX6_isSound : MethodName := ⟨RX6, "isSound", "(I)Z"⟩
abbrev cX6_sound : ByteArray := prog_8_method_27_code
def yX6_sound : MethodName := ⟨RX6, "sound", "(I)I"⟩
abbrev cX6_areaOf : ByteArray := prog_8_method_28_code
def yX6_areaOf : MethodName := ⟨RX6, "areaOf", "(III)I"⟩
abbrev cX6_area : ByteArray := prog_8_method_29_code
def yX6_area : MethodName := ⟨RX6, "area", "(I)I"⟩
abbrev cX6_without : ByteArray := prog_8_method_30_code
def yX6_without : MethodName := ⟨RX6, "without", "(I)I"⟩
abbrev cX6_divisor : ByteArray := prog_8_method_31_code
def yX6_divisor : MethodName := ⟨RX6, "divisor", "(II)I"⟩
abbrev cX6_fenceDots : ByteArray := prog_8_method_32_code
def yX6_fenceDots : MethodName := ⟨RX6, "fenceDots", "(I)I"⟩
abbrev cX6_howOf : ByteArray := prog_8_method_33_code
def yX6_howOf : MethodName := ⟨RX6, "howOf", "(II)I"⟩
abbrev cX6_whereOf : ByteArray := prog_8_method_34_code
def yX6_whereOf : MethodName := ⟨RX6, "whereOf", "(IJJJ)I"⟩
abbrev cX6_where : ByteArray := prog_8_method_35_code
def yX6_where : MethodName := ⟨RX6, "where", "(III)I"⟩
abbrev cX6_how : ByteArray := prog_8_method_36_code
def yX6_how : MethodName := ⟨RX6, "how", "(II)I"⟩
abbrev cX6_widthOf : ByteArray := prog_8_method_37_code
def yX6_widthOf : MethodName := ⟨RX6, "widthOf", "(III)I"⟩
abbrev cX6_wide : ByteArray := prog_8_method_38_code
def yX6_wide : MethodName := ⟨RX6, "wide", "(III)I"⟩
abbrev cX6_narrow : ByteArray := prog_8_method_39_code
def yX6_narrow : MethodName := ⟨RX6, "narrow", "(II)I"⟩
abbrev cX6_grown : ByteArray := prog_8_method_40_code
def yX6_grown : MethodName := ⟨RX6, "grown", "(II)J"⟩
abbrev cX6_hull : ByteArray := prog_8_method_41_code
def yX6_hull : MethodName := ⟨RX6, "hull", "(II)I"⟩
abbrev cX6_nextHull : ByteArray := prog_8_method_42_code
def yX6_nextHull : MethodName := ⟨RX6, "nextHull", "(II)I"⟩
abbrev cX6_long2 : ByteArray := prog_8_method_43_code
def yX6_long2 : MethodName := ⟨RX6, "long2", "(II)I"⟩
abbrev cX6_addMeet : ByteArray := prog_8_method_44_code
def yX6_addMeet : MethodName := ⟨RX6, "addMeet", "(II)V"⟩
abbrev cX6_layMeet : ByteArray := prog_8_method_45_code
def yX6_layMeet : MethodName := ⟨RX6, "layMeet", "(IIII)V"⟩
abbrev cX6_partOf : ByteArray := prog_8_method_46_code
def yX6_partOf : MethodName := ⟨RX6, "partOf", "(III)I"⟩
abbrev cX6_isSight : ByteArray := prog_8_method_47_code
def yX6_isSight : MethodName := ⟨RX6, "isSight", "(III)Z"⟩
abbrev cX6_isStrip : ByteArray := prog_8_method_48_code
def yX6_isStrip : MethodName := ⟨RX6, "isStrip", "(III)Z"⟩
abbrev cX6_isAlong : ByteArray := prog_8_method_49_code
def yX6_isAlong : MethodName := ⟨RX6, "isAlong", "(IIII)Z"⟩
abbrev cX6_areTwo : ByteArray := prog_8_method_50_code
def yX6_areTwo : MethodName := ⟨RX6, "areTwo", "(III)Z"⟩
abbrev cX6_sees : ByteArray := prog_8_method_51_code
def yX6_sees : MethodName := ⟨RX6, "sees", "(III)I"⟩
abbrev cX6_strip : ByteArray := prog_8_method_52_code
def yX6_strip : MethodName := ⟨RX6, "strip", "(III)I"⟩
abbrev cX6_layStrips : ByteArray := prog_8_method_53_code
def yX6_layStrips : MethodName := ⟨RX6, "layStrips", "(I)I"⟩
abbrev cX6_layCuts : ByteArray := prog_8_method_54_code
def yX6_layCuts : MethodName := ⟨RX6, "layCuts", "(I)V"⟩
abbrev cX6_about : ByteArray := prog_8_method_55_code
def yX6_about : MethodName := ⟨RX6, "about", "(II)I"⟩
abbrev cX6_layLeast : ByteArray := prog_8_method_56_code
def yX6_layLeast : MethodName := ⟨RX6, "layLeast", "(I)I"⟩
abbrev cX6_cross : ByteArray := prog_8_method_57_code
def yX6_cross : MethodName := ⟨RX6, "cross", "(II)Z"⟩
abbrev cX6_least : ByteArray := prog_8_method_58_code
def yX6_least : MethodName := ⟨RX6, "least", "(II)I"⟩
abbrev cX6_sidesOf : ByteArray := prog_8_method_59_code
def yX6_sidesOf : MethodName := ⟨RX6, "sidesOf", "(III)I"⟩
abbrev cX6_fair : ByteArray := prog_8_method_60_code
def yX6_fair : MethodName := ⟨RX6, "fair", "(I)I"⟩
abbrev cX6_sides : ByteArray := prog_8_method_61_code
def yX6_sides : MethodName := ⟨RX6, "sides", "(III)I"⟩
abbrev cX6_laySeen : ByteArray := prog_8_method_62_code
def yX6_laySeen : MethodName := ⟨RX6, "laySeen", "(I)V"⟩
abbrev cX6_ones : ByteArray := prog_8_method_63_code
def yX6_ones : MethodName := ⟨RX6, "ones", "(I)I"⟩
abbrev cX6_guards : ByteArray := prog_8_method_64_code
def yX6_guards : MethodName := ⟨RX6, "guards", "(I)I"⟩
abbrev cX6_hops : ByteArray := prog_8_method_65_code
def yX6_hops : MethodName := ⟨RX6, "hops", "(III)I"⟩
abbrev cX6_isMap : ByteArray := prog_8_method_66_code
def yX6_isMap : MethodName := ⟨RX6, "isMap", "(IIIII)Z"⟩
abbrev cX6_isLike : ByteArray := prog_8_method_67_code
def yX6_isLike : MethodName := ⟨RX6, "isLike", "(III)Z"⟩
abbrev cX6_alike : ByteArray := prog_8_method_68_code
def yX6_alike : MethodName := ⟨RX6, "alike", "(II)I"⟩
abbrev cX6_mirrored : ByteArray := prog_8_method_69_code
def yX6_mirrored : MethodName := ⟨RX6, "mirrored", "(II)I"⟩
abbrev cX6_common : ByteArray := prog_8_method_70_code
def yX6_common : MethodName := ⟨RX6, "common", "(II)I"⟩
abbrev cX6_corners : ByteArray := prog_8_method_71_code
def yX6_corners : MethodName := ⟨RX6, "corners", "()I"⟩
abbrev cX6_keep : ByteArray := prog_8_method_72_code
def yX6_keep : MethodName := ⟨RX6, "keep", "(I)I"⟩
abbrev cX6_again : ByteArray := prog_8_method_73_code
def yX6_again : MethodName := ⟨RX6, "again", "(I)I"⟩
abbrev cX6_count : ByteArray := prog_8_method_74_code
def yX6_count : MethodName := ⟨RX6, "count", "(I)I"⟩
def RJ6 : String := "java/lang/Integer"
def TJ6 : u_T := fun k => match k with
  | _ => ("", "", "", false)
def tyJ6 : Nat → FieldType := fun k => match k with
  | _ => .int
abbrev wsJ60 : List Cond := u_ws RJ6 TJ6 0
theorem nmJ6 : ∀ a, a < 0 → ∀ b, b < 0 → a ≠ b → (TJ6 a).2.1 ≠ (TJ6 b).2.1 := by decide +kernel
theorem tyJ6_ok : ∀ k, k < 0 → parseFieldDescriptor (TJ6 k).2.2.1 = some (tyJ6 k) := by decide +kernel
abbrev cJ6_bitCount_0f7a4 : ByteArray := prog_9_method_49_code
def yJ6_bitCount_0f7a4 : MethodName := ⟨RJ6, "bitCount", "(I)I"⟩
def RJ9 : String := "java/lang/Math"
def TJ9 : u_T := fun k => match k with
  | _ => ("", "", "", false)
def tyJ9 : Nat → FieldType := fun k => match k with
  | _ => .int
abbrev wsJ90 : List Cond := u_ws RJ9 TJ9 0
theorem nmJ9 : ∀ a, a < 0 → ∀ b, b < 0 → a ≠ b → (TJ9 a).2.1 ≠ (TJ9 b).2.1 := by decide +kernel
theorem tyJ9_ok : ∀ k, k < 0 → parseFieldDescriptor (TJ9 k).2.2.1 = some (tyJ9 k) := by decide +kernel
abbrev cJ9_abs_0f7a4 : ByteArray := prog_10_method_59_code
def yJ9_abs_0f7a4 : MethodName := ⟨RJ9, "abs", "(I)I"⟩
abbrev cJ9_max_7cf53 : ByteArray := prog_10_method_65_code
def yJ9_max_7cf53 : MethodName := ⟨RJ9, "max", "(II)I"⟩
abbrev cJ9_min_7cf53 : ByteArray := prog_10_method_69_code
def yJ9_min_7cf53 : MethodName := ⟨RJ9, "min", "(II)I"⟩

def RL : String := "FieldsByDotsLaw"
abbrev cL_law : ByteArray := code
def yL_law : MethodName := ⟨RL, "law", "([I)Z"⟩
abbrev vwCl : List vw_C := [(RX0, TX0, 4), (RX1, TX1, 1), (RX2, TX2, 3), (RX3, TX3, 3), (RX4, TX4, 2), (RX5, TX5, 8), (RX6, TX6, 28)]
end
section
/-- 0: FieldsByDots$Cuts.<init>()V -/
def b0_0 : List Instr := [.aload 0, .monitorenter, .aload 0, .iconst 100, .newarray .int, .putfield 0, .aload 0, .iconst 100, .newarray .int, .putfield 1, .aload 0, .iconst 100, .newarray .long, .putfield 2, .return_]
def bk0 : Nat → List Instr := fun pc => match pc with
  | 0 => b0_0
  | _ => []
/-- 1: FieldsByDots$Cuts.plan(LFieldsByDots$Outline;LFieldsByDots$Sights;)V -/
def b1_0 : List Instr := [.aload 0, .aload 1, .getfield 66, .putfield 3, .iconst 1, .istore 3, .jsr 10]
def b1_10 : List Instr := [.iload 3, .aload 0, .getfield 3, .if_icmp .ge 97, .iconst 0, .istore 4, .jsr 21]
def b1_21 : List Instr := [.iload 4, .iload 3, .iadd, .aload 0, .getfield 3, .if_icmp .ge 91, .aload 0, .iload 4, .iload 4, .iload 3, .iadd, .aload 2, .iload 4, .iload 4, .iload 3, .iadd, .invokeinterface 54 3, .invokeinterface 2 4, .aload 2, .iload 4, .iload 4, .iload 3, .iadd, .invokeinterface 54 3, .ifCond .eq 85, .aload 0, .iload 4, .iload 4, .iload 3, .iadd, .aload 1, .iload 4, .iload 4, .iload 3, .iadd, .invokeinterface 51 3, .invokeinterface 3 4, .jsr 85]
def b1_85 : List Instr := [.iinc 4 1, .goto 21]
def b1_91 : List Instr := [.iinc 3 1, .goto 10]
def b1_97 : List Instr := [.return_]
def bk1 : Nat → List Instr := fun pc => match pc with
  | 0 => b1_0
  | 10 => b1_10
  | 21 => b1_21
  | 85 => b1_85
  | 91 => b1_91
  | 97 => b1_97
  | _ => []
/-- 2: FieldsByDots$Cuts.planPart(IIZ)V -/
def b2_0 : List Instr := [.iconst 10, .iload 1, .imul, .iload 2, .iadd, .istore 4, .aload 0, .getfield 0, .iload 4, .iconst 0, .iastore, .aload 0, .getfield 1, .iload 4, .iconst 0, .iastore, .aload 0, .getfield 2, .iload 4, .goto_w 0, .lastore, .iload 2, .iload 1, .iconst 1, .iadd, .if_icmp .ne 50, .aload 0, .getfield 0, .iload 4, .iconst 1, .iastore, .goto 103]
def b2_50 : List Instr := [.iload 3, .ifCond .ne 66, .iload 2, .iload 1, .isub, .aload 0, .getfield 3, .iconst 1, .isub, .if_icmp .ne 103, .jsr 66]
def b2_66 : List Instr := [.iload 1, .iconst 1, .iadd, .istore 5, .jsr 71]
def b2_71 : List Instr := [.iload 5, .iload 2, .if_icmp .ge 103, .aload 0, .iconst 10, .iload 1, .imul, .iload 5, .iadd, .iconst 10, .iload 5, .imul, .iload 2, .iadd, .iload 4, .invokeinterface 4 4, .iinc 5 1, .goto 71]
def b2_103 : List Instr := [.return_]
def bk2 : Nat → List Instr := fun pc => match pc with
  | 0 => b2_0
  | 50 => b2_50
  | 66 => b2_66
  | 71 => b2_71
  | 103 => b2_103
  | _ => []
/-- 3: FieldsByDots$Cuts.addStrip(III)V -/
def b3_0 : List Instr := [.aload 0, .getfield 1, .iconst 10, .iload 1, .imul, .iload 2, .iadd, .dup2, .iaload, .iload 3, .iadd, .iastore, .aload 0, .getfield 2, .iconst 10, .iload 1, .imul, .iload 2, .iadd, .dup2, .laload, .iload 1, .iload 2, .invokeinterface 5 2, .lor, .lastore, .return_]
def bk3 : Nat → List Instr := fun pc => match pc with
  | 0 => b3_0
  | _ => []
/-- 4: FieldsByDots$Cuts.planTip(III)V -/
def b4_0 : List Instr := [.aload 0, .getfield 0, .iload 1, .iaload, .aload 0, .getfield 0, .iload 2, .iaload, .imul, .istore 4, .iload 4, .ifCond .ne 21, .return_]
def b4_21 : List Instr := [.aload 0, .getfield 1, .iload 1, .iaload, .aload 0, .getfield 1, .iload 2, .iaload, .iadd, .istore 5, .aload 0, .getfield 2, .iload 1, .laload, .aload 0, .getfield 2, .iload 2, .laload, .lor, .lstore 6, .aload 0, .getfield 0, .iload 3, .iaload, .ifCond .eq 71, .iload 5, .aload 0, .getfield 1, .iload 3, .iaload, .if_icmp .ge 75, .jsr 71]
def b4_71 : List Instr := [.iconst 1, .goto 76]
def b4_75 : List Instr := [.iconst 0, .jsr 76]
def b4_76 : List Instr := [.istore 8, .iload 8, .ifCond .ne 106, .iload 5, .aload 0, .getfield 1, .iload 3, .iaload, .if_icmp .ne 122, .lload 6, .aload 0, .getfield 2, .iload 3, .laload, .lcmp, .ifCond .le 122, .jsr 106]
def b4_106 : List Instr := [.aload 0, .getfield 1, .iload 3, .iload 5, .iastore, .aload 0, .getfield 2, .iload 3, .lload 6, .lastore, .jsr 122]
def b4_122 : List Instr := [.aload 0, .getfield 0, .iload 3, .dup2, .iaload, .iload 4, .iadd, .iastore, .return_]
def bk4 : Nat → List Instr := fun pc => match pc with
  | 0 => b4_0
  | 21 => b4_21
  | 71 => b4_71
  | 75 => b4_75
  | 76 => b4_76
  | 106 => b4_106
  | 122 => b4_122
  | _ => []
/-- 5: FieldsByDots$Cuts.bitOf(II)J -/
def b5_0 : List Instr := [.iload 0, .iconst 19, .iload 0, .isub, .imul, .iconst 2, .idiv, .iload 1, .iadd, .iload 0, .isub, .iconst 1, .isub, .istore 2, .goto_w 1, .iconst 62, .iload 2, .isub, .lshl, .lreturn]
def bk5 : Nat → List Instr := fun pc => match pc with
  | 0 => b5_0
  | _ => []
/-- 6: FieldsByDots$Cuts.whole()I -/
def b6_0 : List Instr := [.aload 0, .getfield 3, .iconst 1, .isub, .ireturn]
def bk6 : Nat → List Instr := fun pc => match pc with
  | 0 => b6_0
  | _ => []
/-- 7: FieldsByDots$Cuts.allWays()I -/
def b7_0 : List Instr := [.aload 0, .getfield 0, .aload 0, .invokeinterface 6 1, .iaload, .ireturn]
def bk7 : Nat → List Instr := fun pc => match pc with
  | 0 => b7_0
  | _ => []
/-- 8: FieldsByDots$Cuts.leastLong()I -/
def b8_0 : List Instr := [.aload 0, .getfield 1, .aload 0, .invokeinterface 6 1, .iaload, .ireturn]
def bk8 : Nat → List Instr := fun pc => match pc with
  | 0 => b8_0
  | _ => []
/-- 9: FieldsByDots$Cuts.stripOfFirst(I)I -/
def b9_0 : List Instr := [.iconst 0, .istore 2, .iconst 0, .istore 3, .jsr 4]
def b9_4 : List Instr := [.iload 3, .aload 0, .getfield 3, .if_icmp .ge 75, .iload 3, .iconst 1, .iadd, .istore 4, .jsr 17]
def b9_17 : List Instr := [.iload 4, .aload 0, .getfield 3, .if_icmp .ge 69, .aload 0, .getfield 2, .aload 0, .invokeinterface 6 1, .laload, .iload 3, .iload 4, .invokeinterface 5 2, .land, .goto_w 0, .lcmp, .ifCond .eq 63, .iload 2, .iload 1, .if_icmp .ne 60, .iconst 10, .iload 3, .imul, .iload 4, .iadd, .ireturn]
def b9_60 : List Instr := [.iinc 2 1, .jsr 63]
def b9_63 : List Instr := [.iinc 4 1, .goto 17]
def b9_69 : List Instr := [.iinc 3 1, .goto 4]
def b9_75 : List Instr := [.iconst (-9), .ireturn]
def bk9 : Nat → List Instr := fun pc => match pc with
  | 0 => b9_0
  | 4 => b9_4
  | 17 => b9_17
  | 60 => b9_60
  | 63 => b9_63
  | 69 => b9_69
  | 75 => b9_75
  | _ => []
/-- 10: FieldsByDots$Likeness.<init>()V -/
def b10_0 : List Instr := [.aload 0, .monitorenter, .aload 0, .new 2, .dup, .invokeinterface 15 1, .putfield 32, .return_]
def bk10 : Nat → List Instr := fun pc => match pc with
  | 0 => b10_0
  | _ => []
/-- 11: FieldsByDots$Likeness.isFound(LFieldsByDots$Outline;LFieldsByDots$Outline;I)Z -/
def b11_0 : List Instr := [.aload 1, .getfield 66, .aload 2, .getfield 66, .if_icmp .eq 13, .iconst 0, .freturn]
def b11_13 : List Instr := [.iconst 0, .istore 4, .jsr 16]
def b11_16 : List Instr := [.iload 4, .aload 2, .getfield 66, .if_icmp .ge 69, .aload 0, .aload 2, .iload 4, .iconst 0, .invokeinterface 12 4, .aload 0, .aload 1, .iload 3, .invokeinterface 13 3, .ifCond .eq 44, .iconst 1, .freturn]
def b11_44 : List Instr := [.aload 0, .aload 2, .iload 4, .iconst 1, .invokeinterface 12 4, .aload 0, .aload 1, .iload 3, .invokeinterface 13 3, .ifCond .eq 63, .iconst 1, .freturn]
def b11_63 : List Instr := [.iinc 4 1, .goto 16]
def b11_69 : List Instr := [.iconst 0, .freturn]
def bk11 : Nat → List Instr := fun pc => match pc with
  | 0 => b11_0
  | 13 => b11_13
  | 16 => b11_16
  | 44 => b11_44
  | 63 => b11_63
  | 69 => b11_69
  | _ => []
/-- 12: FieldsByDots$Likeness.arrange(LFieldsByDots$Outline;IZ)V -/
def b12_0 : List Instr := [.iload 2, .istore 4, .aload 0, .getfield 32, .iconst 0, .putfield 66, .iconst 0, .istore 5, .jsr 14]
def b12_14 : List Instr := [.iload 5, .aload 1, .getfield 66, .if_icmp .ge 73, .aload 0, .getfield 32, .iload 5, .aload 1, .getfield 64, .iload 4, .iaload, .aload 1, .getfield 65, .iload 4, .iaload, .invokeinterface 19 4, .iload 3, .ifCond .eq 59, .aload 1, .iload 4, .invokeinterface 26 2, .goto 65]
def b12_59 : List Instr := [.aload 1, .iload 4, .invokeinterface 25 2, .jsr 65]
def b12_65 : List Instr := [.istore 4, .iinc 5 1, .goto 14]
def b12_73 : List Instr := [.return_]
def bk12 : Nat → List Instr := fun pc => match pc with
  | 0 => b12_0
  | 14 => b12_14
  | 59 => b12_59
  | 65 => b12_65
  | 73 => b12_73
  | _ => []
/-- 13: FieldsByDots$Likeness.isMapped(LFieldsByDots$Outline;I)Z -/
def b13_0 : List Instr := [.iconst 2, .istore 3, .jsr 2]
def b13_2 : List Instr := [.iload 3, .aload 1, .getfield 66, .if_icmp .ge 26, .aload 1, .iconst 0, .iconst 1, .iload 3, .invokeinterface 27 4, .ifCond .ne 26, .iinc 3 1, .goto 2]
def b13_26 : List Instr := [.iload 3, .aload 1, .getfield 66, .if_icmp .lt 36, .iconst 0, .freturn]
def b13_36 : List Instr := [.aload 0, .getfield 32, .iconst 0, .iconst 1, .iload 3, .invokeinterface 27 4, .iload 2, .aload 1, .iconst 0, .iconst 1, .iload 3, .invokeinterface 27 4, .imul, .if_icmp .eq 60, .iconst 0, .freturn]
def b13_60 : List Instr := [.aload 1, .aload 0, .getfield 32, .getfield 64, .iload 3, .invokeinterface 14 3, .ifCond .eq 94, .aload 1, .aload 0, .getfield 32, .getfield 65, .iload 3, .invokeinterface 14 3, .ifCond .eq 94, .iconst 1, .goto 95]
def b13_94 : List Instr := [.iconst 0, .jsr 95]
def b13_95 : List Instr := [.freturn]
def bk13 : Nat → List Instr := fun pc => match pc with
  | 0 => b13_0
  | 2 => b13_2
  | 26 => b13_26
  | 36 => b13_36
  | 60 => b13_60
  | 94 => b13_94
  | 95 => b13_95
  | _ => []
/-- 14: FieldsByDots$Likeness.isRowMapped(LFieldsByDots$Outline;[II)Z -/
def b14_0 : List Instr := [.aload 0, .getfield 64, .iconst 1, .iaload, .aload 0, .getfield 64, .iconst 0, .iaload, .isub, .istore 3, .aload 0, .getfield 65, .iconst 1, .iaload, .aload 0, .getfield 65, .iconst 0, .iaload, .isub, .istore 4, .aload 0, .getfield 64, .iload 2, .iaload, .aload 0, .getfield 64, .iconst 0, .iaload, .isub, .istore 5, .aload 0, .getfield 65, .iload 2, .iaload, .aload 0, .getfield 65, .iconst 0, .iaload, .isub, .istore 6, .aload 1, .iconst 1, .iaload, .aload 1, .iconst 0, .iaload, .isub, .istore 7, .aload 1, .iload 2, .iaload, .aload 1, .iconst 0, .iaload, .isub, .istore 8, .iload 3, .iload 6, .imul, .iload 4, .iload 5, .imul, .isub, .istore 9, .iload 7, .iload 6, .imul, .iload 8, .iload 4, .imul, .isub, .istore 10, .iload 8, .iload 3, .imul, .iload 7, .iload 5, .imul, .isub, .istore 11, .iload 9, .ifCond .eq 135, .iload 10, .iload 9, .irem, .ifCond .ne 135, .iload 11, .iload 9, .irem, .ifCond .eq 137, .jsr 135]
def b14_135 : List Instr := [.iconst 0, .freturn]
def b14_137 : List Instr := [.iconst 2, .istore 12, .jsr 140]
def b14_140 : List Instr := [.iload 12, .aload 0, .getfield 66, .if_icmp .ge 214, .aload 0, .getfield 64, .iload 12, .iaload, .aload 0, .getfield 64, .iconst 0, .iaload, .isub, .istore 13, .aload 0, .getfield 65, .iload 12, .iaload, .aload 0, .getfield 65, .iconst 0, .iaload, .isub, .istore 14, .iload 10, .iload 13, .imul, .iload 11, .iload 14, .imul, .iadd, .iload 9, .aload 1, .iload 12, .iaload, .aload 1, .iconst 0, .iaload, .isub, .imul, .if_icmp .eq 208, .iconst 0, .freturn]
def b14_208 : List Instr := [.iinc 12 1, .goto 140]
def b14_214 : List Instr := [.iconst 1, .freturn]
def bk14 : Nat → List Instr := fun pc => match pc with
  | 0 => b14_0
  | 135 => b14_135
  | 137 => b14_137
  | 140 => b14_140
  | 208 => b14_208
  | 214 => b14_214
  | _ => []
/-- 15: FieldsByDots$Outline.<init>()V -/
def b15_0 : List Instr := [.aload 0, .monitorenter, .aload 0, .iconst 10, .newarray .int, .putfield 64, .aload 0, .iconst 10, .newarray .int, .putfield 65, .return_]
def bk15 : Nat → List Instr := fun pc => match pc with
  | 0 => b15_0
  | _ => []
/-- 16: FieldsByDots$Outline.has(I)Z -/
def b16_0 : List Instr := [.iload 1, .ifCond .lt 16, .iload 1, .aload 0, .getfield 66, .if_icmp .ge 16, .iconst 1, .goto 17]
def b16_16 : List Instr := [.iconst 0, .jsr 17]
def b16_17 : List Instr := [.freturn]
def bk16 : Nat → List Instr := fun pc => match pc with
  | 0 => b16_0
  | 16 => b16_16
  | 17 => b16_17
  | _ => []
/-- 17: FieldsByDots$Outline.cornerAt(II)I -/
def b17_0 : List Instr := [.iconst 0, .istore 3, .jsr 2]
def b17_2 : List Instr := [.iload 3, .aload 0, .getfield 66, .if_icmp .ge 38, .aload 0, .getfield 64, .iload 3, .iaload, .iload 1, .if_icmp .ne 32, .aload 0, .getfield 65, .iload 3, .iaload, .iload 2, .if_icmp .ne 32, .iload 3, .ireturn]
def b17_32 : List Instr := [.iinc 3 1, .goto 2]
def b17_38 : List Instr := [.iconst (-9), .ireturn]
def bk17 : Nat → List Instr := fun pc => match pc with
  | 0 => b17_0
  | 2 => b17_2
  | 32 => b17_32
  | 38 => b17_38
  | _ => []
/-- 18: FieldsByDots$Outline.copyFrom(LFieldsByDots$Outline;)V -/
def b18_0 : List Instr := [.aload 0, .aload 1, .getfield 66, .putfield 66, .iconst 0, .istore 2, .jsr 10]
def b18_10 : List Instr := [.iload 2, .aload 0, .getfield 66, .if_icmp .ge 48, .aload 0, .getfield 64, .iload 2, .aload 1, .getfield 64, .iload 2, .iaload, .iastore, .aload 0, .getfield 65, .iload 2, .aload 1, .getfield 65, .iload 2, .iaload, .iastore, .iinc 2 1, .goto 10]
def b18_48 : List Instr := [.return_]
def bk18 : Nat → List Instr := fun pc => match pc with
  | 0 => b18_0
  | 10 => b18_10
  | 48 => b18_48
  | _ => []
/-- 19: FieldsByDots$Outline.insert(III)V -/
def b19_0 : List Instr := [.aload 0, .getfield 66, .istore 4, .jsr 6]
def b19_6 : List Instr := [.iload 4, .iload 1, .if_icmp .le 50, .aload 0, .getfield 64, .iload 4, .aload 0, .getfield 64, .iload 4, .iconst 1, .isub, .iaload, .iastore, .aload 0, .getfield 65, .iload 4, .aload 0, .getfield 65, .iload 4, .iconst 1, .isub, .iaload, .iastore, .iinc 4 (-1), .goto 6]
def b19_50 : List Instr := [.aload 0, .getfield 64, .iload 1, .iload 2, .iastore, .aload 0, .getfield 65, .iload 1, .iload 3, .iastore, .aload 0, .dup, .getfield 66, .iconst 1, .iadd, .putfield 66, .return_]
def bk19 : Nat → List Instr := fun pc => match pc with
  | 0 => b19_0
  | 6 => b19_6
  | 50 => b19_50
  | _ => []
/-- 20: FieldsByDots$Outline.remove(I)V -/
def b20_0 : List Instr := [.iload 1, .istore 2, .jsr 2]
def b20_2 : List Instr := [.iload 2, .iconst 1, .iadd, .aload 0, .getfield 66, .if_icmp .ge 46, .aload 0, .getfield 64, .iload 2, .aload 0, .getfield 64, .iload 2, .iconst 1, .iadd, .iaload, .iastore, .aload 0, .getfield 65, .iload 2, .aload 0, .getfield 65, .iload 2, .iconst 1, .iadd, .iaload, .iastore, .iinc 2 1, .goto 2]
def b20_46 : List Instr := [.aload 0, .dup, .getfield 66, .iconst 1, .isub, .putfield 66, .return_]
def bk20 : Nat → List Instr := fun pc => match pc with
  | 0 => b20_0
  | 2 => b20_2
  | 46 => b20_46
  | _ => []
/-- 21: FieldsByDots$Outline.mirrorLeftToRight()V -/
def b21_0 : List Instr := [.iconst 0, .istore 1, .jsr 2]
def b21_2 : List Instr := [.iload 1, .aload 0, .getfield 66, .if_icmp .ge 31, .aload 0, .getfield 64, .iload 1, .iconst 15, .aload 0, .getfield 64, .iload 1, .iaload, .isub, .iastore, .iinc 1 1, .goto 2]
def b21_31 : List Instr := [.return_]
def bk21 : Nat → List Instr := fun pc => match pc with
  | 0 => b21_0
  | 2 => b21_2
  | 31 => b21_31
  | _ => []
/-- 22: FieldsByDots$Outline.turnQuarterLeft()V -/
def b22_0 : List Instr := [.iconst 0, .istore 1, .jsr 2]
def b22_2 : List Instr := [.iload 1, .aload 0, .getfield 66, .if_icmp .ge 45, .aload 0, .getfield 64, .iload 1, .iaload, .istore 2, .aload 0, .getfield 64, .iload 1, .iconst 15, .aload 0, .getfield 65, .iload 1, .iaload, .isub, .iastore, .aload 0, .getfield 65, .iload 1, .iload 2, .iastore, .iinc 1 1, .goto 2]
def b22_45 : List Instr := [.return_]
def bk22 : Nat → List Instr := fun pc => match pc with
  | 0 => b22_0
  | 2 => b22_2
  | 45 => b22_45
  | _ => []
/-- 23: FieldsByDots$Outline.staysOnDots(II)Z -/
def b23_0 : List Instr := [.iconst 0, .istore 3, .jsr 2]
def b23_2 : List Instr := [.iload 3, .aload 0, .getfield 66, .if_icmp .ge 40, .aload 0, .getfield 64, .iload 3, .iaload, .iload 1, .iadd, .aload 0, .getfield 65, .iload 3, .iaload, .iload 2, .iadd, .invokeinterface 99 2, .ifCond .ne 34, .iconst 0, .freturn]
def b23_34 : List Instr := [.iinc 3 1, .goto 2]
def b23_40 : List Instr := [.iconst 1, .freturn]
def bk23 : Nat → List Instr := fun pc => match pc with
  | 0 => b23_0
  | 2 => b23_2
  | 34 => b23_34
  | 40 => b23_40
  | _ => []
/-- 24: FieldsByDots$Outline.shiftBy(II)V -/
def b24_0 : List Instr := [.iconst 0, .istore 3, .jsr 2]
def b24_2 : List Instr := [.iload 3, .aload 0, .getfield 66, .if_icmp .ge 36, .aload 0, .getfield 64, .iload 3, .dup2, .iaload, .iload 1, .iadd, .iastore, .aload 0, .getfield 65, .iload 3, .dup2, .iaload, .iload 2, .iadd, .iastore, .iinc 3 1, .goto 2]
def b24_36 : List Instr := [.return_]
def bk24 : Nat → List Instr := fun pc => match pc with
  | 0 => b24_0
  | 2 => b24_2
  | 36 => b24_36
  | _ => []
/-- 25: FieldsByDots$Outline.next(I)I -/
def b25_0 : List Instr := [.iload 1, .iconst 1, .iadd, .aload 0, .getfield 66, .if_icmp .ge 16, .iload 1, .iconst 1, .iadd, .goto 17]
def b25_16 : List Instr := [.iconst 0, .jsr 17]
def b25_17 : List Instr := [.ireturn]
def bk25 : Nat → List Instr := fun pc => match pc with
  | 0 => b25_0
  | 16 => b25_16
  | 17 => b25_17
  | _ => []
/-- 26: FieldsByDots$Outline.previous(I)I -/
def b26_0 : List Instr := [.iload 1, .ifCond .le 10, .iload 1, .iconst 1, .isub, .goto 16]
def b26_10 : List Instr := [.aload 0, .getfield 66, .iconst 1, .isub, .jsr 16]
def b26_16 : List Instr := [.ireturn]
def bk26 : Nat → List Instr := fun pc => match pc with
  | 0 => b26_0
  | 10 => b26_10
  | 16 => b26_16
  | _ => []
/-- 27: FieldsByDots$Outline.sideOf(III)I -/
def b27_0 : List Instr := [.aload 0, .getfield 64, .iload 2, .iaload, .aload 0, .getfield 64, .iload 1, .iaload, .isub, .aload 0, .getfield 65, .iload 3, .iaload, .aload 0, .getfield 65, .iload 1, .iaload, .isub, .imul, .aload 0, .getfield 65, .iload 2, .iaload, .aload 0, .getfield 65, .iload 1, .iaload, .isub, .aload 0, .getfield 64, .iload 3, .iaload, .aload 0, .getfield 64, .iload 1, .iaload, .isub, .imul, .isub, .ireturn]
def bk27 : Nat → List Instr := fun pc => match pc with
  | 0 => b27_0
  | _ => []
/-- 28: FieldsByDots$Outline.spreadAt(III)I -/
def b28_0 : List Instr := [.aload 0, .getfield 64, .iload 2, .iaload, .aload 0, .getfield 64, .iload 1, .iaload, .isub, .aload 0, .getfield 64, .iload 3, .iaload, .aload 0, .getfield 64, .iload 1, .iaload, .isub, .imul, .aload 0, .getfield 65, .iload 2, .iaload, .aload 0, .getfield 65, .iload 1, .iaload, .isub, .aload 0, .getfield 65, .iload 3, .iaload, .aload 0, .getfield 65, .iload 1, .iaload, .isub, .imul, .iadd, .ireturn]
def bk28 : Nat → List Instr := fun pc => match pc with
  | 0 => b28_0
  | _ => []
/-- 29: FieldsByDots$Outline.isBetween(III)Z -/
def b29_0 : List Instr := [.aload 0, .iload 1, .iload 2, .iload 3, .invokeinterface 27 4, .ifCond .ne 24, .aload 0, .iload 3, .iload 1, .iload 2, .invokeinterface 28 4, .ifCond .ge 24, .iconst 1, .goto 25]
def b29_24 : List Instr := [.iconst 0, .jsr 25]
def b29_25 : List Instr := [.freturn]
def bk29 : Nat → List Instr := fun pc => match pc with
  | 0 => b29_0
  | 24 => b29_24
  | 25 => b29_25
  | _ => []
/-- 30: FieldsByDots$Outline.isCrossing(IIII)Z -/
def b30_0 : List Instr := [.aload 0, .iload 1, .iload 2, .iload 3, .invokeinterface 27 4, .aload 0, .iload 1, .iload 2, .iload 4, .invokeinterface 27 4, .imul, .ifCond .ge 43, .aload 0, .iload 3, .iload 4, .iload 1, .invokeinterface 27 4, .aload 0, .iload 3, .iload 4, .iload 2, .invokeinterface 27 4, .imul, .ifCond .ge 43, .iconst 1, .goto 44]
def b30_43 : List Instr := [.iconst 0, .jsr 44]
def b30_44 : List Instr := [.freturn]
def bk30 : Nat → List Instr := fun pc => match pc with
  | 0 => b30_0
  | 43 => b30_43
  | 44 => b30_44
  | _ => []
/-- 31: FieldsByDots$Outline.isSound()Z -/
def b31_0 : List Instr := [.aload 0, .getfield 66, .iconst 3, .if_icmp .ge 10, .iconst 0, .freturn]
def b31_10 : List Instr := [.iconst 0, .istore 1, .jsr 12]
def b31_12 : List Instr := [.iload 1, .aload 0, .getfield 66, .if_icmp .ge 74, .aload 0, .iload 1, .invokeinterface 32 2, .ifCond .eq 30, .iconst 0, .freturn]
def b31_30 : List Instr := [.iload 1, .iconst 2, .iadd, .istore 2, .jsr 34]
def b31_34 : List Instr := [.iload 2, .aload 0, .getfield 66, .if_icmp .ge 68, .aload 0, .iload 2, .invokeinterface 25 2, .iload 1, .if_icmp .eq 62, .aload 0, .iload 1, .iload 2, .invokeinterface 33 3, .ifCond .eq 62, .iconst 0, .freturn]
def b31_62 : List Instr := [.iinc 2 1, .goto 34]
def b31_68 : List Instr := [.iinc 1 1, .goto 12]
def b31_74 : List Instr := [.iconst 1, .freturn]
def bk31 : Nat → List Instr := fun pc => match pc with
  | 0 => b31_0
  | 10 => b31_10
  | 12 => b31_12
  | 30 => b31_30
  | 34 => b31_34
  | 62 => b31_62
  | 68 => b31_68
  | 74 => b31_74
  | _ => []
/-- 32: FieldsByDots$Outline.isFoldedAt(I)Z -/
def b32_0 : List Instr := [.aload 0, .iload 1, .invokeinterface 26 2, .istore 2, .aload 0, .iload 1, .invokeinterface 25 2, .istore 3, .aload 0, .iload 2, .iload 3, .iload 1, .invokeinterface 27 4, .ifCond .ne 36, .aload 0, .iload 1, .iload 2, .iload 3, .invokeinterface 28 4, .ifCond .le 36, .iconst 1, .goto 37]
def b32_36 : List Instr := [.iconst 0, .jsr 37]
def b32_37 : List Instr := [.freturn]
def bk32 : Nat → List Instr := fun pc => match pc with
  | 0 => b32_0
  | 36 => b32_36
  | 37 => b32_37
  | _ => []
/-- 33: FieldsByDots$Outline.isTouching(II)Z -/
def b33_0 : List Instr := [.aload 0, .iload 1, .invokeinterface 25 2, .istore 3, .aload 0, .iload 2, .invokeinterface 25 2, .istore 4, .aload 0, .iload 1, .iload 3, .iload 2, .invokeinterface 27 4, .istore 5, .aload 0, .iload 1, .iload 3, .iload 4, .invokeinterface 27 4, .istore 6, .iload 5, .ifCond .ne 80, .iload 6, .ifCond .ne 80, .aload 0, .iload 1, .iload 3, .iload 2, .invokeinterface 29 4, .ifCond .ne 74, .aload 0, .iload 1, .iload 3, .iload 4, .invokeinterface 29 4, .ifCond .ne 74, .aload 0, .iload 2, .iload 4, .iload 1, .invokeinterface 29 4, .ifCond .eq 78, .jsr 74]
def b33_74 : List Instr := [.iconst 1, .goto 79]
def b33_78 : List Instr := [.iconst 0, .jsr 79]
def b33_79 : List Instr := [.freturn]
def b33_80 : List Instr := [.iload 5, .iload 6, .imul, .ifCond .gt 112, .aload 0, .iload 2, .iload 4, .iload 1, .invokeinterface 27 4, .aload 0, .iload 2, .iload 4, .iload 3, .invokeinterface 27 4, .imul, .ifCond .gt 112, .iconst 1, .goto 113]
def b33_112 : List Instr := [.iconst 0, .jsr 113]
def b33_113 : List Instr := [.freturn]
def bk33 : Nat → List Instr := fun pc => match pc with
  | 0 => b33_0
  | 74 => b33_74
  | 78 => b33_78
  | 79 => b33_79
  | 80 => b33_80
  | 112 => b33_112
  | 113 => b33_113
  | _ => []
/-- 34: FieldsByDots$Outline.signedArea()I -/
def b34_0 : List Instr := [.aload 0, .iconst 0, .aload 0, .getfield 66, .iconst 1, .isub, .invokeinterface 35 3, .ireturn]
def bk34 : Nat → List Instr := fun pc => match pc with
  | 0 => b34_0
  | _ => []
/-- 35: FieldsByDots$Outline.signedAreaOf(II)I -/
def b35_0 : List Instr := [.iconst 0, .istore 3, .iload 1, .istore 4, .jsr 5]
def b35_5 : List Instr := [.iload 4, .iload 2, .if_icmp .gt 67, .iload 4, .iload 2, .if_icmp .ge 24, .iload 4, .iconst 1, .iadd, .goto 25]
def b35_24 : List Instr := [.iload 1, .jsr 25]
def b35_25 : List Instr := [.istore 5, .iload 3, .aload 0, .getfield 64, .iload 4, .iaload, .aload 0, .getfield 65, .iload 5, .iaload, .imul, .aload 0, .getfield 64, .iload 5, .iaload, .aload 0, .getfield 65, .iload 4, .iaload, .imul, .isub, .iadd, .istore 3, .iinc 4 1, .goto 5]
def b35_67 : List Instr := [.iload 3, .ireturn]
def bk35 : Nat → List Instr := fun pc => match pc with
  | 0 => b35_0
  | 5 => b35_5
  | 24 => b35_24
  | 25 => b35_25
  | 67 => b35_67
  | _ => []
/-- 36: FieldsByDots$Outline.unlikenessOfSides(II)I -/
def b36_0 : List Instr := [.aload 0, .iload 1, .iload 2, .fsub, .iload 1, .iload 2, .fadd, .invokeinterface 35 3, .istore 3, .aload 0, .invokeinterface 34 1, .iconst 2, .iload 3, .imul, .isub, .fneg, .ireturn]
def bk36 : Nat → List Instr := fun pc => match pc with
  | 0 => b36_0
  | _ => []
/-- 37: FieldsByDots$Outline.fenceDots()I -/
def b37_0 : List Instr := [.iconst 0, .istore 1, .iconst 0, .istore 2, .jsr 4]
def b37_4 : List Instr := [.iload 2, .aload 0, .getfield 66, .if_icmp .ge 62, .aload 0, .iload 2, .invokeinterface 25 2, .istore 3, .iload 1, .aload 0, .getfield 64, .iload 2, .iaload, .aload 0, .getfield 64, .iload 3, .iaload, .isub, .fneg, .aload 0, .getfield 65, .iload 2, .iaload, .aload 0, .getfield 65, .iload 3, .iaload, .isub, .fneg, .invokeinterface 110 2, .iadd, .istore 1, .iinc 2 1, .goto 4]
def b37_62 : List Instr := [.iload 1, .ireturn]
def bk37 : Nat → List Instr := fun pc => match pc with
  | 0 => b37_0
  | 4 => b37_4
  | 62 => b37_62
  | _ => []
/-- 38: FieldsByDots$Outline.innerDots()I -/
def b38_0 : List Instr := [.aload 0, .invokeinterface 34 1, .fneg, .aload 0, .invokeinterface 37 1, .isub, .iconst 2, .idiv, .iconst 1, .iadd, .ireturn]
def bk38 : Nat → List Instr := fun pc => match pc with
  | 0 => b38_0
  | _ => []
/-- 39: FieldsByDots$Outline.bendAt(I)I -/
def b39_0 : List Instr := [.aload 0, .aload 0, .iload 1, .invokeinterface 26 2, .iload 1, .aload 0, .iload 1, .invokeinterface 25 2, .invokeinterface 27 4, .istore 2, .iload 2, .ifCond .ne 22, .iconst 1, .ireturn]
def b39_22 : List Instr := [.iload 2, .ifCond .le 30, .iconst 1, .goto 31]
def b39_30 : List Instr := [.iconst 0, .jsr 31]
def b39_31 : List Instr := [.aload 0, .invokeinterface 34 1, .ifCond .le 42, .iconst 1, .goto 43]
def b39_42 : List Instr := [.iconst 0, .jsr 43]
def b39_43 : List Instr := [.if_icmp .ne 50, .iconst 0, .goto 51]
def b39_50 : List Instr := [.iconst 2, .jsr 51]
def b39_51 : List Instr := [.ireturn]
def bk39 : Nat → List Instr := fun pc => match pc with
  | 0 => b39_0
  | 22 => b39_22
  | 30 => b39_30
  | 31 => b39_31
  | 42 => b39_42
  | 43 => b39_43
  | 50 => b39_50
  | 51 => b39_51
  | _ => []
/-- 40: FieldsByDots$Outline.cornersThat(I)I -/
def b40_0 : List Instr := [.iconst 0, .istore 2, .iconst 0, .istore 3, .jsr 4]
def b40_4 : List Instr := [.iload 3, .aload 0, .getfield 66, .if_icmp .ge 30, .aload 0, .iload 3, .invokeinterface 39 2, .iload 1, .if_icmp .ne 24, .iinc 2 1, .jsr 24]
def b40_24 : List Instr := [.iinc 3 1, .goto 4]
def b40_30 : List Instr := [.iload 2, .ireturn]
def bk40 : Nat → List Instr := fun pc => match pc with
  | 0 => b40_0
  | 4 => b40_4
  | 24 => b40_24
  | 30 => b40_30
  | _ => []
/-- 41: FieldsByDots$Outline.widthBy(II)I -/
def b41_0 : List Instr := [.iload 1, .aload 0, .getfield 64, .iconst 0, .iaload, .imul, .iload 2, .aload 0, .getfield 65, .iconst 0, .iaload, .imul, .iadd, .istore 3, .iload 3, .istore 4, .iconst 1, .istore 5, .jsr 24]
def b41_24 : List Instr := [.iload 5, .aload 0, .getfield 66, .if_icmp .ge 76, .iload 1, .aload 0, .getfield 64, .iload 5, .iaload, .imul, .iload 2, .aload 0, .getfield 65, .iload 5, .iaload, .imul, .iadd, .istore 6, .iload 3, .iload 6, .fsub, .istore 3, .iload 4, .iload 6, .fadd, .istore 4, .iinc 5 1, .goto 24]
def b41_76 : List Instr := [.iload 4, .iload 3, .isub, .ireturn]
def bk41 : Nat → List Instr := fun pc => match pc with
  | 0 => b41_0
  | 24 => b41_24
  | 76 => b41_76
  | _ => []
/-- 42: FieldsByDots$Outline.placeOf(II)I -/
def b42_0 : List Instr := [.iconst 0, .istore 3, .iconst 0, .istore 4, .jsr 5]
def b42_5 : List Instr := [.iload 4, .aload 0, .getfield 66, .if_icmp .ge 172, .aload 0, .iload 4, .invokeinterface 25 2, .istore 5, .iconst 2, .aload 0, .getfield 64, .iload 4, .iaload, .imul, .iload 1, .isub, .istore 6, .iconst 2, .aload 0, .getfield 65, .iload 4, .iaload, .imul, .iload 2, .isub, .istore 7, .iconst 2, .aload 0, .getfield 64, .iload 5, .iaload, .imul, .iload 1, .isub, .istore 8, .iconst 2, .aload 0, .getfield 65, .iload 5, .iaload, .imul, .iload 2, .isub, .istore 9, .iload 6, .iload 9, .imul, .iload 7, .iload 8, .imul, .isub, .istore 10, .iload 10, .ifCond .ne 108, .iload 6, .iload 8, .imul, .iload 7, .iload 9, .imul, .iadd, .ifCond .gt 108, .iconst 0, .ireturn]
def b42_108 : List Instr := [.iload 7, .ifCond .le 117, .iconst 1, .goto 118]
def b42_117 : List Instr := [.iconst 0, .jsr 118]
def b42_118 : List Instr := [.iload 9, .ifCond .le 127, .iconst 1, .goto 128]
def b42_127 : List Instr := [.iconst 0, .jsr 128]
def b42_128 : List Instr := [.if_icmp .eq 166, .iload 10, .ifCond .le 140, .iconst 1, .goto 141]
def b42_140 : List Instr := [.iconst 0, .jsr 141]
def b42_141 : List Instr := [.iload 9, .iload 7, .if_icmp .le 152, .iconst 1, .goto 153]
def b42_152 : List Instr := [.iconst 0, .jsr 153]
def b42_153 : List Instr := [.if_icmp .ne 166, .iload 3, .ifCond .ne 164, .iconst 1, .goto 165]
def b42_164 : List Instr := [.iconst 0, .jsr 165]
def b42_165 : List Instr := [.istore 3, .jsr 166]
def b42_166 : List Instr := [.iinc 4 1, .goto 5]
def b42_172 : List Instr := [.iload 3, .ifCond .eq 180, .iconst 1, .goto 181]
def b42_180 : List Instr := [.iconst 2, .jsr 181]
def b42_181 : List Instr := [.ireturn]
def bk42 : Nat → List Instr := fun pc => match pc with
  | 0 => b42_0
  | 5 => b42_5
  | 108 => b42_108
  | 117 => b42_117
  | 118 => b42_118
  | 127 => b42_127
  | 128 => b42_128
  | 140 => b42_140
  | 141 => b42_141
  | 152 => b42_152
  | 153 => b42_153
  | 164 => b42_164
  | 165 => b42_165
  | 166 => b42_166
  | 172 => b42_172
  | 180 => b42_180
  | 181 => b42_181
  | _ => []
/-- 43: FieldsByDots$Outline.isInOneLine()Z -/
def b43_0 : List Instr := [.iconst 2, .istore 1, .jsr 2]
def b43_2 : List Instr := [.iload 1, .aload 0, .getfield 66, .if_icmp .ge 28, .aload 0, .iconst 0, .iconst 1, .iload 1, .invokeinterface 27 4, .ifCond .eq 22, .iconst 0, .freturn]
def b43_22 : List Instr := [.iinc 1 1, .goto 2]
def b43_28 : List Instr := [.iconst 1, .freturn]
def bk43 : Nat → List Instr := fun pc => match pc with
  | 0 => b43_0
  | 2 => b43_2
  | 22 => b43_22
  | 28 => b43_28
  | _ => []
/-- 44: FieldsByDots$Outline.hullInto(LFieldsByDots$Outline;)V -/
def b44_0 : List Instr := [.iconst 0, .istore 2, .iconst 1, .istore 3, .jsr 4]
def b44_4 : List Instr := [.iload 3, .aload 0, .getfield 66, .if_icmp .ge 65, .aload 0, .getfield 64, .iload 3, .iaload, .aload 0, .getfield 64, .iload 2, .iaload, .if_icmp .lt 57, .aload 0, .getfield 64, .iload 3, .iaload, .aload 0, .getfield 64, .iload 2, .iaload, .if_icmp .ne 59, .aload 0, .getfield 65, .iload 3, .iaload, .aload 0, .getfield 65, .iload 2, .iaload, .if_icmp .ge 59, .jsr 57]
def b44_57 : List Instr := [.iload 3, .istore 2, .jsr 59]
def b44_59 : List Instr := [.iinc 3 1, .goto 4]
def b44_65 : List Instr := [.aload 1, .iconst 0, .putfield 66, .iload 2, .istore 3, .iconst 0, .istore 4, .jsr 75]
def b44_75 : List Instr := [.iload 4, .aload 0, .getfield 66, .if_icmp .ge 122, .aload 1, .aload 1, .getfield 66, .aload 0, .getfield 64, .iload 3, .iaload, .aload 0, .getfield 65, .iload 3, .iaload, .invokeinterface 19 4, .aload 0, .iload 3, .invokeinterface 45 2, .istore 3, .iload 3, .iload 2, .if_icmp .ne 116, .return_]
def b44_116 : List Instr := [.iinc 4 1, .goto 75]
def b44_122 : List Instr := [.return_]
def bk44 : Nat → List Instr := fun pc => match pc with
  | 0 => b44_0
  | 4 => b44_4
  | 57 => b44_57
  | 59 => b44_59
  | 65 => b44_65
  | 75 => b44_75
  | 116 => b44_116
  | 122 => b44_122
  | _ => []
/-- 45: FieldsByDots$Outline.rightmostFrom(I)I -/
def b45_0 : List Instr := [.aload 0, .iload 1, .invokeinterface 25 2, .istore 2, .iconst 0, .istore 3, .jsr 8]
def b45_8 : List Instr := [.iload 3, .aload 0, .getfield 66, .if_icmp .ge 63, .iload 3, .iload 1, .if_icmp .eq 57, .iload 3, .iload 2, .if_icmp .eq 57, .aload 0, .iload 1, .iload 2, .iload 3, .invokeinterface 27 4, .istore 4, .iload 4, .ifCond .lt 55, .iload 4, .ifCond .ne 57, .aload 0, .iload 1, .iload 3, .iload 2, .invokeinterface 29 4, .ifCond .eq 57, .jsr 55]
def b45_55 : List Instr := [.iload 3, .istore 2, .jsr 57]
def b45_57 : List Instr := [.iinc 3 1, .goto 8]
def b45_63 : List Instr := [.iload 2, .ireturn]
def bk45 : Nat → List Instr := fun pc => match pc with
  | 0 => b45_0
  | 8 => b45_8
  | 55 => b45_55
  | 57 => b45_57
  | 63 => b45_63
  | _ => []
/-- 46: FieldsByDots$Outline.isSeen(II)Z -/
def b46_0 : List Instr := [.iload 1, .istore 3, .iconst 0, .istore 4, .jsr 5]
def b46_5 : List Instr := [.iload 4, .aload 0, .getfield 66, .if_icmp .ge 59, .iload 3, .iload 2, .if_icmp .eq 59, .aload 0, .iload 3, .iload 2, .invokeinterface 48 3, .istore 5, .aload 0, .iload 3, .iload 5, .invokeinterface 49 3, .ifCond .ne 48, .aload 0, .iload 3, .iload 5, .invokeinterface 50 3, .iconst 2, .if_icmp .ne 50, .jsr 48]
def b46_48 : List Instr := [.iconst 0, .freturn]
def b46_50 : List Instr := [.iload 5, .istore 3, .iinc 4 1, .goto 5]
def b46_59 : List Instr := [.iconst 1, .freturn]
def bk46 : Nat → List Instr := fun pc => match pc with
  | 0 => b46_0
  | 5 => b46_5
  | 48 => b46_48
  | 50 => b46_50
  | 59 => b46_59
  | _ => []
/-- 47: FieldsByDots$Outline.isStrip(II)Z -/
def b47_0 : List Instr := [.iload 1, .iload 2, .if_icmp .eq 23, .aload 0, .iload 1, .invokeinterface 25 2, .iload 2, .if_icmp .eq 23, .aload 0, .iload 2, .invokeinterface 25 2, .iload 1, .if_icmp .ne 25, .jsr 23]
def b47_23 : List Instr := [.iconst 0, .freturn]
def b47_25 : List Instr := [.aload 0, .iload 1, .iload 2, .invokeinterface 48 3, .iload 2, .if_icmp .ne 58, .aload 0, .iload 1, .iload 2, .invokeinterface 49 3, .ifCond .ne 58, .aload 0, .iload 1, .iload 2, .invokeinterface 50 3, .iconst 1, .if_icmp .ne 58, .iconst 1, .goto 59]
def b47_58 : List Instr := [.iconst 0, .jsr 59]
def b47_59 : List Instr := [.freturn]
def bk47 : Nat → List Instr := fun pc => match pc with
  | 0 => b47_0
  | 23 => b47_23
  | 25 => b47_25
  | 58 => b47_58
  | 59 => b47_59
  | _ => []
/-- 48: FieldsByDots$Outline.nearestToward(II)I -/
def b48_0 : List Instr := [.iload 2, .istore 3, .iconst 0, .istore 4, .jsr 5]
def b48_5 : List Instr := [.iload 4, .aload 0, .getfield 66, .if_icmp .ge 34, .aload 0, .iload 1, .iload 3, .iload 4, .invokeinterface 29 4, .ifCond .eq 28, .iload 4, .istore 3, .jsr 28]
def b48_28 : List Instr := [.iinc 4 1, .goto 5]
def b48_34 : List Instr := [.iload 3, .ireturn]
def bk48 : Nat → List Instr := fun pc => match pc with
  | 0 => b48_0
  | 5 => b48_5
  | 28 => b48_28
  | 34 => b48_34
  | _ => []
/-- 49: FieldsByDots$Outline.isCrossed(II)Z -/
def b49_0 : List Instr := [.iconst 0, .istore 3, .jsr 2]
def b49_2 : List Instr := [.iload 3, .aload 0, .getfield 66, .if_icmp .ge 33, .aload 0, .iload 1, .iload 2, .iload 3, .aload 0, .iload 3, .invokeinterface 25 2, .invokeinterface 30 5, .ifCond .eq 27, .iconst 1, .freturn]
def b49_27 : List Instr := [.iinc 3 1, .goto 2]
def b49_33 : List Instr := [.iconst 0, .freturn]
def bk49 : Nat → List Instr := fun pc => match pc with
  | 0 => b49_0
  | 2 => b49_2
  | 27 => b49_27
  | 33 => b49_33
  | _ => []
/-- 50: FieldsByDots$Outline.placeOfMiddle(II)I -/
def b50_0 : List Instr := [.aload 0, .aload 0, .getfield 64, .iload 1, .iaload, .aload 0, .getfield 64, .iload 2, .iaload, .iadd, .aload 0, .getfield 65, .iload 1, .iaload, .aload 0, .getfield 65, .iload 2, .iaload, .iadd, .invokeinterface 42 3, .ireturn]
def bk50 : Nat → List Instr := fun pc => match pc with
  | 0 => b50_0
  | _ => []
/-- 51: FieldsByDots$Outline.longBy(II)I -/
def b51_0 : List Instr := [.aload 0, .getfield 64, .iload 1, .iaload, .aload 0, .getfield 64, .iload 2, .iaload, .isub, .istore 3, .aload 0, .getfield 65, .iload 1, .iaload, .aload 0, .getfield 65, .iload 2, .iaload, .isub, .istore 4, .iload 3, .iload 3, .imul, .iload 4, .iload 4, .imul, .iadd, .ireturn]
def bk51 : Nat → List Instr := fun pc => match pc with
  | 0 => b51_0
  | _ => []
/-- 52: FieldsByDots$Sights.<init>()V -/
def b52_0 : List Instr := [.aload 0, .monitorenter, .aload 0, .iconst 10, .newarray .int, .putfield 96, .aload 0, .iconst 10, .newarray .int, .putfield 97, .return_]
def bk52 : Nat → List Instr := fun pc => match pc with
  | 0 => b52_0
  | _ => []
/-- 53: FieldsByDots$Sights.lookAt(LFieldsByDots$Outline;)V -/
def b53_0 : List Instr := [.aload 0, .aload 1, .getfield 66, .putfield 98, .iconst 0, .istore 2, .jsr 10]
def b53_10 : List Instr := [.iload 2, .aload 0, .getfield 98, .if_icmp .ge 38, .aload 0, .getfield 96, .iload 2, .iconst 0, .iastore, .aload 0, .getfield 97, .iload 2, .iconst 0, .iastore, .iinc 2 1, .goto 10]
def b53_38 : List Instr := [.iconst 0, .istore 2, .jsr 40]
def b53_40 : List Instr := [.iload 2, .aload 0, .getfield 98, .if_icmp .ge 135, .iload 2, .iconst 1, .iadd, .istore 3, .jsr 52]
def b53_52 : List Instr := [.iload 3, .aload 0, .getfield 98, .if_icmp .ge 129, .aload 1, .iload 2, .iload 3, .invokeinterface 47 3, .istore 4, .iload 4, .ifCond .eq 85, .aload 0, .getfield 97, .iload 2, .dup2, .iaload, .iconst 1, .iload 3, .ishl, .ior, .iastore, .jsr 85]
def b53_85 : List Instr := [.iload 4, .ifCond .ne 99, .aload 1, .iload 2, .iload 3, .invokeinterface 46 3, .ifCond .eq 123, .jsr 99]
def b53_99 : List Instr := [.aload 0, .getfield 96, .iload 2, .dup2, .iaload, .iconst 1, .iload 3, .ishl, .ior, .iastore, .aload 0, .getfield 96, .iload 3, .dup2, .iaload, .iconst 1, .iload 2, .ishl, .ior, .iastore, .jsr 123]
def b53_123 : List Instr := [.iinc 3 1, .goto 52]
def b53_129 : List Instr := [.iinc 2 1, .goto 40]
def b53_135 : List Instr := [.return_]
def bk53 : Nat → List Instr := fun pc => match pc with
  | 0 => b53_0
  | 10 => b53_10
  | 38 => b53_38
  | 40 => b53_40
  | 52 => b53_52
  | 85 => b53_85
  | 99 => b53_99
  | 123 => b53_123
  | 129 => b53_129
  | 135 => b53_135
  | _ => []
/-- 54: FieldsByDots$Sights.hasStrip(II)Z -/
def b54_0 : List Instr := [.aload 0, .getfield 97, .iload 1, .iaload, .iload 2, .ishr, .iconst 1, .iand, .iconst 1, .if_icmp .ne 18, .iconst 1, .goto 19]
def b54_18 : List Instr := [.iconst 0, .jsr 19]
def b54_19 : List Instr := [.freturn]
def bk54 : Nat → List Instr := fun pc => match pc with
  | 0 => b54_0
  | 18 => b54_18
  | 19 => b54_19
  | _ => []
/-- 55: FieldsByDots$Sights.stripNumber()I -/
def b55_0 : List Instr := [.iconst 0, .istore 1, .iconst 0, .istore 2, .jsr 4]
def b55_4 : List Instr := [.iload 2, .aload 0, .getfield 98, .if_icmp .ge 30, .iload 1, .aload 0, .getfield 97, .iload 2, .iaload, .invokeinterface 185 1, .iadd, .istore 1, .iinc 2 1, .goto 4]
def b55_30 : List Instr := [.iload 1, .ireturn]
def bk55 : Nat → List Instr := fun pc => match pc with
  | 0 => b55_0
  | 4 => b55_4
  | 30 => b55_30
  | _ => []
/-- 56: FieldsByDots$Sights.withSeen(I)I -/
def b56_0 : List Instr := [.iload 1, .istore 2, .iconst 0, .istore 3, .jsr 4]
def b56_4 : List Instr := [.iload 3, .aload 0, .getfield 98, .if_icmp .ge 36, .iload 1, .iload 3, .ishr, .iconst 1, .iand, .iconst 1, .if_icmp .ne 30, .iload 2, .aload 0, .getfield 96, .iload 3, .iaload, .ior, .istore 2, .jsr 30]
def b56_30 : List Instr := [.iinc 3 1, .goto 4]
def b56_36 : List Instr := [.iload 2, .ireturn]
def bk56 : Nat → List Instr := fun pc => match pc with
  | 0 => b56_0
  | 4 => b56_4
  | 30 => b56_30
  | 36 => b56_36
  | _ => []
/-- 57: FieldsByDots$Sights.fewestThatSeeAll()I -/
def b57_0 : List Instr := [.iconst 1, .aload 0, .getfield 98, .ishl, .iconst 1, .isub, .istore 1, .iload 1, .istore 2, .iconst 1, .istore 3, .jsr 13]
def b57_13 : List Instr := [.iload 3, .iload 1, .if_icmp .ge 46, .iload 3, .invokeinterface 185 1, .iload 2, .invokeinterface 185 1, .if_icmp .ge 40, .aload 0, .iload 3, .invokeinterface 56 2, .iload 1, .if_icmp .ne 40, .iload 3, .istore 2, .jsr 40]
def b57_40 : List Instr := [.iinc 3 1, .goto 13]
def b57_46 : List Instr := [.iload 2, .ireturn]
def bk57 : Nat → List Instr := fun pc => match pc with
  | 0 => b57_0
  | 13 => b57_13
  | 40 => b57_40
  | 46 => b57_46
  | _ => []
/-- 58: FieldsByDots$Sights.stepsBetween(II)I -/
def b58_0 : List Instr := [.iconst 1, .iload 1, .ishl, .istore 3, .iconst 0, .istore 4, .jsr 7]
def b58_7 : List Instr := [.iload 4, .aload 0, .getfield 98, .if_icmp .ge 36, .iload 3, .iload 2, .ishr, .iconst 1, .iand, .ifCond .ne 36, .aload 0, .iload 3, .invokeinterface 56 2, .istore 3, .iinc 4 1, .goto 7]
def b58_36 : List Instr := [.iload 4, .ireturn]
def bk58 : Nat → List Instr := fun pc => match pc with
  | 0 => b58_0
  | 7 => b58_7
  | 36 => b58_36
  | _ => []
/-- 59: FieldsByDots$Text.<init>()V -/
def b59_0 : List Instr := [.aload 0, .monitorenter, .aload 0, .iconst 24, .newarray .int, .putfield 128, .return_]
def bk59 : Nat → List Instr := fun pc => match pc with
  | 0 => b59_0
  | _ => []
/-- 60: FieldsByDots$Text.append(IJ)V -/
def b60_0 : List Instr := [.iload 1, .iconst 1, .isub, .istore 4, .jsr 5]
def b60_5 : List Instr := [.iload 4, .ifCond .lt 47, .aload 0, .getfield 128, .aload 0, .getfield 129, .lload 2, .iconst 8, .iload 4, .imul, .lshr, .l2i, .iconst 255, .iand, .iastore, .aload 0, .dup, .getfield 129, .iconst 1, .iadd, .putfield 129, .iinc 4 (-1), .goto 5]
def b60_47 : List Instr := [.return_]
def bk60 : Nat → List Instr := fun pc => match pc with
  | 0 => b60_0
  | 5 => b60_5
  | 47 => b60_47
  | _ => []
/-- 61: FieldsByDots$Text.firstFault()I -/
def b61_0 : List Instr := [.iconst 0, .istore 1, .jsr 2]
def b61_2 : List Instr := [.iload 1, .aload 0, .getfield 129, .if_icmp .ge 26, .aload 0, .iload 1, .invokeinterface 62 2, .ifCond .eq 20, .iload 1, .ireturn]
def b61_20 : List Instr := [.iinc 1 1, .goto 2]
def b61_26 : List Instr := [.aload 0, .getfield 129, .iconst 6, .if_icmp .lt 48, .aload 0, .getfield 129, .iconst 2, .irem, .ifCond .ne 48, .iconst 1, .goto 49]
def b61_48 : List Instr := [.iconst 0, .jsr 49]
def b61_49 : List Instr := [.istore 1, .iload 1, .ifCond .eq 59, .iconst (-9), .goto 63]
def b61_59 : List Instr := [.aload 0, .getfield 129, .jsr 63]
def b61_63 : List Instr := [.ireturn]
def bk61 : Nat → List Instr := fun pc => match pc with
  | 0 => b61_0
  | 2 => b61_2
  | 20 => b61_20
  | 26 => b61_26
  | 48 => b61_48
  | 49 => b61_49
  | 59 => b61_59
  | 63 => b61_63
  | _ => []
/-- 62: FieldsByDots$Text.isFaulty(I)Z -/
def b62_0 : List Instr := [.iload 1, .iconst 20, .if_icmp .ge 20, .aload 0, .getfield 128, .iload 1, .iaload, .invokeinterface 64 1, .iconst (-9), .if_icmp .ne 22, .jsr 20]
def b62_20 : List Instr := [.iconst 1, .freturn]
def b62_22 : List Instr := [.iload 1, .iconst 2, .irem, .iconst 1, .if_icmp .ne 41, .aload 0, .iload 1, .invokeinterface 63 2, .ifCond .eq 41, .iconst 1, .goto 42]
def b62_41 : List Instr := [.iconst 0, .jsr 42]
def b62_42 : List Instr := [.freturn]
def bk62 : Nat → List Instr := fun pc => match pc with
  | 0 => b62_0
  | 20 => b62_20
  | 22 => b62_22
  | 41 => b62_41
  | 42 => b62_42
  | _ => []
/-- 63: FieldsByDots$Text.isToldBefore(I)Z -/
def b63_0 : List Instr := [.iconst 1, .istore 2, .jsr 2]
def b63_2 : List Instr := [.iload 2, .iload 1, .if_icmp .ge 49, .aload 0, .getfield 128, .iload 2, .iconst 1, .isub, .iaload, .aload 0, .getfield 128, .iload 1, .iconst 1, .isub, .iaload, .if_icmp .ne 43, .aload 0, .getfield 128, .iload 2, .iaload, .aload 0, .getfield 128, .iload 1, .iaload, .if_icmp .ne 43, .iconst 1, .freturn]
def b63_43 : List Instr := [.iinc 2 2, .goto 2]
def b63_49 : List Instr := [.iconst 0, .freturn]
def bk63 : Nat → List Instr := fun pc => match pc with
  | 0 => b63_0
  | 2 => b63_2
  | 43 => b63_43
  | 49 => b63_49
  | _ => []
/-- 64: FieldsByDots$Text.valueOf(I)I -/
def b64_0 : List Instr := [.iload 0, .iconst 48, .if_icmp .lt 17, .iload 0, .iconst 57, .if_icmp .gt 17, .iload 0, .iconst 48, .isub, .ireturn]
def b64_17 : List Instr := [.iload 0, .iconst 97, .if_icmp .lt 39, .iload 0, .iconst 102, .if_icmp .gt 39, .iload 0, .iconst 97, .isub, .iconst 10, .iadd, .goto 41]
def b64_39 : List Instr := [.iconst (-9), .jsr 41]
def b64_41 : List Instr := [.ireturn]
def bk64 : Nat → List Instr := fun pc => match pc with
  | 0 => b64_0
  | 17 => b64_17
  | 39 => b64_39
  | 41 => b64_41
  | _ => []
/-- 65: FieldsByDots$Text.tellInto(LFieldsByDots$Outline;)V -/
def b65_0 : List Instr := [.aload 1, .aload 0, .getfield 129, .iconst 2, .idiv, .putfield 66, .iconst 0, .istore 2, .jsr 12]
def b65_12 : List Instr := [.iload 2, .aload 1, .getfield 66, .if_icmp .ge 62, .aload 1, .getfield 64, .iload 2, .aload 0, .getfield 128, .iconst 2, .iload 2, .imul, .iaload, .invokeinterface 64 1, .iastore, .aload 1, .getfield 65, .iload 2, .aload 0, .getfield 128, .iconst 2, .iload 2, .imul, .iconst 1, .iadd, .iaload, .invokeinterface 64 1, .iastore, .iinc 2 1, .goto 12]
def b65_62 : List Instr := [.return_]
def bk65 : Nat → List Instr := fun pc => match pc with
  | 0 => b65_0
  | 12 => b65_12
  | 62 => b65_62
  | _ => []
/-- 66: FieldsByDots.<init>()V -/
def b66_0 : List Instr := [.aload 0, .monitorenter, .aload 0, .new 4, .dup, .invokeinterface 59 1, .putfield 160, .aload 0, .iconst 4, .anewarray 2, .putfield 161, .iconst 0, .istore 1, .jsr 25]
def b66_25 : List Instr := [.iload 1, .iconst 4, .if_icmp .ge 49, .aload 0, .getfield 161, .iload 1, .new 2, .dup, .invokeinterface 15 1, .aastore, .iinc 1 1, .goto 25]
def b66_49 : List Instr := [.aload 0, .iconst 8, .anewarray 2, .putfield 162, .iconst 0, .istore 1, .jsr 60]
def b66_60 : List Instr := [.iload 1, .iconst 8, .if_icmp .ge 85, .aload 0, .getfield 162, .iload 1, .new 2, .dup, .invokeinterface 15 1, .aastore, .iinc 1 1, .goto 60]
def b66_85 : List Instr := [.aload 0, .iconst 2, .newarray .boolean, .putfield 163, .aload 0, .new 2, .dup, .invokeinterface 15 1, .putfield 164, .aload 0, .new 3, .dup, .invokeinterface 52 1, .putfield 165, .aload 0, .new 0, .dup, .invokeinterface 0 1, .putfield 166, .aload 0, .new 1, .dup, .invokeinterface 10 1, .putfield 167, .return_]
def bk66 : Nat → List Instr := fun pc => match pc with
  | 0 => b66_0
  | 25 => b66_25
  | 49 => b66_49
  | 60 => b66_60
  | 85 => b66_85
  | _ => []
/-- 67: FieldsByDots.write(IJ)I -/
def b67_0 : List Instr := [.iload 1, .iconst 1, .if_icmp .lt 11, .iload 1, .iconst 8, .if_icmp .le 14, .jsr 11]
def b67_11 : List Instr := [.iconst (-2), .ireturn]
def b67_14 : List Instr := [.aload 0, .getfield 160, .getfield 129, .iload 1, .iadd, .iconst 24, .if_icmp .le 31, .iconst (-4), .ireturn]
def b67_31 : List Instr := [.aload 0, .getfield 160, .iload 1, .lload 2, .invokeinterface 60 3, .aload 0, .getfield 160, .getfield 129, .ireturn]
def bk67 : Nat → List Instr := fun pc => match pc with
  | 0 => b67_0
  | 11 => b67_11
  | 14 => b67_14
  | 31 => b67_31
  | _ => []
/-- 68: FieldsByDots.wipe()I -/
def b68_0 : List Instr := [.aload 0, .getfield 160, .getfield 129, .istore 1, .aload 0, .getfield 160, .iconst 0, .putfield 129, .iload 1, .ireturn]
def bk68 : Nat → List Instr := fun pc => match pc with
  | 0 => b68_0
  | _ => []
/-- 69: FieldsByDots.fault()I -/
def b69_0 : List Instr := [.aload 0, .getfield 160, .invokeinterface 61 1, .ireturn]
def bk69 : Nat → List Instr := fun pc => match pc with
  | 0 => b69_0
  | _ => []
/-- 70: FieldsByDots.field(I)I -/
def b70_0 : List Instr := [.iload 1, .invokeinterface 98 1, .ifCond .ne 9, .iconst (-1), .ireturn]
def b70_9 : List Instr := [.aload 0, .getfield 160, .invokeinterface 61 1, .iconst (-9), .if_icmp .eq 24, .iconst (-3), .ireturn]
def b70_24 : List Instr := [.aload 0, .getfield 160, .aload 0, .getfield 161, .iload 1, .aaload, .invokeinterface 65 2, .aload 0, .getfield 161, .iload 1, .aaload, .getfield 66, .ireturn]
def bk70 : Nat → List Instr := fun pc => match pc with
  | 0 => b70_0
  | 9 => b70_9
  | 24 => b70_24
  | _ => []
/-- 71: FieldsByDots.corner(III)I -/
def b71_0 : List Instr := [.aload 0, .iload 1, .iload 2, .invokeinterface 101 3, .ifCond .ne 11, .iconst (-1), .ireturn]
def b71_11 : List Instr := [.iload 3, .ifCond .eq 23, .iload 3, .iconst 1, .if_icmp .eq 23, .iconst (-2), .ireturn]
def b71_23 : List Instr := [.iload 3, .ifCond .ne 41, .aload 0, .getfield 161, .iload 1, .aaload, .getfield 64, .iload 2, .iaload, .goto 52]
def b71_41 : List Instr := [.aload 0, .getfield 161, .iload 1, .aaload, .getfield 65, .iload 2, .iaload, .jsr 52]
def b71_52 : List Instr := [.ireturn]
def bk71 : Nat → List Instr := fun pc => match pc with
  | 0 => b71_0
  | 11 => b71_11
  | 23 => b71_23
  | 41 => b71_41
  | 52 => b71_52
  | _ => []
/-- 72: FieldsByDots.move(IIII)I -/
def b72_0 : List Instr := [.aload 0, .iload 1, .iload 2, .invokeinterface 101 3, .ifCond .ne 11, .iconst (-1), .ireturn]
def b72_11 : List Instr := [.iload 3, .iload 4, .invokeinterface 99 2, .ifCond .ne 23, .iconst (-2), .ireturn]
def b72_23 : List Instr := [.aload 0, .getfield 161, .iload 1, .aaload, .iload 3, .iload 4, .invokeinterface 17 3, .istore 5, .iload 5, .iload 2, .if_icmp .ne 45, .iconst 0, .ireturn]
def b72_45 : List Instr := [.iload 5, .iconst (-9), .if_icmp .eq 55, .iconst (-3), .ireturn]
def b72_55 : List Instr := [.aload 0, .getfield 161, .iload 1, .aaload, .getfield 64, .iload 2, .iload 3, .iastore, .aload 0, .getfield 161, .iload 1, .aaload, .getfield 65, .iload 2, .iload 4, .iastore, .iconst 1, .ireturn]
def bk72 : Nat → List Instr := fun pc => match pc with
  | 0 => b72_0
  | 11 => b72_11
  | 23 => b72_23
  | 45 => b72_45
  | 55 => b72_55
  | _ => []
/-- 73: FieldsByDots.put(IIII)I -/
def b73_0 : List Instr := [.iload 1, .invokeinterface 98 1, .ifCond .eq 24, .iload 2, .ifCond .lt 24, .iload 2, .aload 0, .getfield 161, .iload 1, .aaload, .getfield 66, .if_icmp .le 26, .jsr 24]
def b73_24 : List Instr := [.iconst (-1), .ireturn]
def b73_26 : List Instr := [.iload 3, .iload 4, .invokeinterface 99 2, .ifCond .ne 38, .iconst (-2), .ireturn]
def b73_38 : List Instr := [.aload 0, .getfield 161, .iload 1, .aaload, .iload 3, .iload 4, .invokeinterface 17 3, .iconst (-9), .if_icmp .eq 58, .iconst (-3), .ireturn]
def b73_58 : List Instr := [.aload 0, .getfield 161, .iload 1, .aaload, .getfield 66, .iconst 10, .if_icmp .lt 75, .iconst (-4), .ireturn]
def b73_75 : List Instr := [.aload 0, .getfield 161, .iload 1, .aaload, .iload 2, .iload 3, .iload 4, .invokeinterface 19 4, .aload 0, .getfield 161, .iload 1, .aaload, .getfield 66, .ireturn]
def bk73 : Nat → List Instr := fun pc => match pc with
  | 0 => b73_0
  | 24 => b73_24
  | 26 => b73_26
  | 38 => b73_38
  | 58 => b73_58
  | 75 => b73_75
  | _ => []
/-- 74: FieldsByDots.take(II)I -/
def b74_0 : List Instr := [.aload 0, .iload 1, .iload 2, .invokeinterface 101 3, .ifCond .ne 11, .iconst (-1), .ireturn]
def b74_11 : List Instr := [.aload 0, .getfield 161, .iload 1, .aaload, .getfield 66, .iconst 3, .if_icmp .gt 27, .iconst (-3), .ireturn]
def b74_27 : List Instr := [.aload 0, .getfield 161, .iload 1, .aaload, .iload 2, .invokeinterface 20 2, .aload 0, .getfield 161, .iload 1, .aaload, .getfield 66, .ireturn]
def bk74 : Nat → List Instr := fun pc => match pc with
  | 0 => b74_0
  | 11 => b74_11
  | 27 => b74_27
  | _ => []
/-- 75: FieldsByDots.turn(II)I -/
def b75_0 : List Instr := [.iload 1, .invokeinterface 98 1, .ifCond .ne 9, .iconst (-1), .ireturn]
def b75_9 : List Instr := [.iload 2, .ifCond .lt 19, .iload 2, .iconst 7, .if_icmp .le 22, .jsr 19]
def b75_19 : List Instr := [.iconst (-2), .ireturn]
def b75_22 : List Instr := [.iload 2, .iconst 4, .if_icmp .lt 36, .aload 0, .getfield 161, .iload 1, .aaload, .invokeinterface 21 1, .jsr 36]
def b75_36 : List Instr := [.iconst 0, .istore 3, .jsr 38]
def b75_38 : List Instr := [.iload 3, .iload 2, .iconst 3, .iand, .if_icmp .ge 60, .aload 0, .getfield 161, .iload 1, .aaload, .invokeinterface 22 1, .iinc 3 1, .goto 38]
def b75_60 : List Instr := [.aload 0, .getfield 161, .iload 1, .aaload, .getfield 66, .ireturn]
def bk75 : Nat → List Instr := fun pc => match pc with
  | 0 => b75_0
  | 9 => b75_9
  | 19 => b75_19
  | 22 => b75_22
  | 36 => b75_36
  | 38 => b75_38
  | 60 => b75_60
  | _ => []
/-- 76: FieldsByDots.shift(III)I -/
def b76_0 : List Instr := [.iload 1, .invokeinterface 98 1, .ifCond .ne 9, .iconst (-1), .ireturn]
def b76_9 : List Instr := [.iload 2, .iconst (-15), .if_icmp .lt 33, .iload 2, .iconst 15, .if_icmp .gt 33, .iload 3, .iconst (-15), .if_icmp .lt 33, .iload 3, .iconst 15, .if_icmp .le 36, .jsr 33]
def b76_33 : List Instr := [.iconst (-2), .ireturn]
def b76_36 : List Instr := [.aload 0, .getfield 161, .iload 1, .aaload, .iload 2, .iload 3, .invokeinterface 23 3, .ifCond .ne 53, .iconst (-3), .ireturn]
def b76_53 : List Instr := [.aload 0, .getfield 161, .iload 1, .aaload, .iload 2, .iload 3, .invokeinterface 24 3, .aload 0, .getfield 161, .iload 1, .aaload, .getfield 66, .ireturn]
def bk76 : Nat → List Instr := fun pc => match pc with
  | 0 => b76_0
  | 9 => b76_9
  | 33 => b76_33
  | 36 => b76_36
  | 53 => b76_53
  | _ => []
/-- 77: FieldsByDots.sound(I)I -/
def b77_0 : List Instr := [.iload 1, .invokeinterface 98 1, .ifCond .ne 9, .iconst (-1), .ireturn]
def b77_9 : List Instr := [.aload 0, .getfield 161, .iload 1, .aaload, .invokeinterface 31 1, .ifCond .eq 25, .iconst 1, .goto 26]
def b77_25 : List Instr := [.iconst 0, .jsr 26]
def b77_26 : List Instr := [.ireturn]
def bk77 : Nat → List Instr := fun pc => match pc with
  | 0 => b77_0
  | 9 => b77_9
  | 25 => b77_25
  | 26 => b77_26
  | _ => []
/-- 78: FieldsByDots.about(II)I -/
def b78_0 : List Instr := [.iload 1, .invokeinterface 98 1, .ifCond .ne 9, .iconst (-1), .ireturn]
def b78_9 : List Instr := [.iload 2, .ifCond .lt 19, .iload 2, .iconst 8, .if_icmp .le 22, .jsr 19]
def b78_19 : List Instr := [.iconst (-2), .ireturn]
def b78_22 : List Instr := [.aload 0, .getfield 161, .iload 1, .aaload, .invokeinterface 31 1, .ifCond .ne 37, .iconst (-3), .ireturn]
def b78_37 : List Instr := [.iload 2, .iconst 6, .if_icmp .ge 56, .aload 0, .getfield 161, .iload 1, .aaload, .iload 2, .invokeinterface 104 2, .goto 67]
def b78_56 : List Instr := [.aload 0, .aload 0, .getfield 161, .iload 1, .aaload, .iload 2, .invokeinterface 105 3, .jsr 67]
def b78_67 : List Instr := [.ireturn]
def bk78 : Nat → List Instr := fun pc => match pc with
  | 0 => b78_0
  | 9 => b78_9
  | 19 => b78_19
  | 22 => b78_22
  | 37 => b78_37
  | 56 => b78_56
  | 67 => b78_67
  | _ => []
/-- 79: FieldsByDots.where(III)I -/
def b79_0 : List Instr := [.iload 1, .invokeinterface 98 1, .ifCond .ne 9, .iconst (-1), .ireturn]
def b79_9 : List Instr := [.iload 2, .iload 3, .invokeinterface 99 2, .ifCond .ne 20, .iconst (-2), .ireturn]
def b79_20 : List Instr := [.aload 0, .getfield 161, .iload 1, .aaload, .invokeinterface 31 1, .ifCond .ne 35, .iconst (-3), .ireturn]
def b79_35 : List Instr := [.aload 0, .getfield 161, .iload 1, .aaload, .iconst 2, .iload 2, .imul, .iconst 2, .iload 3, .imul, .invokeinterface 42 3, .ireturn]
def bk79 : Nat → List Instr := fun pc => match pc with
  | 0 => b79_0
  | 9 => b79_9
  | 20 => b79_20
  | 35 => b79_35
  | _ => []
/-- 80: FieldsByDots.how(II)I -/
def b80_0 : List Instr := [.aload 0, .iload 1, .iload 2, .invokeinterface 101 3, .ifCond .ne 11, .iconst (-1), .ireturn]
def b80_11 : List Instr := [.aload 0, .getfield 161, .iload 1, .aaload, .invokeinterface 31 1, .ifCond .ne 26, .iconst (-3), .ireturn]
def b80_26 : List Instr := [.aload 0, .getfield 161, .iload 1, .aaload, .iload 2, .invokeinterface 39 2, .ireturn]
def bk80 : Nat → List Instr := fun pc => match pc with
  | 0 => b80_0
  | 11 => b80_11
  | 26 => b80_26
  | _ => []
/-- 81: FieldsByDots.wide(III)I -/
def b81_0 : List Instr := [.iload 1, .invokeinterface 98 1, .ifCond .ne 9, .iconst (-1), .ireturn]
def b81_9 : List Instr := [.iload 2, .iload 3, .invokeinterface 100 2, .ifCond .ne 20, .iconst (-2), .ireturn]
def b81_20 : List Instr := [.aload 0, .getfield 161, .iload 1, .aaload, .getfield 66, .ifCond .ne 35, .iconst (-3), .ireturn]
def b81_35 : List Instr := [.aload 0, .getfield 161, .iload 1, .aaload, .iload 2, .iload 3, .invokeinterface 41 3, .ireturn]
def bk81 : Nat → List Instr := fun pc => match pc with
  | 0 => b81_0
  | 9 => b81_9
  | 20 => b81_20
  | 35 => b81_35
  | _ => []
/-- 82: FieldsByDots.narrow(II)I -/
def b82_0 : List Instr := [.iload 1, .invokeinterface 98 1, .ifCond .ne 9, .iconst (-1), .ireturn]
def b82_9 : List Instr := [.iload 2, .ifCond .lt 18, .iload 2, .iconst 2, .if_icmp .le 21, .jsr 18]
def b82_18 : List Instr := [.iconst (-2), .ireturn]
def b82_21 : List Instr := [.aload 0, .getfield 161, .iload 1, .aaload, .getfield 66, .ifCond .ne 36, .iconst (-3), .ireturn]
def b82_36 : List Instr := [.aload 0, .getfield 161, .iload 1, .aaload, .iload 2, .invokeinterface 106 2, .ireturn]
def bk82 : Nat → List Instr := fun pc => match pc with
  | 0 => b82_0
  | 9 => b82_9
  | 18 => b82_18
  | 21 => b82_21
  | 36 => b82_36
  | _ => []
/-- 83: FieldsByDots.grown(II)J -/
def b83_0 : List Instr := [.iload 1, .invokeinterface 98 1, .ifCond .ne 11, .goto_w (-1), .lreturn]
def b83_11 : List Instr := [.iload 2, .iconst 1, .if_icmp .lt 22, .iload 2, .iconst 99, .if_icmp .le 26, .jsr 22]
def b83_22 : List Instr := [.goto_w (-2), .lreturn]
def b83_26 : List Instr := [.aload 0, .getfield 161, .iload 1, .aaload, .invokeinterface 31 1, .ifCond .ne 42, .goto_w (-3), .lreturn]
def b83_42 : List Instr := [.aload 0, .getfield 161, .iload 1, .aaload, .invokeinterface 34 1, .fneg, .i2l, .iload 2, .i2l, .lmul, .iload 2, .i2l, .lmul, .lstore 3, .aload 0, .getfield 161, .iload 1, .aaload, .invokeinterface 37 1, .i2l, .iload 2, .i2l, .lmul, .lstore 5, .lload 3, .lload 5, .ladd, .goto_w 2, .ldiv, .goto_w 1, .ladd, .lreturn]
def bk83 : Nat → List Instr := fun pc => match pc with
  | 0 => b83_0
  | 11 => b83_11
  | 22 => b83_22
  | 26 => b83_26
  | 42 => b83_42
  | _ => []
/-- 84: FieldsByDots.hull(II)I -/
def b84_0 : List Instr := [.iload 1, .invokeinterface 98 1, .ifCond .eq 14, .iload 2, .invokeinterface 98 1, .ifCond .ne 16, .jsr 14]
def b84_14 : List Instr := [.iconst (-1), .ireturn]
def b84_16 : List Instr := [.aload 0, .getfield 161, .iload 2, .aaload, .invokeinterface 43 1, .ifCond .eq 31, .iconst (-3), .ireturn]
def b84_31 : List Instr := [.aload 0, .getfield 161, .iload 2, .aaload, .aload 0, .getfield 164, .invokeinterface 44 2, .aload 0, .getfield 161, .iload 1, .aaload, .aload 0, .getfield 164, .invokeinterface 18 2, .aload 0, .getfield 161, .iload 1, .aaload, .getfield 66, .ireturn]
def bk84 : Nat → List Instr := fun pc => match pc with
  | 0 => b84_0
  | 14 => b84_14
  | 16 => b84_16
  | 31 => b84_31
  | _ => []
/-- 85: FieldsByDots.sees(III)I -/
def b85_0 : List Instr := [.aload 0, .iload 1, .iload 2, .iload 3, .invokeinterface 102 4, .ifCond .eq 15, .iload 2, .iload 3, .if_icmp .ne 17, .jsr 15]
def b85_15 : List Instr := [.iconst (-1), .ireturn]
def b85_17 : List Instr := [.aload 0, .getfield 161, .iload 1, .aaload, .invokeinterface 31 1, .ifCond .ne 32, .iconst (-3), .ireturn]
def b85_32 : List Instr := [.aload 0, .getfield 161, .iload 1, .aaload, .iload 2, .iload 3, .invokeinterface 46 3, .ifCond .eq 50, .iconst 1, .goto 51]
def b85_50 : List Instr := [.iconst 0, .jsr 51]
def b85_51 : List Instr := [.ireturn]
def bk85 : Nat → List Instr := fun pc => match pc with
  | 0 => b85_0
  | 15 => b85_15
  | 17 => b85_17
  | 32 => b85_32
  | 50 => b85_50
  | 51 => b85_51
  | _ => []
/-- 86: FieldsByDots.strip(III)I -/
def b86_0 : List Instr := [.aload 0, .iload 1, .iload 2, .iload 3, .invokeinterface 102 4, .ifCond .eq 15, .iload 2, .iload 3, .if_icmp .ne 17, .jsr 15]
def b86_15 : List Instr := [.iconst (-1), .ireturn]
def b86_17 : List Instr := [.aload 0, .getfield 161, .iload 1, .aaload, .invokeinterface 31 1, .ifCond .ne 32, .iconst (-3), .ireturn]
def b86_32 : List Instr := [.aload 0, .getfield 161, .iload 1, .aaload, .iload 2, .iload 3, .invokeinterface 47 3, .ifCond .eq 50, .iconst 1, .goto 51]
def b86_50 : List Instr := [.iconst 0, .jsr 51]
def b86_51 : List Instr := [.ireturn]
def bk86 : Nat → List Instr := fun pc => match pc with
  | 0 => b86_0
  | 15 => b86_15
  | 17 => b86_17
  | 32 => b86_32
  | 50 => b86_50
  | 51 => b86_51
  | _ => []
/-- 87: FieldsByDots.least(II)I -/
def b87_0 : List Instr := [.iload 1, .invokeinterface 98 1, .ifCond .ne 9, .iconst (-1), .ireturn]
def b87_9 : List Instr := [.aload 0, .getfield 161, .iload 1, .aaload, .invokeinterface 31 1, .ifCond .ne 24, .iconst (-3), .ireturn]
def b87_24 : List Instr := [.aload 0, .getfield 165, .aload 0, .getfield 161, .iload 1, .aaload, .invokeinterface 53 2, .aload 0, .getfield 166, .aload 0, .getfield 161, .iload 1, .aaload, .aload 0, .getfield 165, .invokeinterface 1 3, .aload 0, .getfield 166, .iload 2, .invokeinterface 9 2, .ireturn]
def bk87 : Nat → List Instr := fun pc => match pc with
  | 0 => b87_0
  | 9 => b87_9
  | 24 => b87_24
  | _ => []
/-- 88: FieldsByDots.fair(I)I -/
def b88_0 : List Instr := [.iload 1, .invokeinterface 98 1, .ifCond .ne 9, .iconst (-1), .ireturn]
def b88_9 : List Instr := [.aload 0, .getfield 161, .iload 1, .aaload, .invokeinterface 31 1, .ifCond .ne 24, .iconst (-3), .ireturn]
def b88_24 : List Instr := [.aload 0, .getfield 165, .aload 0, .getfield 161, .iload 1, .aaload, .invokeinterface 53 2, .aload 0, .aload 0, .getfield 161, .iload 1, .aaload, .invokeinterface 107 2, .ireturn]
def bk88 : Nat → List Instr := fun pc => match pc with
  | 0 => b88_0
  | 9 => b88_9
  | 24 => b88_24
  | _ => []
/-- 89: FieldsByDots.sides(III)I -/
def b89_0 : List Instr := [.aload 0, .iload 1, .iload 2, .iload 3, .invokeinterface 102 4, .ifCond .ne 12, .iconst (-1), .ireturn]
def b89_12 : List Instr := [.aload 0, .getfield 161, .iload 1, .aaload, .invokeinterface 31 1, .ifCond .eq 38, .aload 0, .getfield 161, .iload 1, .aaload, .iload 2, .iload 3, .invokeinterface 47 3, .ifCond .ne 41, .jsr 38]
def b89_38 : List Instr := [.iconst (-3), .ireturn]
def b89_41 : List Instr := [.aload 0, .getfield 161, .iload 1, .aaload, .iload 2, .iload 3, .invokeinterface 36 3, .ireturn]
def bk89 : Nat → List Instr := fun pc => match pc with
  | 0 => b89_0
  | 12 => b89_12
  | 38 => b89_38
  | 41 => b89_41
  | _ => []
/-- 90: FieldsByDots.guards(I)I -/
def b90_0 : List Instr := [.iload 1, .invokeinterface 98 1, .ifCond .ne 9, .iconst (-1), .ireturn]
def b90_9 : List Instr := [.aload 0, .getfield 161, .iload 1, .aaload, .invokeinterface 31 1, .ifCond .ne 24, .iconst (-3), .ireturn]
def b90_24 : List Instr := [.aload 0, .getfield 165, .aload 0, .getfield 161, .iload 1, .aaload, .invokeinterface 53 2, .aload 0, .getfield 165, .invokeinterface 57 1, .ireturn]
def bk90 : Nat → List Instr := fun pc => match pc with
  | 0 => b90_0
  | 9 => b90_9
  | 24 => b90_24
  | _ => []
/-- 91: FieldsByDots.hops(III)I -/
def b91_0 : List Instr := [.aload 0, .iload 1, .iload 2, .iload 3, .invokeinterface 102 4, .ifCond .ne 12, .iconst (-1), .ireturn]
def b91_12 : List Instr := [.aload 0, .getfield 161, .iload 1, .aaload, .invokeinterface 31 1, .ifCond .ne 27, .iconst (-3), .ireturn]
def b91_27 : List Instr := [.aload 0, .getfield 165, .aload 0, .getfield 161, .iload 1, .aaload, .invokeinterface 53 2, .aload 0, .getfield 165, .iload 2, .iload 3, .invokeinterface 58 3, .ireturn]
def bk91 : Nat → List Instr := fun pc => match pc with
  | 0 => b91_0
  | 12 => b91_12
  | 27 => b91_27
  | _ => []
/-- 92: FieldsByDots.alike(II)I -/
def b92_0 : List Instr := [.aload 0, .iload 1, .iload 2, .invokeinterface 103 3, .istore 3, .iload 3, .ifCond .eq 13, .iload 3, .ireturn]
def b92_13 : List Instr := [.aload 0, .getfield 167, .aload 0, .getfield 161, .iload 1, .aaload, .aload 0, .getfield 161, .iload 2, .aaload, .iconst 1, .invokeinterface 11 4, .ifCond .ne 59, .aload 0, .getfield 167, .aload 0, .getfield 161, .iload 1, .aaload, .aload 0, .getfield 161, .iload 2, .aaload, .iconst (-1), .invokeinterface 11 4, .ifCond .eq 63, .jsr 59]
def b92_59 : List Instr := [.iconst 1, .goto 64]
def b92_63 : List Instr := [.iconst 0, .jsr 64]
def b92_64 : List Instr := [.istore 4, .iload 4, .ifCond .eq 75, .iconst 1, .goto 76]
def b92_75 : List Instr := [.iconst 0, .jsr 76]
def b92_76 : List Instr := [.ireturn]
def bk92 : Nat → List Instr := fun pc => match pc with
  | 0 => b92_0
  | 13 => b92_13
  | 59 => b92_59
  | 63 => b92_63
  | 64 => b92_64
  | 75 => b92_75
  | 76 => b92_76
  | _ => []
/-- 93: FieldsByDots.mirrored(II)I -/
def b93_0 : List Instr := [.aload 0, .iload 1, .iload 2, .invokeinterface 103 3, .istore 3, .iload 3, .ifCond .eq 13, .iload 3, .ireturn]
def b93_13 : List Instr := [.aload 0, .getfield 167, .aload 0, .getfield 161, .iload 1, .aaload, .aload 0, .getfield 161, .iload 2, .aaload, .iconst (-1), .invokeinterface 11 4, .ifCond .eq 40, .iconst 1, .goto 41]
def b93_40 : List Instr := [.iconst 0, .jsr 41]
def b93_41 : List Instr := [.ireturn]
def bk93 : Nat → List Instr := fun pc => match pc with
  | 0 => b93_0
  | 13 => b93_13
  | 40 => b93_40
  | 41 => b93_41
  | _ => []
/-- 94: FieldsByDots.common(II)I -/
def b94_0 : List Instr := [.aload 0, .iload 1, .iload 2, .invokeinterface 103 3, .istore 3, .iload 3, .ifCond .eq 13, .iload 3, .ireturn]
def b94_13 : List Instr := [.iconst 0, .istore 4, .iconst 0, .istore 5, .jsr 19]
def b94_19 : List Instr := [.iload 5, .iconst 15, .if_icmp .gt 93, .iconst 0, .istore 6, .jsr 29]
def b94_29 : List Instr := [.iload 6, .iconst 15, .if_icmp .gt 87, .aload 0, .getfield 161, .iload 1, .aaload, .iconst 2, .iload 5, .imul, .iconst 2, .iload 6, .imul, .invokeinterface 42 3, .iconst 2, .if_icmp .eq 81, .aload 0, .getfield 161, .iload 2, .aaload, .iconst 2, .iload 5, .imul, .iconst 2, .iload 6, .imul, .invokeinterface 42 3, .iconst 2, .if_icmp .eq 81, .iinc 4 1, .jsr 81]
def b94_81 : List Instr := [.iinc 6 1, .goto 29]
def b94_87 : List Instr := [.iinc 5 1, .goto 19]
def b94_93 : List Instr := [.iload 4, .ireturn]
def bk94 : Nat → List Instr := fun pc => match pc with
  | 0 => b94_0
  | 13 => b94_13
  | 19 => b94_19
  | 29 => b94_29
  | 81 => b94_81
  | 87 => b94_87
  | 93 => b94_93
  | _ => []
/-- 95: FieldsByDots.keep(I)I -/
def b95_0 : List Instr := [.iload 1, .ifCond .lt 9, .iload 1, .iconst 2, .if_icmp .lt 11, .jsr 9]
def b95_9 : List Instr := [.iconst (-1), .ireturn]
def b95_11 : List Instr := [.iconst 0, .istore 2, .jsr 13]
def b95_13 : List Instr := [.iload 2, .iconst 4, .if_icmp .ge 43, .aload 0, .getfield 162, .iload 1, .iconst 4, .imul, .iload 2, .iadd, .aaload, .aload 0, .getfield 161, .iload 2, .aaload, .invokeinterface 18 2, .iinc 2 1, .goto 13]
def b95_43 : List Instr := [.aload 0, .getfield 163, .iload 1, .iconst 1, .bastore, .aload 0, .invokeinterface 108 1, .ireturn]
def bk95 : Nat → List Instr := fun pc => match pc with
  | 0 => b95_0
  | 9 => b95_9
  | 11 => b95_11
  | 13 => b95_13
  | 43 => b95_43
  | _ => []
/-- 96: FieldsByDots.again(I)I -/
def b96_0 : List Instr := [.iload 1, .ifCond .lt 9, .iload 1, .iconst 2, .if_icmp .lt 11, .jsr 9]
def b96_9 : List Instr := [.iconst (-1), .ireturn]
def b96_11 : List Instr := [.aload 0, .getfield 163, .iload 1, .baload, .ifCond .ne 23, .iconst (-3), .ireturn]
def b96_23 : List Instr := [.iconst 0, .istore 2, .jsr 25]
def b96_25 : List Instr := [.iload 2, .iconst 4, .if_icmp .ge 55, .aload 0, .getfield 161, .iload 2, .aaload, .aload 0, .getfield 162, .iload 1, .iconst 4, .imul, .iload 2, .iadd, .aaload, .invokeinterface 18 2, .iinc 2 1, .goto 25]
def b96_55 : List Instr := [.aload 0, .invokeinterface 108 1, .ireturn]
def bk96 : Nat → List Instr := fun pc => match pc with
  | 0 => b96_0
  | 9 => b96_9
  | 11 => b96_11
  | 23 => b96_23
  | 25 => b96_25
  | 55 => b96_55
  | _ => []
/-- 97: FieldsByDots.count(I)I -/
def b97_0 : List Instr := [.iload 1, .tableswitch 46 0 2 #[28, 36, 41]]
def b97_28 : List Instr := [.aload 0, .getfield 160, .getfield 129, .ireturn]
def b97_36 : List Instr := [.aload 0, .invokeinterface 108 1, .ireturn]
def b97_41 : List Instr := [.aload 0, .invokeinterface 109 1, .ireturn]
def b97_46 : List Instr := [.iconst (-2), .ireturn]
def bk97 : Nat → List Instr := fun pc => match pc with
  | 0 => b97_0
  | 28 => b97_28
  | 36 => b97_36
  | 41 => b97_41
  | 46 => b97_46
  | _ => []
/-- 98: FieldsByDots.isField(I)Z -/
def b98_0 : List Instr := [.iload 0, .ifCond .lt 13, .iload 0, .iconst 4, .if_icmp .ge 13, .iconst 1, .goto 14]
def b98_13 : List Instr := [.iconst 0, .jsr 14]
def b98_14 : List Instr := [.freturn]
def bk98 : Nat → List Instr := fun pc => match pc with
  | 0 => b98_0
  | 13 => b98_13
  | 14 => b98_14
  | _ => []
/-- 99: FieldsByDots.isDot(II)Z -/
def b99_0 : List Instr := [.iload 0, .ifCond .lt 24, .iload 0, .iconst 15, .if_icmp .gt 24, .iload 1, .ifCond .lt 24, .iload 1, .iconst 15, .if_icmp .gt 24, .iconst 1, .goto 25]
def b99_24 : List Instr := [.iconst 0, .jsr 25]
def b99_25 : List Instr := [.freturn]
def bk99 : Nat → List Instr := fun pc => match pc with
  | 0 => b99_0
  | 24 => b99_24
  | 25 => b99_25
  | _ => []
/-- 100: FieldsByDots.isSlant(II)Z -/
def b100_0 : List Instr := [.iload 0, .iconst (-9), .if_icmp .lt 36, .iload 0, .iconst 9, .if_icmp .gt 36, .iload 1, .iconst (-9), .if_icmp .lt 36, .iload 1, .iconst 9, .if_icmp .gt 36, .iload 0, .ifCond .ne 32, .iload 1, .ifCond .eq 36, .jsr 32]
def b100_32 : List Instr := [.iconst 1, .goto 37]
def b100_36 : List Instr := [.iconst 0, .jsr 37]
def b100_37 : List Instr := [.freturn]
def bk100 : Nat → List Instr := fun pc => match pc with
  | 0 => b100_0
  | 32 => b100_32
  | 36 => b100_36
  | 37 => b100_37
  | _ => []
/-- 101: FieldsByDots.isCorner(II)Z -/
def b101_0 : List Instr := [.iload 1, .invokeinterface 98 1, .ifCond .eq 24, .aload 0, .getfield 161, .iload 1, .aaload, .iload 2, .invokeinterface 16 2, .ifCond .eq 24, .iconst 1, .goto 25]
def b101_24 : List Instr := [.iconst 0, .jsr 25]
def b101_25 : List Instr := [.freturn]
def bk101 : Nat → List Instr := fun pc => match pc with
  | 0 => b101_0
  | 24 => b101_24
  | 25 => b101_25
  | _ => []
/-- 102: FieldsByDots.isPair(III)Z -/
def b102_0 : List Instr := [.aload 0, .iload 1, .iload 2, .invokeinterface 101 3, .ifCond .eq 22, .aload 0, .iload 1, .iload 3, .invokeinterface 101 3, .ifCond .eq 22, .iconst 1, .goto 23]
def b102_22 : List Instr := [.iconst 0, .jsr 23]
def b102_23 : List Instr := [.freturn]
def bk102 : Nat → List Instr := fun pc => match pc with
  | 0 => b102_0
  | 22 => b102_22
  | 23 => b102_23
  | _ => []
/-- 103: FieldsByDots.refusalOfTwo(II)I -/
def b103_0 : List Instr := [.iload 1, .invokeinterface 98 1, .ifCond .eq 14, .iload 2, .invokeinterface 98 1, .ifCond .ne 16, .jsr 14]
def b103_14 : List Instr := [.iconst (-1), .ireturn]
def b103_16 : List Instr := [.aload 0, .getfield 161, .iload 1, .aaload, .invokeinterface 31 1, .ifCond .eq 44, .aload 0, .getfield 161, .iload 2, .aaload, .invokeinterface 31 1, .ifCond .eq 44, .iconst 0, .goto 46]
def b103_44 : List Instr := [.iconst (-3), .jsr 46]
def b103_46 : List Instr := [.ireturn]
def bk103 : Nat → List Instr := fun pc => match pc with
  | 0 => b103_0
  | 14 => b103_14
  | 16 => b103_16
  | 44 => b103_44
  | 46 => b103_46
  | _ => []
/-- 104: FieldsByDots.aboutShape(LFieldsByDots$Outline;I)I -/
def b104_0 : List Instr := [.iload 1, .tableswitch 73 0 4 #[36, 44, 57, 62, 67]]
def b104_36 : List Instr := [.aload 0, .invokeinterface 34 1, .fneg, .ireturn]
def b104_44 : List Instr := [.aload 0, .invokeinterface 34 1, .ifCond .le 55, .iconst 1, .goto 56]
def b104_55 : List Instr := [.iconst 0, .jsr 56]
def b104_56 : List Instr := [.ireturn]
def b104_57 : List Instr := [.aload 0, .invokeinterface 37 1, .ireturn]
def b104_62 : List Instr := [.aload 0, .invokeinterface 38 1, .ireturn]
def b104_67 : List Instr := [.aload 0, .iconst 2, .invokeinterface 40 2, .ireturn]
def b104_73 : List Instr := [.aload 0, .iconst 1, .invokeinterface 40 2, .ireturn]
def bk104 : Nat → List Instr := fun pc => match pc with
  | 0 => b104_0
  | 36 => b104_36
  | 44 => b104_44
  | 55 => b104_55
  | 56 => b104_56
  | 57 => b104_57
  | 62 => b104_62
  | 67 => b104_67
  | 73 => b104_73
  | _ => []
/-- 105: FieldsByDots.aboutCuts(LFieldsByDots$Outline;I)I -/
def b105_0 : List Instr := [.aload 0, .getfield 165, .aload 1, .invokeinterface 53 2, .iload 2, .iconst 6, .if_icmp .ne 22, .aload 0, .getfield 165, .invokeinterface 55 1, .ireturn]
def b105_22 : List Instr := [.aload 0, .getfield 166, .aload 1, .aload 0, .getfield 165, .invokeinterface 1 3, .iload 2, .iconst 7, .if_icmp .ne 50, .aload 0, .getfield 166, .invokeinterface 7 1, .goto 57]
def b105_50 : List Instr := [.aload 0, .getfield 166, .invokeinterface 8 1, .jsr 57]
def b105_57 : List Instr := [.ireturn]
def bk105 : Nat → List Instr := fun pc => match pc with
  | 0 => b105_0
  | 22 => b105_22
  | 50 => b105_50
  | 57 => b105_57
  | _ => []
/-- 106: FieldsByDots.narrowest(LFieldsByDots$Outline;I)I -/
def b106_0 : List Instr := [.aload 0, .iconst 0, .iconst (-1), .invokeinterface 41 3, .istore 2, .iconst 0, .istore 3, .iconst (-1), .istore 4, .iconst 1, .istore 5, .jsr 15]
def b106_15 : List Instr := [.iload 5, .iconst 9, .if_icmp .gt 87, .iconst (-9), .istore 6, .jsr 26]
def b106_26 : List Instr := [.iload 6, .iconst 9, .if_icmp .gt 81, .iload 5, .iload 6, .fneg, .invokeinterface 110 2, .iconst 1, .if_icmp .ne 75, .aload 0, .iload 5, .iload 6, .invokeinterface 41 3, .iload 2, .if_icmp .ge 75, .aload 0, .iload 5, .iload 6, .invokeinterface 41 3, .istore 2, .iload 5, .istore 3, .iload 6, .istore 4, .jsr 75]
def b106_75 : List Instr := [.iinc 6 1, .goto 26]
def b106_81 : List Instr := [.iinc 5 1, .goto 15]
def b106_87 : List Instr := [.iload 1, .ifCond .ne 93, .iload 2, .ireturn]
def b106_93 : List Instr := [.iload 1, .iconst 1, .if_icmp .ne 102, .iload 3, .goto 107]
def b106_102 : List Instr := [.iload 4, .iconst 100, .iadd, .jsr 107]
def b106_107 : List Instr := [.ireturn]
def bk106 : Nat → List Instr := fun pc => match pc with
  | 0 => b106_0
  | 15 => b106_15
  | 26 => b106_26
  | 75 => b106_75
  | 81 => b106_81
  | 87 => b106_87
  | 93 => b106_93
  | 102 => b106_102
  | 107 => b106_107
  | _ => []
/-- 107: FieldsByDots.fairest(LFieldsByDots$Outline;)I -/
def b107_0 : List Instr := [.iconst (-9), .istore 2, .iconst 0, .istore 3, .iconst 0, .istore 4, .jsr 8]
def b107_8 : List Instr := [.iload 4, .aload 1, .getfield 66, .if_icmp .ge 92, .iload 4, .iconst 1, .iadd, .istore 5, .jsr 23]
def b107_23 : List Instr := [.iload 5, .aload 1, .getfield 66, .if_icmp .ge 86, .aload 0, .getfield 165, .iload 4, .iload 5, .invokeinterface 54 3, .ifCond .eq 80, .aload 1, .iload 4, .iload 5, .invokeinterface 36 3, .istore 6, .iload 2, .iconst (-9), .if_icmp .eq 68, .iload 6, .iload 3, .if_icmp .ge 80, .jsr 68]
def b107_68 : List Instr := [.iconst 10, .iload 4, .imul, .iload 5, .iadd, .istore 2, .iload 6, .istore 3, .jsr 80]
def b107_80 : List Instr := [.iinc 5 1, .goto 23]
def b107_86 : List Instr := [.iinc 4 1, .goto 8]
def b107_92 : List Instr := [.iload 2, .ireturn]
def bk107 : Nat → List Instr := fun pc => match pc with
  | 0 => b107_0
  | 8 => b107_8
  | 23 => b107_23
  | 68 => b107_68
  | 80 => b107_80
  | 86 => b107_86
  | 92 => b107_92
  | _ => []
/-- 108: FieldsByDots.allCorners()I -/
def b108_0 : List Instr := [.iconst 0, .istore 1, .iconst 0, .istore 2, .jsr 4]
def b108_4 : List Instr := [.iload 2, .iconst 4, .if_icmp .ge 27, .iload 1, .aload 0, .getfield 161, .iload 2, .aaload, .getfield 66, .iadd, .istore 1, .iinc 2 1, .goto 4]
def b108_27 : List Instr := [.iload 1, .ireturn]
def bk108 : Nat → List Instr := fun pc => match pc with
  | 0 => b108_0
  | 4 => b108_4
  | 27 => b108_27
  | _ => []
/-- 109: FieldsByDots.soundFields()I -/
def b109_0 : List Instr := [.iconst 0, .istore 1, .iconst 0, .istore 2, .jsr 4]
def b109_4 : List Instr := [.iload 2, .iconst 4, .if_icmp .ge 30, .aload 0, .getfield 161, .iload 2, .aaload, .invokeinterface 31 1, .ifCond .eq 24, .iinc 1 1, .jsr 24]
def b109_24 : List Instr := [.iinc 2 1, .goto 4]
def b109_30 : List Instr := [.iload 1, .ireturn]
def bk109 : Nat → List Instr := fun pc => match pc with
  | 0 => b109_0
  | 4 => b109_4
  | 24 => b109_24
  | 30 => b109_30
  | _ => []
/-- 110: FieldsByDots.commonDivisor(II)I -/
def b110_0 : List Instr := [.iconst 15, .istore 2, .jsr 3]
def b110_3 : List Instr := [.iload 2, .iconst 1, .if_icmp .le 28, .iload 0, .iload 2, .irem, .ifCond .ne 22, .iload 1, .iload 2, .irem, .ifCond .ne 22, .iload 2, .ireturn]
def b110_22 : List Instr := [.iinc 2 (-1), .goto 3]
def b110_28 : List Instr := [.iconst 1, .ireturn]
def bk110 : Nat → List Instr := fun pc => match pc with
  | 0 => b110_0
  | 3 => b110_3
  | 22 => b110_22
  | 28 => b110_28
  | _ => []
/-- 111: FieldsByDotsModel.<init>()V -/
def b111_0 : List Instr := [.aload 0, .monitorenter, .aload 0, .iconst 24, .newarray .int, .putfield 192, .aload 0, .iconst 10, .newarray .int, .putfield 194, .aload 0, .iconst 10, .newarray .int, .putfield 195, .aload 0, .iconst 40, .newarray .int, .putfield 197, .aload 0, .iconst 40, .newarray .int, .putfield 198, .aload 0, .iconst 4, .newarray .int, .putfield 199, .aload 0, .iconst 10, .newarray .int, .putfield 200, .aload 0, .iconst 10, .newarray .int, .putfield 201, .aload 0, .iconst 32, .newarray .int, .putfield 202, .aload 0, .iconst 32, .newarray .int, .putfield 203, .aload 0, .iconst 100, .newarray .boolean, .putfield 205, .aload 0, .iconst 100, .newarray .boolean, .putfield 206, .aload 0, .iconst 100, .newarray .int, .putfield 207, .aload 0, .iconst 100, .newarray .int, .putfield 208, .aload 0, .iconst 10, .newarray .int, .putfield 209, .aload 0, .iconst 10, .newarray .int, .putfield 210, .aload 0, .iconst 2, .newarray .boolean, .putfield 216, .aload 0, .iconst 80, .newarray .int, .putfield 217, .aload 0, .iconst 80, .newarray .int, .putfield 218, .aload 0, .iconst 8, .newarray .int, .putfield 219, .aload 0, .iconst 0, .putfield 193, .return_]
def bk111 : Nat → List Instr := fun pc => match pc with
  | 0 => b111_0
  | _ => []
/-- 112: FieldsByDotsModel.in(JJJ)Z -/
def b112_0 : List Instr := [.lload 0, .lload 2, .lcmp, .ifCond .lt 17, .lload 0, .lload 4, .lcmp, .ifCond .gt 17, .iconst 1, .goto 18]
def b112_17 : List Instr := [.iconst 0, .jsr 18]
def b112_18 : List Instr := [.freturn]
def bk112 : Nat → List Instr := fun pc => match pc with
  | 0 => b112_0
  | 17 => b112_17
  | 18 => b112_18
  | _ => []
/-- 113: FieldsByDotsModel.write(IJ)I -/
def b113_0 : List Instr := [.iload 1, .i2l, .goto_w 1, .goto_w 8, .invokeinterface 112 3, .ifCond .ne 15, .iconst (-2), .ireturn]
def b113_15 : List Instr := [.aload 0, .getfield 193, .iload 1, .iadd, .iconst 24, .if_icmp .le 29, .iconst (-4), .ireturn]
def b113_29 : List Instr := [.iload 1, .iconst 1, .isub, .istore 4, .jsr 34]
def b113_34 : List Instr := [.iload 4, .ifCond .lt 76, .aload 0, .getfield 192, .aload 0, .getfield 193, .lload 2, .iconst 8, .iload 4, .imul, .lshr, .goto_w 255, .land, .l2i, .iastore, .aload 0, .dup, .getfield 193, .iconst 1, .iadd, .putfield 193, .iinc 4 (-1), .goto 34]
def b113_76 : List Instr := [.aload 0, .getfield 193, .ireturn]
def bk113 : Nat → List Instr := fun pc => match pc with
  | 0 => b113_0
  | 15 => b113_15
  | 29 => b113_29
  | 34 => b113_34
  | 76 => b113_76
  | _ => []
/-- 114: FieldsByDotsModel.wipe()I -/
def b114_0 : List Instr := [.aload 0, .getfield 193, .istore 1, .aload 0, .iconst 0, .putfield 193, .iload 1, .ireturn]
def bk114 : Nat → List Instr := fun pc => match pc with
  | 0 => b114_0
  | _ => []
/-- 115: FieldsByDotsModel.valueOf(I)I -/
def b115_0 : List Instr := [.iload 0, .i2l, .goto_w 48, .goto_w 57, .invokeinterface 112 3, .ifCond .eq 21, .iload 0, .iconst 48, .isub, .goto 43]
def b115_21 : List Instr := [.iload 0, .i2l, .goto_w 97, .goto_w 102, .invokeinterface 112 3, .ifCond .eq 42, .iload 0, .iconst 87, .isub, .goto 43]
def b115_42 : List Instr := [.iconst (-1), .jsr 43]
def b115_43 : List Instr := [.ireturn]
def bk115 : Nat → List Instr := fun pc => match pc with
  | 0 => b115_0
  | 21 => b115_21
  | 42 => b115_42
  | 43 => b115_43
  | _ => []
/-- 116: FieldsByDotsModel.isTold(II)Z -/
def b116_0 : List Instr := [.iconst 0, .istore 3, .iconst 0, .istore 4, .jsr 5]
def b116_5 : List Instr := [.iload 4, .aload 0, .getfield 196, .if_icmp .ge 52, .iload 3, .ifCond .ne 40, .aload 0, .getfield 194, .iload 4, .iaload, .iload 1, .if_icmp .ne 44, .aload 0, .getfield 195, .iload 4, .iaload, .iload 2, .if_icmp .ne 44, .jsr 40]
def b116_40 : List Instr := [.iconst 1, .goto 45]
def b116_44 : List Instr := [.iconst 0, .jsr 45]
def b116_45 : List Instr := [.istore 3, .iinc 4 1, .goto 5]
def b116_52 : List Instr := [.iload 3, .freturn]
def bk116 : Nat → List Instr := fun pc => match pc with
  | 0 => b116_0
  | 5 => b116_5
  | 40 => b116_40
  | 44 => b116_44
  | 45 => b116_45
  | 52 => b116_52
  | _ => []
/-- 117: FieldsByDotsModel.readText()I -/
def b117_0 : List Instr := [.aload 0, .iconst 0, .putfield 196, .iconst 0, .istore 1, .jsr 7]
def b117_7 : List Instr := [.iload 1, .aload 0, .getfield 193, .if_icmp .ge 119, .aload 0, .getfield 192, .iload 1, .iaload, .invokeinterface 115 1, .istore 2, .iload 2, .ifCond .lt 64, .aload 0, .getfield 196, .iconst 10, .if_icmp .eq 64, .iload 1, .iconst 2, .irem, .iconst 1, .if_icmp .ne 66, .aload 0, .aload 0, .getfield 192, .iload 1, .iconst 1, .isub, .iaload, .invokeinterface 115 1, .iload 2, .invokeinterface 116 3, .ifCond .eq 66, .jsr 64]
def b117_64 : List Instr := [.iload 1, .ireturn]
def b117_66 : List Instr := [.iload 1, .iconst 2, .irem, .iconst 1, .if_icmp .ne 113, .aload 0, .getfield 194, .aload 0, .getfield 196, .aload 0, .getfield 192, .iload 1, .iconst 1, .isub, .iaload, .invokeinterface 115 1, .iastore, .aload 0, .getfield 195, .aload 0, .getfield 196, .iload 2, .iastore, .aload 0, .dup, .getfield 196, .iconst 1, .iadd, .putfield 196, .jsr 113]
def b117_113 : List Instr := [.iinc 1 1, .goto 7]
def b117_119 : List Instr := [.aload 0, .getfield 193, .iconst 2, .irem, .iconst 1, .if_icmp .eq 137, .aload 0, .getfield 196, .iconst 3, .if_icmp .ge 144, .jsr 137]
def b117_137 : List Instr := [.aload 0, .getfield 193, .goto 146]
def b117_144 : List Instr := [.iconst (-9), .jsr 146]
def b117_146 : List Instr := [.ireturn]
def bk117 : Nat → List Instr := fun pc => match pc with
  | 0 => b117_0
  | 7 => b117_7
  | 64 => b117_64
  | 66 => b117_66
  | 113 => b117_113
  | 119 => b117_119
  | 137 => b117_137
  | 144 => b117_144
  | 146 => b117_146
  | _ => []
/-- 118: FieldsByDotsModel.fault()I -/
def b118_0 : List Instr := [.aload 0, .invokeinterface 117 1, .ireturn]
def bk118 : Nat → List Instr := fun pc => match pc with
  | 0 => b118_0
  | _ => []
/-- 119: FieldsByDotsModel.isField(I)Z -/
def b119_0 : List Instr := [.iload 0, .i2l, .goto_w 0, .goto_w 3, .invokeinterface 112 3, .freturn]
def bk119 : Nat → List Instr := fun pc => match pc with
  | 0 => b119_0
  | _ => []
/-- 120: FieldsByDotsModel.isCorner(II)Z -/
def b120_0 : List Instr := [.iload 1, .invokeinterface 119 1, .ifCond .eq 29, .iload 2, .i2l, .goto_w 0, .aload 0, .getfield 199, .iload 1, .iaload, .iconst 1, .isub, .i2l, .invokeinterface 112 3, .ifCond .eq 29, .iconst 1, .goto 30]
def b120_29 : List Instr := [.iconst 0, .jsr 30]
def b120_30 : List Instr := [.freturn]
def bk120 : Nat → List Instr := fun pc => match pc with
  | 0 => b120_0
  | 29 => b120_29
  | 30 => b120_30
  | _ => []
/-- 121: FieldsByDotsModel.isDot(II)Z -/
def b121_0 : List Instr := [.iload 0, .i2l, .goto_w 0, .goto_w 15, .invokeinterface 112 3, .ifCond .eq 28, .iload 1, .i2l, .goto_w 0, .goto_w 15, .invokeinterface 112 3, .ifCond .eq 28, .iconst 1, .goto 29]
def b121_28 : List Instr := [.iconst 0, .jsr 29]
def b121_29 : List Instr := [.freturn]
def bk121 : Nat → List Instr := fun pc => match pc with
  | 0 => b121_0
  | 28 => b121_28
  | 29 => b121_29
  | _ => []
/-- 122: FieldsByDotsModel.field(I)I -/
def b122_0 : List Instr := [.iload 1, .invokeinterface 119 1, .ifCond .ne 9, .iconst (-1), .ireturn]
def b122_9 : List Instr := [.aload 0, .invokeinterface 117 1, .iconst (-9), .if_icmp .eq 21, .iconst (-3), .ireturn]
def b122_21 : List Instr := [.aload 0, .getfield 199, .iload 1, .aload 0, .getfield 196, .iastore, .iconst 0, .istore 2, .jsr 33]
def b122_33 : List Instr := [.iload 2, .aload 0, .getfield 196, .if_icmp .ge 81, .aload 0, .getfield 197, .iconst 10, .iload 1, .imul, .iload 2, .iadd, .aload 0, .getfield 194, .iload 2, .iaload, .iastore, .aload 0, .getfield 198, .iconst 10, .iload 1, .imul, .iload 2, .iadd, .aload 0, .getfield 195, .iload 2, .iaload, .iastore, .iinc 2 1, .goto 33]
def b122_81 : List Instr := [.aload 0, .getfield 196, .ireturn]
def bk122 : Nat → List Instr := fun pc => match pc with
  | 0 => b122_0
  | 9 => b122_9
  | 21 => b122_21
  | 33 => b122_33
  | 81 => b122_81
  | _ => []
/-- 123: FieldsByDotsModel.corner(III)I -/
def b123_0 : List Instr := [.aload 0, .iload 1, .iload 2, .invokeinterface 120 3, .ifCond .ne 11, .iconst (-1), .ireturn]
def b123_11 : List Instr := [.iload 3, .ifCond .ne 29, .aload 0, .getfield 197, .iconst 10, .iload 1, .imul, .iload 2, .iadd, .iaload, .goto 50]
def b123_29 : List Instr := [.iload 3, .iconst 1, .if_icmp .ne 48, .aload 0, .getfield 198, .iconst 10, .iload 1, .imul, .iload 2, .iadd, .iaload, .goto 50]
def b123_48 : List Instr := [.iconst (-2), .jsr 50]
def b123_50 : List Instr := [.ireturn]
def bk123 : Nat → List Instr := fun pc => match pc with
  | 0 => b123_0
  | 11 => b123_11
  | 29 => b123_29
  | 48 => b123_48
  | 50 => b123_50
  | _ => []
/-- 124: FieldsByDotsModel.cornerAt(III)I -/
def b124_0 : List Instr := [.iconst 0, .istore 4, .jsr 3]
def b124_3 : List Instr := [.iload 4, .aload 0, .getfield 199, .iload 1, .iaload, .if_icmp .ge 55, .aload 0, .getfield 197, .iconst 10, .iload 1, .imul, .iload 4, .iadd, .iaload, .iload 2, .if_icmp .ne 49, .aload 0, .getfield 198, .iconst 10, .iload 1, .imul, .iload 4, .iadd, .iaload, .iload 3, .if_icmp .ne 49, .iload 4, .ireturn]
def b124_49 : List Instr := [.iinc 4 1, .goto 3]
def b124_55 : List Instr := [.iconst (-9), .ireturn]
def bk124 : Nat → List Instr := fun pc => match pc with
  | 0 => b124_0
  | 3 => b124_3
  | 49 => b124_49
  | 55 => b124_55
  | _ => []
/-- 125: FieldsByDotsModel.move(IIII)I -/
def b125_0 : List Instr := [.aload 0, .iload 1, .iload 2, .invokeinterface 120 3, .ifCond .ne 11, .iconst (-1), .ireturn]
def b125_11 : List Instr := [.iload 3, .iload 4, .invokeinterface 121 2, .ifCond .ne 23, .iconst (-2), .ireturn]
def b125_23 : List Instr := [.aload 0, .iload 1, .iload 3, .iload 4, .invokeinterface 124 4, .istore 5, .iload 5, .iconst (-9), .if_icmp .eq 49, .iload 5, .iload 2, .if_icmp .eq 49, .iconst (-3), .ireturn]
def b125_49 : List Instr := [.aload 0, .getfield 197, .iconst 10, .iload 1, .imul, .iload 2, .iadd, .iload 3, .iastore, .aload 0, .getfield 198, .iconst 10, .iload 1, .imul, .iload 2, .iadd, .iload 4, .iastore, .iload 5, .iload 2, .if_icmp .ne 84, .iconst 0, .goto 85]
def b125_84 : List Instr := [.iconst 1, .jsr 85]
def b125_85 : List Instr := [.ireturn]
def bk125 : Nat → List Instr := fun pc => match pc with
  | 0 => b125_0
  | 11 => b125_11
  | 23 => b125_23
  | 49 => b125_49
  | 84 => b125_84
  | 85 => b125_85
  | _ => []
/-- 126: FieldsByDotsModel.put(IIII)I -/
def b126_0 : List Instr := [.iload 1, .invokeinterface 119 1, .ifCond .eq 23, .iload 2, .i2l, .goto_w 0, .aload 0, .getfield 199, .iload 1, .iaload, .i2l, .invokeinterface 112 3, .ifCond .ne 25, .jsr 23]
def b126_23 : List Instr := [.iconst (-1), .ireturn]
def b126_25 : List Instr := [.iload 3, .iload 4, .invokeinterface 121 2, .ifCond .ne 37, .iconst (-2), .ireturn]
def b126_37 : List Instr := [.aload 0, .iload 1, .iload 3, .iload 4, .invokeinterface 124 4, .iconst (-9), .if_icmp .eq 53, .iconst (-3), .ireturn]
def b126_53 : List Instr := [.aload 0, .getfield 199, .iload 1, .iaload, .iconst 10, .if_icmp .ne 67, .iconst (-4), .ireturn]
def b126_67 : List Instr := [.aload 0, .getfield 199, .iload 1, .iaload, .istore 5, .jsr 75]
def b126_75 : List Instr := [.iload 5, .iload 2, .if_icmp .le 139, .aload 0, .getfield 197, .iconst 10, .iload 1, .imul, .iload 5, .iadd, .aload 0, .getfield 197, .iconst 10, .iload 1, .imul, .iload 5, .iadd, .iconst 1, .isub, .iaload, .iastore, .aload 0, .getfield 198, .iconst 10, .iload 1, .imul, .iload 5, .iadd, .aload 0, .getfield 198, .iconst 10, .iload 1, .imul, .iload 5, .iadd, .iconst 1, .isub, .iaload, .iastore, .iinc 5 (-1), .goto 75]
def b126_139 : List Instr := [.aload 0, .getfield 197, .iconst 10, .iload 1, .imul, .iload 2, .iadd, .iload 3, .iastore, .aload 0, .getfield 198, .iconst 10, .iload 1, .imul, .iload 2, .iadd, .iload 4, .iastore, .aload 0, .getfield 199, .iload 1, .dup2, .iaload, .iconst 1, .iadd, .iastore, .aload 0, .getfield 199, .iload 1, .iaload, .ireturn]
def bk126 : Nat → List Instr := fun pc => match pc with
  | 0 => b126_0
  | 23 => b126_23
  | 25 => b126_25
  | 37 => b126_37
  | 53 => b126_53
  | 67 => b126_67
  | 75 => b126_75
  | 139 => b126_139
  | _ => []
/-- 127: FieldsByDotsModel.take(II)I -/
def b127_0 : List Instr := [.aload 0, .iload 1, .iload 2, .invokeinterface 120 3, .ifCond .ne 11, .iconst (-1), .ireturn]
def b127_11 : List Instr := [.aload 0, .getfield 199, .iload 1, .iaload, .iconst 4, .if_icmp .ge 24, .iconst (-3), .ireturn]
def b127_24 : List Instr := [.aload 0, .getfield 199, .iload 1, .dup2, .iaload, .iconst 1, .isub, .iastore, .iload 2, .istore 3, .jsr 36]
def b127_36 : List Instr := [.iload 3, .aload 0, .getfield 199, .iload 1, .iaload, .if_icmp .ge 100, .aload 0, .getfield 197, .iconst 10, .iload 1, .imul, .iload 3, .iadd, .aload 0, .getfield 197, .iconst 10, .iload 1, .imul, .iload 3, .iadd, .iconst 1, .iadd, .iaload, .iastore, .aload 0, .getfield 198, .iconst 10, .iload 1, .imul, .iload 3, .iadd, .aload 0, .getfield 198, .iconst 10, .iload 1, .imul, .iload 3, .iadd, .iconst 1, .iadd, .iaload, .iastore, .iinc 3 1, .goto 36]
def b127_100 : List Instr := [.aload 0, .getfield 199, .iload 1, .iaload, .ireturn]
def bk127 : Nat → List Instr := fun pc => match pc with
  | 0 => b127_0
  | 11 => b127_11
  | 24 => b127_24
  | 36 => b127_36
  | 100 => b127_100
  | _ => []
/-- 128: FieldsByDotsModel.turn(II)I -/
def b128_0 : List Instr := [.iload 1, .invokeinterface 119 1, .ifCond .ne 9, .iconst (-1), .ireturn]
def b128_9 : List Instr := [.iload 2, .i2l, .goto_w 0, .goto_w 7, .invokeinterface 112 3, .ifCond .ne 24, .iconst (-2), .ireturn]
def b128_24 : List Instr := [.iconst 10, .iload 1, .imul, .istore 3, .jsr 29]
def b128_29 : List Instr := [.iload 3, .iconst 10, .iload 1, .imul, .aload 0, .getfield 199, .iload 1, .iaload, .iadd, .if_icmp .ge 127, .aload 0, .getfield 197, .iload 3, .iload 2, .iconst 3, .if_icmp .le 66, .iconst 15, .aload 0, .getfield 197, .iload 3, .iaload, .isub, .goto 72]
def b128_66 : List Instr := [.aload 0, .getfield 197, .iload 3, .iaload, .jsr 72]
def b128_72 : List Instr := [.iastore, .iconst 0, .istore 4, .jsr 76]
def b128_76 : List Instr := [.iload 4, .iload 2, .iconst 4, .irem, .if_icmp .ge 121, .aload 0, .getfield 197, .iload 3, .iaload, .istore 5, .aload 0, .getfield 197, .iload 3, .iconst 15, .aload 0, .getfield 198, .iload 3, .iaload, .isub, .iastore, .aload 0, .getfield 198, .iload 3, .iload 5, .iastore, .iinc 4 1, .goto 76]
def b128_121 : List Instr := [.iinc 3 1, .goto 29]
def b128_127 : List Instr := [.aload 0, .getfield 199, .iload 1, .iaload, .ireturn]
def bk128 : Nat → List Instr := fun pc => match pc with
  | 0 => b128_0
  | 9 => b128_9
  | 24 => b128_24
  | 29 => b128_29
  | 66 => b128_66
  | 72 => b128_72
  | 76 => b128_76
  | 121 => b128_121
  | 127 => b128_127
  | _ => []
/-- 129: FieldsByDotsModel.shift(III)I -/
def b129_0 : List Instr := [.iload 1, .invokeinterface 119 1, .ifCond .ne 9, .iconst (-1), .ireturn]
def b129_9 : List Instr := [.iload 2, .i2l, .goto_w (-15), .goto_w 15, .invokeinterface 112 3, .ifCond .eq 37, .iload 3, .i2l, .goto_w (-15), .goto_w 15, .invokeinterface 112 3, .ifCond .ne 40, .jsr 37]
def b129_37 : List Instr := [.iconst (-2), .ireturn]
def b129_40 : List Instr := [.iconst 10, .iload 1, .imul, .istore 4, .jsr 46]
def b129_46 : List Instr := [.iload 4, .iconst 10, .iload 1, .imul, .aload 0, .getfield 199, .iload 1, .iaload, .iadd, .if_icmp .ge 95, .aload 0, .getfield 197, .iload 4, .iaload, .iload 2, .iadd, .aload 0, .getfield 198, .iload 4, .iaload, .iload 3, .iadd, .invokeinterface 121 2, .ifCond .ne 89, .iconst (-3), .ireturn]
def b129_89 : List Instr := [.iinc 4 1, .goto 46]
def b129_95 : List Instr := [.iconst 10, .iload 1, .imul, .istore 4, .jsr 101]
def b129_101 : List Instr := [.iload 4, .iconst 10, .iload 1, .imul, .aload 0, .getfield 199, .iload 1, .iaload, .iadd, .if_icmp .ge 145, .aload 0, .getfield 197, .iload 4, .dup2, .iaload, .iload 2, .iadd, .iastore, .aload 0, .getfield 198, .iload 4, .dup2, .iaload, .iload 3, .iadd, .iastore, .iinc 4 1, .goto 101]
def b129_145 : List Instr := [.aload 0, .getfield 199, .iload 1, .iaload, .ireturn]
def bk129 : Nat → List Instr := fun pc => match pc with
  | 0 => b129_0
  | 9 => b129_9
  | 37 => b129_37
  | 40 => b129_40
  | 46 => b129_46
  | 89 => b129_89
  | 95 => b129_95
  | 101 => b129_101
  | 145 => b129_145
  | _ => []
/-- 130: FieldsByDotsModel.place(II)I -/
def b130_0 : List Instr := [.iconst 10, .iload 1, .imul, .iload 2, .aload 0, .getfield 199, .iload 1, .iaload, .irem, .aload 0, .getfield 199, .iload 1, .iaload, .iadd, .aload 0, .getfield 199, .iload 1, .iaload, .irem, .iadd, .ireturn]
def bk130 : Nat → List Instr := fun pc => match pc with
  | 0 => b130_0
  | _ => []
/-- 131: FieldsByDotsModel.side(III)I -/
def b131_0 : List Instr := [.aload 0, .getfield 197, .iload 2, .iaload, .aload 0, .getfield 197, .iload 1, .iaload, .isub, .aload 0, .getfield 198, .iload 3, .iaload, .aload 0, .getfield 198, .iload 1, .iaload, .isub, .imul, .aload 0, .getfield 198, .iload 2, .iaload, .aload 0, .getfield 198, .iload 1, .iaload, .isub, .aload 0, .getfield 197, .iload 3, .iaload, .aload 0, .getfield 197, .iload 1, .iaload, .isub, .imul, .isub, .ireturn]
def bk131 : Nat → List Instr := fun pc => match pc with
  | 0 => b131_0
  | _ => []
/-- 132: FieldsByDotsModel.isBetween(III)Z -/
def b132_0 : List Instr := [.aload 0, .getfield 197, .iload 3, .iaload, .aload 0, .getfield 197, .iload 1, .iaload, .isub, .aload 0, .getfield 197, .iload 3, .iaload, .aload 0, .getfield 197, .iload 2, .iaload, .isub, .imul, .ifCond .gt 64, .aload 0, .getfield 198, .iload 3, .iaload, .aload 0, .getfield 198, .iload 1, .iaload, .isub, .aload 0, .getfield 198, .iload 3, .iaload, .aload 0, .getfield 198, .iload 2, .iaload, .isub, .imul, .ifCond .gt 64, .iconst 1, .goto 65]
def b132_64 : List Instr := [.iconst 0, .jsr 65]
def b132_65 : List Instr := [.freturn]
def bk132 : Nat → List Instr := fun pc => match pc with
  | 0 => b132_0
  | 64 => b132_64
  | 65 => b132_65
  | _ => []
/-- 133: FieldsByDotsModel.meet(IIII)Z -/
def b133_0 : List Instr := [.aload 0, .iload 1, .iload 2, .iload 3, .invokeinterface 131 4, .invokeinterface 134 1, .istore 5, .aload 0, .iload 1, .iload 2, .iload 4, .invokeinterface 131 4, .invokeinterface 134 1, .istore 6, .aload 0, .iload 3, .iload 4, .iload 1, .invokeinterface 131 4, .invokeinterface 134 1, .istore 7, .aload 0, .iload 3, .iload 4, .iload 2, .invokeinterface 131 4, .invokeinterface 134 1, .istore 8, .iload 5, .ifCond .ne 66, .aload 0, .iload 1, .iload 2, .iload 3, .invokeinterface 132 4, .ifCond .ne 114, .jsr 66]
def b133_66 : List Instr := [.iload 6, .ifCond .ne 82, .aload 0, .iload 1, .iload 2, .iload 4, .invokeinterface 132 4, .ifCond .ne 114, .jsr 82]
def b133_82 : List Instr := [.iload 7, .ifCond .ne 98, .aload 0, .iload 3, .iload 4, .iload 1, .invokeinterface 132 4, .ifCond .ne 114, .jsr 98]
def b133_98 : List Instr := [.iload 8, .ifCond .ne 118, .aload 0, .iload 3, .iload 4, .iload 2, .invokeinterface 132 4, .ifCond .eq 118, .jsr 114]
def b133_114 : List Instr := [.iconst 1, .goto 119]
def b133_118 : List Instr := [.iconst 0, .jsr 119]
def b133_119 : List Instr := [.istore 9, .iload 9, .ifCond .ne 142, .iload 5, .iload 6, .imul, .ifCond .ge 146, .iload 7, .iload 8, .imul, .ifCond .ge 146, .jsr 142]
def b133_142 : List Instr := [.iconst 1, .goto 147]
def b133_146 : List Instr := [.iconst 0, .jsr 147]
def b133_147 : List Instr := [.freturn]
def bk133 : Nat → List Instr := fun pc => match pc with
  | 0 => b133_0
  | 66 => b133_66
  | 82 => b133_82
  | 98 => b133_98
  | 114 => b133_114
  | 118 => b133_118
  | 119 => b133_119
  | 142 => b133_142
  | 146 => b133_146
  | 147 => b133_147
  | _ => []
/-- 134: FieldsByDotsModel.sign(I)I -/
def b134_0 : List Instr := [.iload 0, .ifCond .ge 8, .iconst (-1), .goto 17]
def b134_8 : List Instr := [.iload 0, .ifCond .le 16, .iconst 1, .goto 17]
def b134_16 : List Instr := [.iconst 0, .jsr 17]
def b134_17 : List Instr := [.ireturn]
def bk134 : Nat → List Instr := fun pc => match pc with
  | 0 => b134_0
  | 8 => b134_8
  | 16 => b134_16
  | 17 => b134_17
  | _ => []
/-- 135: FieldsByDotsModel.isSound(I)Z -/
def b135_0 : List Instr := [.aload 0, .getfield 199, .iload 1, .iaload, .istore 2, .iload 2, .iconst 2, .if_icmp .le 16, .iconst 1, .goto 17]
def b135_16 : List Instr := [.iconst 0, .jsr 17]
def b135_17 : List Instr := [.istore 3, .iconst 0, .istore 4, .jsr 21]
def b135_21 : List Instr := [.iload 4, .iload 2, .if_icmp .ge 231, .iload 3, .ifCond .eq 231, .aload 0, .iload 1, .iload 4, .invokeinterface 130 3, .istore 5, .aload 0, .iload 1, .iload 4, .iconst 1, .iadd, .invokeinterface 130 3, .istore 6, .aload 0, .iload 1, .iload 4, .iconst 2, .iadd, .invokeinterface 130 3, .istore 7, .aload 0, .iload 5, .iload 6, .iload 7, .invokeinterface 131 4, .ifCond .ne 145, .aload 0, .getfield 197, .iload 5, .iaload, .aload 0, .getfield 197, .iload 6, .iaload, .isub, .aload 0, .getfield 197, .iload 7, .iaload, .aload 0, .getfield 197, .iload 6, .iaload, .isub, .imul, .aload 0, .getfield 198, .iload 5, .iaload, .aload 0, .getfield 198, .iload 6, .iaload, .isub, .aload 0, .getfield 198, .iload 7, .iaload, .aload 0, .getfield 198, .iload 6, .iaload, .isub, .imul, .iadd, .ifCond .le 145, .iconst 1, .goto 146]
def b135_145 : List Instr := [.iconst 0, .jsr 146]
def b135_146 : List Instr := [.istore 8, .iload 8, .ifCond .ne 157, .iconst 1, .goto 158]
def b135_157 : List Instr := [.iconst 0, .jsr 158]
def b135_158 : List Instr := [.istore 3, .iload 4, .iconst 2, .iadd, .istore 9, .jsr 165]
def b135_165 : List Instr := [.iload 9, .iload 2, .if_icmp .ge 225, .iload 3, .ifCond .eq 225, .iload 9, .iconst 1, .iadd, .iload 2, .irem, .iload 4, .if_icmp .eq 213, .aload 0, .iload 5, .iload 6, .aload 0, .iload 1, .iload 9, .invokeinterface 130 3, .aload 0, .iload 1, .iload 9, .iconst 1, .iadd, .invokeinterface 130 3, .invokeinterface 133 5, .ifCond .ne 217, .jsr 213]
def b135_213 : List Instr := [.iconst 1, .goto 218]
def b135_217 : List Instr := [.iconst 0, .jsr 218]
def b135_218 : List Instr := [.istore 3, .iinc 9 1, .goto 165]
def b135_225 : List Instr := [.iinc 4 1, .goto 21]
def b135_231 : List Instr := [.iload 3, .freturn]
def bk135 : Nat → List Instr := fun pc => match pc with
  | 0 => b135_0
  | 16 => b135_16
  | 17 => b135_17
  | 21 => b135_21
  | 145 => b135_145
  | 146 => b135_146
  | 157 => b135_157
  | 158 => b135_158
  | 165 => b135_165
  | 213 => b135_213
  | 217 => b135_217
  | 218 => b135_218
  | 225 => b135_225
  | 231 => b135_231
  | _ => []
/-- 136: FieldsByDotsModel.sound(I)I -/
def b136_0 : List Instr := [.iload 1, .invokeinterface 119 1, .ifCond .ne 9, .iconst (-1), .ireturn]
def b136_9 : List Instr := [.aload 0, .iload 1, .invokeinterface 135 2, .ifCond .eq 21, .iconst 1, .goto 22]
def b136_21 : List Instr := [.iconst 0, .jsr 22]
def b136_22 : List Instr := [.ireturn]
def bk136 : Nat → List Instr := fun pc => match pc with
  | 0 => b136_0
  | 9 => b136_9
  | 21 => b136_21
  | 22 => b136_22
  | _ => []
/-- 137: FieldsByDotsModel.areaOf(III)I -/
def b137_0 : List Instr := [.iconst 0, .istore 4, .iload 2, .iconst 1, .iadd, .istore 5, .jsr 8]
def b137_8 : List Instr := [.iload 5, .iload 3, .if_icmp .ge 51, .iload 4, .aload 0, .aload 0, .iload 1, .iload 2, .invokeinterface 130 3, .aload 0, .iload 1, .iload 5, .invokeinterface 130 3, .aload 0, .iload 1, .iload 5, .iconst 1, .iadd, .invokeinterface 130 3, .invokeinterface 131 4, .iadd, .istore 4, .iinc 5 1, .goto 8]
def b137_51 : List Instr := [.iload 4, .ireturn]
def bk137 : Nat → List Instr := fun pc => match pc with
  | 0 => b137_0
  | 8 => b137_8
  | 51 => b137_51
  | _ => []
/-- 138: FieldsByDotsModel.area(I)I -/
def b138_0 : List Instr := [.aload 0, .iload 1, .iconst 0, .aload 0, .getfield 199, .iload 1, .iaload, .iconst 1, .isub, .invokeinterface 137 4, .ireturn]
def bk138 : Nat → List Instr := fun pc => match pc with
  | 0 => b138_0
  | _ => []
/-- 139: FieldsByDotsModel.without(I)I -/
def b139_0 : List Instr := [.iload 0, .ifCond .ge 9, .iload 0, .ineg, .goto 10]
def b139_9 : List Instr := [.iload 0, .jsr 10]
def b139_10 : List Instr := [.ireturn]
def bk139 : Nat → List Instr := fun pc => match pc with
  | 0 => b139_0
  | 9 => b139_9
  | 10 => b139_10
  | _ => []
/-- 140: FieldsByDotsModel.divisor(II)I -/
def b140_0 : List Instr := [.iload 0, .invokeinterface 139 1, .istore 2, .iload 1, .invokeinterface 139 1, .istore 3, .jsr 10]
def b140_10 : List Instr := [.iload 3, .ifCond .eq 27, .iload 2, .iload 3, .irem, .istore 4, .iload 3, .istore 2, .iload 4, .istore 3, .goto 10]
def b140_27 : List Instr := [.iload 2, .ireturn]
def bk140 : Nat → List Instr := fun pc => match pc with
  | 0 => b140_0
  | 10 => b140_10
  | 27 => b140_27
  | _ => []
/-- 141: FieldsByDotsModel.fenceDots(I)I -/
def b141_0 : List Instr := [.iconst 0, .istore 2, .iconst 0, .istore 3, .jsr 4]
def b141_4 : List Instr := [.iload 3, .aload 0, .getfield 199, .iload 1, .iaload, .if_icmp .ge 74, .aload 0, .iload 1, .iload 3, .invokeinterface 130 3, .istore 4, .aload 0, .iload 1, .iload 3, .iconst 1, .iadd, .invokeinterface 130 3, .istore 5, .iload 2, .aload 0, .getfield 197, .iload 5, .iaload, .aload 0, .getfield 197, .iload 4, .iaload, .isub, .aload 0, .getfield 198, .iload 5, .iaload, .aload 0, .getfield 198, .iload 4, .iaload, .isub, .invokeinterface 140 2, .iadd, .istore 2, .iinc 3 1, .goto 4]
def b141_74 : List Instr := [.iload 2, .ireturn]
def bk141 : Nat → List Instr := fun pc => match pc with
  | 0 => b141_0
  | 4 => b141_4
  | 74 => b141_74
  | _ => []
/-- 142: FieldsByDotsModel.howOf(II)I -/
def b142_0 : List Instr := [.aload 0, .aload 0, .iload 1, .iload 2, .iconst 1, .isub, .invokeinterface 130 3, .aload 0, .iload 1, .iload 2, .invokeinterface 130 3, .aload 0, .iload 1, .iload 2, .iconst 1, .iadd, .invokeinterface 130 3, .invokeinterface 131 4, .istore 3, .aload 0, .iload 1, .invokeinterface 138 2, .ifCond .ge 40, .iload 3, .ineg, .goto 41]
def b142_40 : List Instr := [.iload 3, .jsr 41]
def b142_41 : List Instr := [.istore 3, .iload 3, .ifCond .le 50, .iconst 0, .goto 59]
def b142_50 : List Instr := [.iload 3, .ifCond .ne 58, .iconst 1, .goto 59]
def b142_58 : List Instr := [.iconst 2, .jsr 59]
def b142_59 : List Instr := [.ireturn]
def bk142 : Nat → List Instr := fun pc => match pc with
  | 0 => b142_0
  | 40 => b142_40
  | 41 => b142_41
  | 50 => b142_50
  | 58 => b142_58
  | 59 => b142_59
  | _ => []
/-- 143: FieldsByDotsModel.whereOf(IJJJ)I -/
def b143_0 : List Instr := [.iconst 0, .istore 8, .iconst 0, .istore 9, .jsr 6]
def b143_6 : List Instr := [.iload 9, .aload 0, .getfield 199, .iload 1, .iaload, .if_icmp .ge 241, .aload 0, .iload 1, .iload 9, .invokeinterface 130 3, .istore 10, .aload 0, .iload 1, .iload 9, .iconst 1, .iadd, .invokeinterface 130 3, .istore 11, .aload 0, .getfield 197, .iload 10, .iaload, .i2l, .lload 6, .lmul, .lstore 12, .aload 0, .getfield 198, .iload 10, .iaload, .i2l, .lload 6, .lmul, .lstore 14, .aload 0, .getfield 197, .iload 11, .iaload, .i2l, .lload 6, .lmul, .lstore 16, .aload 0, .getfield 198, .iload 11, .iaload, .i2l, .lload 6, .lmul, .lstore 18, .lload 16, .lload 12, .lsub, .lload 4, .lload 14, .lsub, .lmul, .lload 18, .lload 14, .lsub, .lload 2, .lload 12, .lsub, .lmul, .lsub, .lstore 20, .lload 20, .goto_w 0, .lcmp, .ifCond .ne 152, .lload 2, .lload 12, .lsub, .lload 2, .lload 16, .lsub, .lmul, .goto_w 0, .lcmp, .ifCond .gt 152, .lload 4, .lload 14, .lsub, .lload 4, .lload 18, .lsub, .lmul, .goto_w 0, .lcmp, .ifCond .gt 152, .iconst 0, .ireturn]
def b143_152 : List Instr := [.lload 14, .lload 4, .lcmp, .ifCond .gt 164, .iconst 1, .goto 165]
def b143_164 : List Instr := [.iconst 0, .jsr 165]
def b143_165 : List Instr := [.lload 18, .lload 4, .lcmp, .ifCond .gt 177, .iconst 1, .goto 178]
def b143_177 : List Instr := [.iconst 0, .jsr 178]
def b143_178 : List Instr := [.if_icmp .eq 185, .iconst 1, .goto 186]
def b143_185 : List Instr := [.iconst 0, .jsr 186]
def b143_186 : List Instr := [.istore 22, .iload 22, .ifCond .eq 231, .lload 18, .lload 14, .lcmp, .ifCond .le 211, .lload 20, .goto_w 0, .lcmp, .ifCond .le 231, .goto 218]
def b143_211 : List Instr := [.lload 20, .goto_w 0, .lcmp, .ifCond .ge 231, .jsr 218]
def b143_218 : List Instr := [.iload 8, .ifCond .ne 227, .iconst 1, .goto 233]
def b143_227 : List Instr := [.iconst 0, .goto 233]
def b143_231 : List Instr := [.iload 8, .jsr 233]
def b143_233 : List Instr := [.istore 8, .iinc 9 1, .goto 6]
def b143_241 : List Instr := [.iload 8, .ifCond .eq 250, .iconst 1, .goto 251]
def b143_250 : List Instr := [.iconst 2, .jsr 251]
def b143_251 : List Instr := [.ireturn]
def bk143 : Nat → List Instr := fun pc => match pc with
  | 0 => b143_0
  | 6 => b143_6
  | 152 => b143_152
  | 164 => b143_164
  | 165 => b143_165
  | 177 => b143_177
  | 178 => b143_178
  | 185 => b143_185
  | 186 => b143_186
  | 211 => b143_211
  | 218 => b143_218
  | 227 => b143_227
  | 231 => b143_231
  | 233 => b143_233
  | 241 => b143_241
  | 250 => b143_250
  | 251 => b143_251
  | _ => []
/-- 144: FieldsByDotsModel.where(III)I -/
def b144_0 : List Instr := [.iload 1, .invokeinterface 119 1, .ifCond .ne 9, .iconst (-1), .ireturn]
def b144_9 : List Instr := [.iload 2, .iload 3, .invokeinterface 121 2, .ifCond .ne 20, .iconst (-2), .ireturn]
def b144_20 : List Instr := [.aload 0, .iload 1, .invokeinterface 135 2, .ifCond .eq 41, .aload 0, .iload 1, .iload 2, .i2l, .iload 3, .i2l, .goto_w 1, .invokeinterface 143 5, .goto 43]
def b144_41 : List Instr := [.iconst (-3), .jsr 43]
def b144_43 : List Instr := [.ireturn]
def bk144 : Nat → List Instr := fun pc => match pc with
  | 0 => b144_0
  | 9 => b144_9
  | 20 => b144_20
  | 41 => b144_41
  | 43 => b144_43
  | _ => []
/-- 145: FieldsByDotsModel.how(II)I -/
def b145_0 : List Instr := [.aload 0, .iload 1, .iload 2, .invokeinterface 120 3, .ifCond .ne 11, .iconst (-1), .ireturn]
def b145_11 : List Instr := [.aload 0, .iload 1, .invokeinterface 135 2, .ifCond .eq 28, .aload 0, .iload 1, .iload 2, .invokeinterface 142 3, .goto 30]
def b145_28 : List Instr := [.iconst (-3), .jsr 30]
def b145_30 : List Instr := [.ireturn]
def bk145 : Nat → List Instr := fun pc => match pc with
  | 0 => b145_0
  | 11 => b145_11
  | 28 => b145_28
  | 30 => b145_30
  | _ => []
/-- 146: FieldsByDotsModel.widthOf(III)I -/
def b146_0 : List Instr := [.iconst 0, .istore 4, .iconst 0, .istore 5, .iconst 0, .istore 6, .jsr 9]
def b146_9 : List Instr := [.iload 6, .aload 0, .getfield 199, .iload 1, .iaload, .if_icmp .ge 99, .iload 2, .aload 0, .getfield 197, .iconst 10, .iload 1, .imul, .iload 6, .iadd, .iaload, .imul, .iload 3, .aload 0, .getfield 198, .iconst 10, .iload 1, .imul, .iload 6, .iadd, .iaload, .imul, .iadd, .istore 7, .iload 6, .ifCond .eq 63, .iload 7, .iload 4, .if_icmp .le 68, .jsr 63]
def b146_63 : List Instr := [.iload 7, .goto 70]
def b146_68 : List Instr := [.iload 4, .jsr 70]
def b146_70 : List Instr := [.istore 4, .iload 6, .ifCond .eq 84, .iload 7, .iload 5, .if_icmp .ge 89, .jsr 84]
def b146_84 : List Instr := [.iload 7, .goto 91]
def b146_89 : List Instr := [.iload 5, .jsr 91]
def b146_91 : List Instr := [.istore 5, .iinc 6 1, .goto 9]
def b146_99 : List Instr := [.iload 4, .iload 5, .isub, .ireturn]
def bk146 : Nat → List Instr := fun pc => match pc with
  | 0 => b146_0
  | 9 => b146_9
  | 63 => b146_63
  | 68 => b146_68
  | 70 => b146_70
  | 84 => b146_84
  | 89 => b146_89
  | 91 => b146_91
  | 99 => b146_99
  | _ => []
/-- 147: FieldsByDotsModel.wide(III)I -/
def b147_0 : List Instr := [.iload 1, .invokeinterface 119 1, .ifCond .ne 9, .iconst (-1), .ireturn]
def b147_9 : List Instr := [.iload 2, .i2l, .goto_w (-9), .goto_w 9, .invokeinterface 112 3, .ifCond .eq 45, .iload 3, .i2l, .goto_w (-9), .goto_w 9, .invokeinterface 112 3, .ifCond .eq 45, .iload 2, .ifCond .ne 48, .iload 3, .ifCond .ne 48, .jsr 45]
def b147_45 : List Instr := [.iconst (-2), .ireturn]
def b147_48 : List Instr := [.aload 0, .getfield 199, .iload 1, .iaload, .ifCond .ne 62, .iconst (-3), .goto 69]
def b147_62 : List Instr := [.aload 0, .iload 1, .iload 2, .iload 3, .invokeinterface 146 4, .jsr 69]
def b147_69 : List Instr := [.ireturn]
def bk147 : Nat → List Instr := fun pc => match pc with
  | 0 => b147_0
  | 9 => b147_9
  | 45 => b147_45
  | 48 => b147_48
  | 62 => b147_62
  | 69 => b147_69
  | _ => []
/-- 148: FieldsByDotsModel.narrow(II)I -/
def b148_0 : List Instr := [.iload 1, .invokeinterface 119 1, .ifCond .ne 9, .iconst (-1), .ireturn]
def b148_9 : List Instr := [.iload 2, .i2l, .goto_w 0, .goto_w 2, .invokeinterface 112 3, .ifCond .ne 24, .iconst (-2), .ireturn]
def b148_24 : List Instr := [.aload 0, .getfield 199, .iload 1, .iaload, .ifCond .ne 36, .iconst (-3), .ireturn]
def b148_36 : List Instr := [.iconst 1000000, .istore 3, .iconst 0, .istore 4, .iconst 0, .istore 5, .iconst 0, .istore 6, .jsr 48]
def b148_48 : List Instr := [.iload 6, .iconst 10, .if_icmp .ge 120, .iconst (-9), .istore 7, .jsr 59]
def b148_59 : List Instr := [.iload 7, .iconst 10, .if_icmp .ge 114, .iload 6, .iload 7, .invokeinterface 140 2, .iconst 1, .if_icmp .ne 108, .aload 0, .iload 1, .iload 6, .iload 7, .invokeinterface 146 4, .iload 3, .if_icmp .ge 108, .aload 0, .iload 1, .iload 6, .iload 7, .invokeinterface 146 4, .istore 3, .iload 6, .istore 4, .iload 7, .istore 5, .jsr 108]
def b148_108 : List Instr := [.iinc 7 1, .goto 59]
def b148_114 : List Instr := [.iinc 6 1, .goto 48]
def b148_120 : List Instr := [.iload 2, .ifCond .ne 128, .iload 3, .goto 143]
def b148_128 : List Instr := [.iload 2, .iconst 1, .if_icmp .ne 138, .iload 4, .goto 143]
def b148_138 : List Instr := [.iload 5, .iconst 100, .iadd, .jsr 143]
def b148_143 : List Instr := [.ireturn]
def bk148 : Nat → List Instr := fun pc => match pc with
  | 0 => b148_0
  | 9 => b148_9
  | 24 => b148_24
  | 36 => b148_36
  | 48 => b148_48
  | 59 => b148_59
  | 108 => b148_108
  | 114 => b148_114
  | 120 => b148_120
  | 128 => b148_128
  | 138 => b148_138
  | 143 => b148_143
  | _ => []
/-- 149: FieldsByDotsModel.grown(II)J -/
def b149_0 : List Instr := [.iload 1, .invokeinterface 119 1, .ifCond .ne 11, .goto_w (-1), .lreturn]
def b149_11 : List Instr := [.iload 2, .i2l, .goto_w 1, .goto_w 99, .invokeinterface 112 3, .ifCond .ne 27, .goto_w (-2), .lreturn]
def b149_27 : List Instr := [.aload 0, .iload 1, .invokeinterface 135 2, .ifCond .eq 71, .aload 0, .iload 1, .invokeinterface 138 2, .invokeinterface 139 1, .i2l, .iload 2, .i2l, .lmul, .iload 2, .i2l, .lmul, .aload 0, .iload 1, .invokeinterface 141 2, .i2l, .iload 2, .i2l, .lmul, .ladd, .goto_w 2, .ladd, .goto_w 2, .ldiv, .goto 74]
def b149_71 : List Instr := [.goto_w (-3), .jsr 74]
def b149_74 : List Instr := [.lreturn]
def bk149 : Nat → List Instr := fun pc => match pc with
  | 0 => b149_0
  | 11 => b149_11
  | 27 => b149_27
  | 71 => b149_71
  | 74 => b149_74
  | _ => []
/-- 150: FieldsByDotsModel.hull(II)I -/
def b150_0 : List Instr := [.iload 1, .invokeinterface 119 1, .ifCond .eq 14, .iload 2, .invokeinterface 119 1, .ifCond .ne 16, .jsr 14]
def b150_14 : List Instr := [.iconst (-1), .ireturn]
def b150_16 : List Instr := [.iconst 10, .iload 2, .imul, .istore 3, .iconst 1, .istore 4, .iconst 10, .iload 2, .imul, .istore 5, .jsr 30]
def b150_30 : List Instr := [.iload 5, .iconst 10, .iload 2, .imul, .aload 0, .getfield 199, .iload 2, .iaload, .iadd, .if_icmp .ge 148, .aload 0, .getfield 197, .iload 5, .iaload, .aload 0, .getfield 197, .iload 3, .iaload, .if_icmp .lt 94, .aload 0, .getfield 197, .iload 5, .iaload, .aload 0, .getfield 197, .iload 3, .iaload, .if_icmp .ne 99, .aload 0, .getfield 198, .iload 5, .iaload, .aload 0, .getfield 198, .iload 3, .iaload, .if_icmp .ge 99, .jsr 94]
def b150_94 : List Instr := [.iload 5, .goto 100]
def b150_99 : List Instr := [.iload 3, .jsr 100]
def b150_100 : List Instr := [.istore 3, .iload 4, .ifCond .eq 139, .aload 0, .getfield 199, .iload 2, .iaload, .iconst 2, .if_icmp .lt 135, .aload 0, .iconst 10, .iload 2, .imul, .iconst 10, .iload 2, .imul, .iconst 1, .iadd, .iload 5, .invokeinterface 131 4, .ifCond .ne 139, .jsr 135]
def b150_135 : List Instr := [.iconst 1, .goto 140]
def b150_139 : List Instr := [.iconst 0, .jsr 140]
def b150_140 : List Instr := [.istore 4, .iinc 5 1, .goto 30]
def b150_148 : List Instr := [.iload 4, .ifCond .eq 156, .iconst (-3), .ireturn]
def b150_156 : List Instr := [.iconst 0, .istore 5, .iload 3, .istore 6, .iconst 1, .istore 7, .jsr 165]
def b150_165 : List Instr := [.iload 7, .ifCond .eq 226, .aload 0, .getfield 200, .iload 5, .aload 0, .getfield 197, .iload 6, .iaload, .iastore, .aload 0, .getfield 201, .iload 5, .aload 0, .getfield 198, .iload 6, .iaload, .iastore, .iinc 5 1, .aload 0, .iload 2, .iload 6, .invokeinterface 151 3, .istore 6, .iload 6, .iload 3, .if_icmp .eq 220, .iconst 1, .goto 221]
def b150_220 : List Instr := [.iconst 0, .jsr 221]
def b150_221 : List Instr := [.istore 7, .goto 165]
def b150_226 : List Instr := [.aload 0, .getfield 199, .iload 1, .iload 5, .iastore, .iconst 0, .istore 8, .jsr 237]
def b150_237 : List Instr := [.iload 8, .iload 5, .if_icmp .ge 288, .aload 0, .getfield 197, .iconst 10, .iload 1, .imul, .iload 8, .iadd, .aload 0, .getfield 200, .iload 8, .iaload, .iastore, .aload 0, .getfield 198, .iconst 10, .iload 1, .imul, .iload 8, .iadd, .aload 0, .getfield 201, .iload 8, .iaload, .iastore, .iinc 8 1, .goto 237]
def b150_288 : List Instr := [.iload 5, .ireturn]
def bk150 : Nat → List Instr := fun pc => match pc with
  | 0 => b150_0
  | 14 => b150_14
  | 16 => b150_16
  | 30 => b150_30
  | 94 => b150_94
  | 99 => b150_99
  | 100 => b150_100
  | 135 => b150_135
  | 139 => b150_139
  | 140 => b150_140
  | 148 => b150_148
  | 156 => b150_156
  | 165 => b150_165
  | 220 => b150_220
  | 221 => b150_221
  | 226 => b150_226
  | 237 => b150_237
  | 288 => b150_288
  | _ => []
/-- 151: FieldsByDotsModel.nextHull(II)I -/
def b151_0 : List Instr := [.iload 2, .iconst 10, .iload 1, .imul, .if_icmp .ne 17, .iconst 10, .iload 1, .imul, .iconst 1, .iadd, .goto 21]
def b151_17 : List Instr := [.iconst 10, .iload 1, .imul, .jsr 21]
def b151_21 : List Instr := [.istore 3, .iconst 10, .iload 1, .imul, .istore 4, .jsr 28]
def b151_28 : List Instr := [.iload 4, .iconst 10, .iload 1, .imul, .aload 0, .getfield 199, .iload 1, .iaload, .iadd, .if_icmp .ge 115, .iload 4, .iload 2, .if_icmp .ne 54, .iconst 1, .goto 62]
def b151_54 : List Instr := [.aload 0, .iload 2, .iload 3, .iload 4, .invokeinterface 131 4, .jsr 62]
def b151_62 : List Instr := [.istore 5, .iload 5, .ifCond .ne 89, .aload 0, .iload 2, .iload 4, .invokeinterface 152 3, .aload 0, .iload 2, .iload 3, .invokeinterface 152 3, .if_icmp .le 89, .iconst 1, .goto 90]
def b151_89 : List Instr := [.iconst 0, .jsr 90]
def b151_90 : List Instr := [.istore 6, .iload 5, .ifCond .lt 102, .iload 6, .ifCond .eq 107, .jsr 102]
def b151_102 : List Instr := [.iload 4, .goto 108]
def b151_107 : List Instr := [.iload 3, .jsr 108]
def b151_108 : List Instr := [.istore 3, .iinc 4 1, .goto 28]
def b151_115 : List Instr := [.iload 3, .ireturn]
def bk151 : Nat → List Instr := fun pc => match pc with
  | 0 => b151_0
  | 17 => b151_17
  | 21 => b151_21
  | 28 => b151_28
  | 54 => b151_54
  | 62 => b151_62
  | 89 => b151_89
  | 90 => b151_90
  | 102 => b151_102
  | 107 => b151_107
  | 108 => b151_108
  | 115 => b151_115
  | _ => []
/-- 152: FieldsByDotsModel.long2(II)I -/
def b152_0 : List Instr := [.aload 0, .getfield 197, .iload 1, .iaload, .aload 0, .getfield 197, .iload 2, .iaload, .isub, .aload 0, .getfield 197, .iload 1, .iaload, .aload 0, .getfield 197, .iload 2, .iaload, .isub, .imul, .aload 0, .getfield 198, .iload 1, .iaload, .aload 0, .getfield 198, .iload 2, .iaload, .isub, .aload 0, .getfield 198, .iload 1, .iaload, .aload 0, .getfield 198, .iload 2, .iaload, .isub, .imul, .iadd, .ireturn]
def bk152 : Nat → List Instr := fun pc => match pc with
  | 0 => b152_0
  | _ => []
/-- 153: FieldsByDotsModel.addMeet(II)V -/
def b153_0 : List Instr := [.iload 1, .ifCond .lt 9, .iload 1, .iload 2, .if_icmp .le 10, .jsr 9]
def b153_9 : List Instr := [.return_]
def b153_10 : List Instr := [.aload 0, .getfield 204, .istore 3, .jsr 15]
def b153_15 : List Instr := [.iload 3, .ifCond .le 76, .aload 0, .getfield 202, .iload 3, .iconst 1, .isub, .iaload, .iload 2, .imul, .iload 1, .aload 0, .getfield 203, .iload 3, .iconst 1, .isub, .iaload, .imul, .if_icmp .le 76, .aload 0, .getfield 202, .iload 3, .aload 0, .getfield 202, .iload 3, .iconst 1, .isub, .iaload, .iastore, .aload 0, .getfield 203, .iload 3, .aload 0, .getfield 203, .iload 3, .iconst 1, .isub, .iaload, .iastore, .iinc 3 (-1), .goto 15]
def b153_76 : List Instr := [.aload 0, .getfield 202, .iload 3, .iload 1, .iastore, .aload 0, .getfield 203, .iload 3, .iload 2, .iastore, .aload 0, .dup, .getfield 204, .iconst 1, .iadd, .putfield 204, .return_]
def bk153 : Nat → List Instr := fun pc => match pc with
  | 0 => b153_0
  | 9 => b153_9
  | 10 => b153_10
  | 15 => b153_15
  | 76 => b153_76
  | _ => []
/-- 154: FieldsByDotsModel.layMeet(IIII)V -/
def b154_0 : List Instr := [.aload 0, .iload 3, .iload 4, .iload 1, .invokeinterface 131 4, .istore 5, .aload 0, .iload 3, .iload 4, .iload 2, .invokeinterface 131 4, .istore 6, .iload 5, .iload 6, .if_icmp .ne 68, .iload 5, .ifCond .ne 67, .aload 0, .aload 0, .iload 1, .iload 2, .iload 3, .invokeinterface 155 4, .aload 0, .iload 1, .iload 2, .invokeinterface 152 3, .invokeinterface 153 3, .aload 0, .aload 0, .iload 1, .iload 2, .iload 4, .invokeinterface 155 4, .aload 0, .iload 1, .iload 2, .invokeinterface 152 3, .invokeinterface 153 3, .jsr 67]
def b154_67 : List Instr := [.return_]
def b154_68 : List Instr := [.aload 0, .iload 1, .iload 2, .iload 3, .invokeinterface 131 4, .istore 7, .aload 0, .iload 1, .iload 2, .iload 4, .invokeinterface 131 4, .istore 8, .iload 7, .invokeinterface 134 1, .iload 8, .invokeinterface 134 1, .imul, .ifCond .gt 140, .aload 0, .iload 5, .iload 6, .if_icmp .ge 115, .iload 5, .ineg, .goto 117]
def b154_115 : List Instr := [.iload 5, .jsr 117]
def b154_117 : List Instr := [.iload 5, .iload 6, .if_icmp .ge 132, .iload 6, .iload 5, .isub, .goto 137]
def b154_132 : List Instr := [.iload 5, .iload 6, .isub, .jsr 137]
def b154_137 : List Instr := [.invokeinterface 153 3, .jsr 140]
def b154_140 : List Instr := [.return_]
def bk154 : Nat → List Instr := fun pc => match pc with
  | 0 => b154_0
  | 67 => b154_67
  | 68 => b154_68
  | 115 => b154_115
  | 117 => b154_117
  | 132 => b154_132
  | 137 => b154_137
  | 140 => b154_140
  | _ => []
/-- 155: FieldsByDotsModel.partOf(III)I -/
def b155_0 : List Instr := [.aload 0, .getfield 197, .iload 3, .iaload, .aload 0, .getfield 197, .iload 1, .iaload, .isub, .aload 0, .getfield 197, .iload 2, .iaload, .aload 0, .getfield 197, .iload 1, .iaload, .isub, .imul, .aload 0, .getfield 198, .iload 3, .iaload, .aload 0, .getfield 198, .iload 1, .iaload, .isub, .aload 0, .getfield 198, .iload 2, .iaload, .aload 0, .getfield 198, .iload 1, .iaload, .isub, .imul, .iadd, .ireturn]
def bk155 : Nat → List Instr := fun pc => match pc with
  | 0 => b155_0
  | _ => []
/-- 156: FieldsByDotsModel.isSight(III)Z -/
def b156_0 : List Instr := [.aload 0, .iload 1, .iload 2, .invokeinterface 130 3, .istore 4, .aload 0, .iload 1, .iload 3, .invokeinterface 130 3, .istore 5, .aload 0, .iconst 0, .putfield 204, .aload 0, .iconst 0, .iconst 1, .invokeinterface 153 3, .aload 0, .iconst 1, .iconst 1, .invokeinterface 153 3, .iconst 0, .istore 6, .jsr 36]
def b156_36 : List Instr := [.iload 6, .aload 0, .getfield 199, .iload 1, .iaload, .if_icmp .ge 77, .aload 0, .iload 4, .iload 5, .aload 0, .iload 1, .iload 6, .invokeinterface 130 3, .aload 0, .iload 1, .iload 6, .iconst 1, .iadd, .invokeinterface 130 3, .invokeinterface 154 5, .iinc 6 1, .goto 36]
def b156_77 : List Instr := [.iconst 1, .istore 6, .iconst 1, .istore 7, .jsr 83]
def b156_83 : List Instr := [.iload 7, .aload 0, .getfield 204, .if_icmp .ge 257, .iload 6, .ifCond .eq 257, .goto_w 2, .aload 0, .getfield 203, .iload 7, .iconst 1, .isub, .iaload, .i2l, .lmul, .aload 0, .getfield 203, .iload 7, .iaload, .i2l, .lmul, .lstore 8, .aload 0, .getfield 202, .iload 7, .iconst 1, .isub, .iaload, .i2l, .aload 0, .getfield 203, .iload 7, .iaload, .i2l, .lmul, .aload 0, .getfield 202, .iload 7, .iaload, .i2l, .aload 0, .getfield 203, .iload 7, .iconst 1, .isub, .iaload, .i2l, .lmul, .ladd, .lstore 10, .aload 0, .getfield 197, .iload 4, .iaload, .i2l, .lload 8, .lmul, .aload 0, .getfield 197, .iload 5, .iaload, .aload 0, .getfield 197, .iload 4, .iaload, .isub, .i2l, .lload 10, .lmul, .ladd, .lstore 12, .aload 0, .getfield 198, .iload 4, .iaload, .i2l, .lload 8, .lmul, .aload 0, .getfield 198, .iload 5, .iaload, .aload 0, .getfield 198, .iload 4, .iaload, .isub, .i2l, .lload 10, .lmul, .ladd, .lstore 14, .aload 0, .iload 1, .lload 12, .lload 14, .lload 8, .invokeinterface 143 5, .iconst 2, .if_icmp .ge 248, .iconst 1, .goto 249]
def b156_248 : List Instr := [.iconst 0, .jsr 249]
def b156_249 : List Instr := [.istore 6, .iinc 7 1, .goto 83]
def b156_257 : List Instr := [.iload 6, .freturn]
def bk156 : Nat → List Instr := fun pc => match pc with
  | 0 => b156_0
  | 36 => b156_36
  | 77 => b156_77
  | 83 => b156_83
  | 248 => b156_248
  | 249 => b156_249
  | 257 => b156_257
  | _ => []
/-- 157: FieldsByDotsModel.isStrip(III)Z -/
def b157_0 : List Instr := [.aload 0, .getfield 199, .iload 1, .iaload, .istore 4, .iload 2, .iload 3, .if_icmp .eq 33, .iload 2, .iconst 1, .iadd, .iload 4, .irem, .iload 3, .if_icmp .eq 33, .iload 3, .iconst 1, .iadd, .iload 4, .irem, .iload 2, .if_icmp .ne 35, .jsr 33]
def b157_33 : List Instr := [.iconst 0, .freturn]
def b157_35 : List Instr := [.aload 0, .iload 1, .iload 2, .invokeinterface 130 3, .istore 5, .aload 0, .iload 1, .iload 3, .invokeinterface 130 3, .istore 6, .iconst 1, .istore 7, .iconst 0, .istore 8, .jsr 57]
def b157_57 : List Instr := [.iload 8, .iload 4, .if_icmp .ge 180, .iload 7, .ifCond .eq 180, .aload 0, .iload 1, .iload 8, .invokeinterface 130 3, .istore 9, .aload 0, .iload 1, .iload 8, .iconst 1, .iadd, .invokeinterface 130 3, .istore 10, .iload 9, .iload 5, .if_icmp .eq 117, .iload 10, .iload 5, .if_icmp .eq 117, .iload 9, .iload 6, .if_icmp .eq 117, .iload 10, .iload 6, .if_icmp .ne 121, .jsr 117]
def b157_117 : List Instr := [.iconst 1, .goto 122]
def b157_121 : List Instr := [.iconst 0, .jsr 122]
def b157_122 : List Instr := [.istore 11, .iload 11, .ifCond .eq 152, .aload 0, .iload 5, .iload 6, .iload 9, .iload 10, .invokeinterface 158 5, .ifCond .ne 148, .iconst 1, .goto 172]
def b157_148 : List Instr := [.iconst 0, .goto 172]
def b157_152 : List Instr := [.aload 0, .iload 5, .iload 6, .iload 9, .iload 10, .invokeinterface 133 5, .ifCond .ne 171, .iconst 1, .goto 172]
def b157_171 : List Instr := [.iconst 0, .jsr 172]
def b157_172 : List Instr := [.istore 7, .iinc 8 1, .goto 57]
def b157_180 : List Instr := [.iload 7, .ifCond .eq 233, .aload 0, .iload 1, .aload 0, .getfield 197, .iload 5, .iaload, .aload 0, .getfield 197, .iload 6, .iaload, .iadd, .i2l, .aload 0, .getfield 198, .iload 5, .iaload, .aload 0, .getfield 198, .iload 6, .iaload, .iadd, .i2l, .goto_w 2, .invokeinterface 143 5, .iconst 1, .if_icmp .ne 233, .iconst 1, .goto 234]
def b157_233 : List Instr := [.iconst 0, .jsr 234]
def b157_234 : List Instr := [.freturn]
def bk157 : Nat → List Instr := fun pc => match pc with
  | 0 => b157_0
  | 33 => b157_33
  | 35 => b157_35
  | 57 => b157_57
  | 117 => b157_117
  | 121 => b157_121
  | 122 => b157_122
  | 148 => b157_148
  | 152 => b157_152
  | 171 => b157_171
  | 172 => b157_172
  | 180 => b157_180
  | 233 => b157_233
  | 234 => b157_234
  | _ => []
/-- 158: FieldsByDotsModel.isAlong(IIII)Z -/
def b158_0 : List Instr := [.iload 3, .iload 1, .if_icmp .eq 11, .iload 4, .iload 1, .if_icmp .ne 15, .jsr 11]
def b158_11 : List Instr := [.iload 1, .goto 16]
def b158_15 : List Instr := [.iload 2, .jsr 16]
def b158_16 : List Instr := [.istore 5, .iload 5, .iload 1, .if_icmp .ne 28, .iload 2, .goto 29]
def b158_28 : List Instr := [.iload 1, .jsr 29]
def b158_29 : List Instr := [.istore 6, .iload 3, .iload 5, .if_icmp .ne 42, .iload 4, .goto 43]
def b158_42 : List Instr := [.iload 3, .jsr 43]
def b158_43 : List Instr := [.istore 7, .aload 0, .iload 5, .iload 6, .iload 7, .invokeinterface 131 4, .ifCond .ne 128, .aload 0, .getfield 197, .iload 6, .iaload, .aload 0, .getfield 197, .iload 5, .iaload, .isub, .aload 0, .getfield 197, .iload 7, .iaload, .aload 0, .getfield 197, .iload 5, .iaload, .isub, .imul, .aload 0, .getfield 198, .iload 6, .iaload, .aload 0, .getfield 198, .iload 5, .iaload, .isub, .aload 0, .getfield 198, .iload 7, .iaload, .aload 0, .getfield 198, .iload 5, .iaload, .isub, .imul, .iadd, .ifCond .le 128, .iconst 1, .goto 129]
def b158_128 : List Instr := [.iconst 0, .jsr 129]
def b158_129 : List Instr := [.freturn]
def bk158 : Nat → List Instr := fun pc => match pc with
  | 0 => b158_0
  | 11 => b158_11
  | 15 => b158_15
  | 16 => b158_16
  | 28 => b158_28
  | 29 => b158_29
  | 42 => b158_42
  | 43 => b158_43
  | 128 => b158_128
  | 129 => b158_129
  | _ => []
/-- 159: FieldsByDotsModel.areTwo(III)Z -/
def b159_0 : List Instr := [.aload 0, .iload 1, .iload 2, .invokeinterface 120 3, .ifCond .eq 22, .aload 0, .iload 1, .iload 3, .invokeinterface 120 3, .ifCond .eq 22, .iconst 1, .goto 23]
def b159_22 : List Instr := [.iconst 0, .jsr 23]
def b159_23 : List Instr := [.freturn]
def bk159 : Nat → List Instr := fun pc => match pc with
  | 0 => b159_0
  | 22 => b159_22
  | 23 => b159_23
  | _ => []
/-- 160: FieldsByDotsModel.sees(III)I -/
def b160_0 : List Instr := [.aload 0, .iload 1, .iload 2, .iload 3, .invokeinterface 159 4, .ifCond .eq 15, .iload 2, .iload 3, .if_icmp .ne 17, .jsr 15]
def b160_15 : List Instr := [.iconst (-1), .ireturn]
def b160_17 : List Instr := [.aload 0, .iload 1, .invokeinterface 135 2, .ifCond .ne 30, .iconst (-3), .goto 45]
def b160_30 : List Instr := [.aload 0, .iload 1, .iload 2, .iload 3, .invokeinterface 156 4, .ifCond .eq 44, .iconst 1, .goto 45]
def b160_44 : List Instr := [.iconst 0, .jsr 45]
def b160_45 : List Instr := [.ireturn]
def bk160 : Nat → List Instr := fun pc => match pc with
  | 0 => b160_0
  | 15 => b160_15
  | 17 => b160_17
  | 30 => b160_30
  | 44 => b160_44
  | 45 => b160_45
  | _ => []
/-- 161: FieldsByDotsModel.strip(III)I -/
def b161_0 : List Instr := [.aload 0, .iload 1, .iload 2, .iload 3, .invokeinterface 159 4, .ifCond .eq 15, .iload 2, .iload 3, .if_icmp .ne 17, .jsr 15]
def b161_15 : List Instr := [.iconst (-1), .ireturn]
def b161_17 : List Instr := [.aload 0, .iload 1, .invokeinterface 135 2, .ifCond .ne 30, .iconst (-3), .goto 45]
def b161_30 : List Instr := [.aload 0, .iload 1, .iload 2, .iload 3, .invokeinterface 157 4, .ifCond .eq 44, .iconst 1, .goto 45]
def b161_44 : List Instr := [.iconst 0, .jsr 45]
def b161_45 : List Instr := [.ireturn]
def bk161 : Nat → List Instr := fun pc => match pc with
  | 0 => b161_0
  | 15 => b161_15
  | 17 => b161_17
  | 30 => b161_30
  | 44 => b161_44
  | 45 => b161_45
  | _ => []
/-- 162: FieldsByDotsModel.layStrips(I)I -/
def b162_0 : List Instr := [.iconst 0, .istore 2, .iconst 0, .istore 3, .jsr 4]
def b162_4 : List Instr := [.iload 3, .iconst 100, .if_icmp .ge 98, .iload 3, .iconst 10, .idiv, .istore 4, .iload 3, .iconst 10, .irem, .istore 5, .aload 0, .getfield 205, .iload 3, .iload 4, .iload 5, .if_icmp .ge 61, .iload 5, .aload 0, .getfield 199, .iload 1, .iaload, .if_icmp .ge 61, .aload 0, .iload 1, .iload 4, .iload 5, .invokeinterface 157 4, .ifCond .eq 61, .iconst 1, .goto 62]
def b162_61 : List Instr := [.iconst 0, .jsr 62]
def b162_62 : List Instr := [.bastore, .aload 0, .getfield 206, .iload 3, .aload 0, .getfield 205, .iload 3, .baload, .bastore, .iload 2, .aload 0, .getfield 205, .iload 3, .baload, .ifCond .eq 89, .iconst 1, .goto 90]
def b162_89 : List Instr := [.iconst 0, .jsr 90]
def b162_90 : List Instr := [.iadd, .istore 2, .iinc 3 1, .goto 4]
def b162_98 : List Instr := [.iload 2, .ireturn]
def bk162 : Nat → List Instr := fun pc => match pc with
  | 0 => b162_0
  | 4 => b162_4
  | 61 => b162_61
  | 62 => b162_62
  | 89 => b162_89
  | 90 => b162_90
  | 98 => b162_98
  | _ => []
/-- 163: FieldsByDotsModel.layCuts(I)V -/
def b163_0 : List Instr := [.aload 0, .getfield 199, .iload 1, .iaload, .istore 2, .iconst 1, .istore 3, .jsr 9]
def b163_9 : List Instr := [.iload 3, .iload 2, .if_icmp .ge 297, .iconst 0, .istore 4, .jsr 17]
def b163_17 : List Instr := [.iload 4, .iload 3, .iadd, .iload 2, .if_icmp .ge 291, .iload 4, .iload 3, .iadd, .istore 5, .iload 3, .iconst 1, .if_icmp .eq 43, .iload 3, .iload 2, .iconst 1, .isub, .if_icmp .ne 47, .jsr 43]
def b163_43 : List Instr := [.iconst 1, .goto 48]
def b163_47 : List Instr := [.iconst 0, .jsr 48]
def b163_48 : List Instr := [.istore 6, .iload 6, .ifCond .eq 59, .iconst 0, .goto 77]
def b163_59 : List Instr := [.aload 0, .aload 0, .iload 1, .iload 4, .invokeinterface 130 3, .aload 0, .iload 1, .iload 5, .invokeinterface 130 3, .invokeinterface 152 3, .jsr 77]
def b163_77 : List Instr := [.istore 7, .iload 3, .iconst 1, .if_icmp .ne 88, .iconst 1, .goto 89]
def b163_88 : List Instr := [.iconst 0, .jsr 89]
def b163_89 : List Instr := [.istore 8, .iload 3, .iconst 1, .if_icmp .ne 100, .iconst 0, .goto 102]
def b163_100 : List Instr := [.iconst 1000000, .jsr 102]
def b163_102 : List Instr := [.istore 9, .iload 4, .iconst 1, .iadd, .istore 10, .jsr 110]
def b163_110 : List Instr := [.iload 10, .iload 5, .if_icmp .ge 203, .iload 8, .aload 0, .getfield 207, .iconst 10, .iload 4, .imul, .iload 10, .iadd, .iaload, .aload 0, .getfield 207, .iconst 10, .iload 10, .imul, .iload 5, .iadd, .iaload, .imul, .iadd, .istore 8, .aload 0, .getfield 208, .iconst 10, .iload 4, .imul, .iload 10, .iadd, .iaload, .aload 0, .getfield 208, .iconst 10, .iload 10, .imul, .iload 5, .iadd, .iaload, .iadd, .iload 7, .iadd, .istore 11, .iload 11, .iload 9, .if_icmp .ge 193, .iload 11, .goto 195]
def b163_193 : List Instr := [.iload 9, .jsr 195]
def b163_195 : List Instr := [.istore 9, .iinc 10 1, .goto 110]
def b163_203 : List Instr := [.iload 6, .ifCond .ne 224, .aload 0, .getfield 206, .iconst 10, .iload 4, .imul, .iload 5, .iadd, .baload, .ifCond .eq 228, .jsr 224]
def b163_224 : List Instr := [.iconst 1, .goto 229]
def b163_228 : List Instr := [.iconst 0, .jsr 229]
def b163_229 : List Instr := [.istore 10, .aload 0, .getfield 207, .iconst 10, .iload 4, .imul, .iload 5, .iadd, .iload 10, .ifCond .eq 253, .iload 8, .goto 254]
def b163_253 : List Instr := [.iconst 0, .jsr 254]
def b163_254 : List Instr := [.iastore, .aload 0, .getfield 208, .iconst 10, .iload 4, .imul, .iload 5, .iadd, .iload 10, .ifCond .eq 282, .iload 8, .ifCond .le 282, .iload 9, .goto 284]
def b163_282 : List Instr := [.iconst 1000000, .jsr 284]
def b163_284 : List Instr := [.iastore, .iinc 4 1, .goto 17]
def b163_291 : List Instr := [.iinc 3 1, .goto 9]
def b163_297 : List Instr := [.return_]
def bk163 : Nat → List Instr := fun pc => match pc with
  | 0 => b163_0
  | 9 => b163_9
  | 17 => b163_17
  | 43 => b163_43
  | 47 => b163_47
  | 48 => b163_48
  | 59 => b163_59
  | 77 => b163_77
  | 88 => b163_88
  | 89 => b163_89
  | 100 => b163_100
  | 102 => b163_102
  | 110 => b163_110
  | 193 => b163_193
  | 195 => b163_195
  | 203 => b163_203
  | 224 => b163_224
  | 228 => b163_228
  | 229 => b163_229
  | 253 => b163_253
  | 254 => b163_254
  | 282 => b163_282
  | 284 => b163_284
  | 291 => b163_291
  | 297 => b163_297
  | _ => []
/-- 164: FieldsByDotsModel.about(II)I -/
def b164_0 : List Instr := [.iload 1, .invokeinterface 119 1, .ifCond .ne 9, .iconst (-1), .ireturn]
def b164_9 : List Instr := [.iload 2, .i2l, .goto_w 0, .goto_w 8, .invokeinterface 112 3, .ifCond .ne 24, .iconst (-2), .ireturn]
def b164_24 : List Instr := [.aload 0, .iload 1, .invokeinterface 135 2, .ifCond .ne 35, .iconst (-3), .ireturn]
def b164_35 : List Instr := [.iconst 0, .istore 3, .iconst 0, .istore 4, .jsr 40]
def b164_40 : List Instr := [.iload 4, .aload 0, .getfield 199, .iload 1, .iaload, .if_icmp .ge 85, .iload 3, .aload 0, .iload 1, .iload 4, .invokeinterface 142 3, .iload 2, .iconst 4, .if_icmp .ne 68, .iconst 2, .goto 69]
def b164_68 : List Instr := [.iconst 1, .jsr 69]
def b164_69 : List Instr := [.if_icmp .ne 76, .iconst 1, .goto 77]
def b164_76 : List Instr := [.iconst 0, .jsr 77]
def b164_77 : List Instr := [.iadd, .istore 3, .iinc 4 1, .goto 40]
def b164_85 : List Instr := [.aload 0, .iload 1, .invokeinterface 162 2, .istore 4, .aload 0, .iload 1, .invokeinterface 163 2, .iload 2, .tableswitch 227 0 8 #[148, 157, 171, 177, 227, 227, 196, 199, 213]]
def b164_148 : List Instr := [.aload 0, .iload 1, .invokeinterface 138 2, .invokeinterface 139 1, .ireturn]
def b164_157 : List Instr := [.aload 0, .iload 1, .invokeinterface 138 2, .ifCond .le 169, .iconst 1, .goto 170]
def b164_169 : List Instr := [.iconst 0, .jsr 170]
def b164_170 : List Instr := [.ireturn]
def b164_171 : List Instr := [.aload 0, .iload 1, .invokeinterface 141 2, .ireturn]
def b164_177 : List Instr := [.aload 0, .iload 1, .invokeinterface 138 2, .invokeinterface 139 1, .aload 0, .iload 1, .invokeinterface 141 2, .isub, .iconst 2, .iadd, .iconst 2, .idiv, .ireturn]
def b164_196 : List Instr := [.iload 4, .ireturn]
def b164_199 : List Instr := [.aload 0, .getfield 207, .aload 0, .getfield 199, .iload 1, .iaload, .iconst 1, .isub, .iaload, .ireturn]
def b164_213 : List Instr := [.aload 0, .getfield 208, .aload 0, .getfield 199, .iload 1, .iaload, .iconst 1, .isub, .iaload, .ireturn]
def b164_227 : List Instr := [.iload 3, .ireturn]
def bk164 : Nat → List Instr := fun pc => match pc with
  | 0 => b164_0
  | 9 => b164_9
  | 24 => b164_24
  | 35 => b164_35
  | 40 => b164_40
  | 68 => b164_68
  | 69 => b164_69
  | 76 => b164_76
  | 77 => b164_77
  | 85 => b164_85
  | 148 => b164_148
  | 157 => b164_157
  | 169 => b164_169
  | 170 => b164_170
  | 171 => b164_171
  | 177 => b164_177
  | 196 => b164_196
  | 199 => b164_199
  | 213 => b164_213
  | 227 => b164_227
  | _ => []
/-- 165: FieldsByDotsModel.layLeast(I)I -/
def b165_0 : List Instr := [.aload 0, .iload 1, .invokeinterface 162 2, .pop, .aload 0, .iload 1, .invokeinterface 163 2, .aload 0, .getfield 199, .iload 1, .iaload, .istore 2, .aload 0, .getfield 208, .iload 2, .iconst 1, .isub, .iaload, .istore 3, .iconst 0, .istore 4, .iconst 0, .istore 5, .jsr 33]
def b165_33 : List Instr := [.iload 5, .iconst 100, .if_icmp .ge 203, .iload 4, .iload 2, .iconst 3, .isub, .if_icmp .ge 203, .aload 0, .getfield 206, .iload 5, .baload, .ifCond .eq 197, .iconst 0, .istore 6, .jsr 61]
def b165_61 : List Instr := [.iload 6, .iconst 100, .if_icmp .ge 120, .aload 0, .getfield 205, .iload 6, .aload 0, .getfield 206, .iload 6, .baload, .bastore, .aload 0, .getfield 206, .iload 6, .aload 0, .getfield 206, .iload 6, .baload, .ifCond .eq 112, .iload 5, .iload 6, .invokeinterface 166 2, .ifCond .ne 112, .iconst 1, .goto 113]
def b165_112 : List Instr := [.iconst 0, .jsr 113]
def b165_113 : List Instr := [.bastore, .iinc 6 1, .goto 61]
def b165_120 : List Instr := [.aload 0, .iload 1, .invokeinterface 163 2, .aload 0, .getfield 208, .iload 2, .iconst 1, .isub, .iaload, .iload 3, .if_icmp .ne 152, .aload 0, .getfield 209, .iload 4, .iload 5, .iastore, .iinc 4 1, .goto 197]
def b165_152 : List Instr := [.iconst 0, .istore 6, .jsr 155]
def b165_155 : List Instr := [.iload 6, .iconst 100, .if_icmp .ge 197, .aload 0, .getfield 206, .iload 6, .aload 0, .getfield 205, .iload 6, .baload, .ifCond .eq 189, .iload 6, .iload 5, .if_icmp .eq 189, .iconst 1, .goto 190]
def b165_189 : List Instr := [.iconst 0, .jsr 190]
def b165_190 : List Instr := [.bastore, .iinc 6 1, .goto 155]
def b165_197 : List Instr := [.iinc 5 1, .goto 33]
def b165_203 : List Instr := [.iload 4, .ireturn]
def bk165 : Nat → List Instr := fun pc => match pc with
  | 0 => b165_0
  | 33 => b165_33
  | 61 => b165_61
  | 112 => b165_112
  | 113 => b165_113
  | 120 => b165_120
  | 152 => b165_152
  | 155 => b165_155
  | 189 => b165_189
  | 190 => b165_190
  | 197 => b165_197
  | 203 => b165_203
  | _ => []
/-- 166: FieldsByDotsModel.cross(II)Z -/
def b166_0 : List Instr := [.iload 0, .iconst 10, .idiv, .istore 2, .iload 0, .iconst 10, .irem, .istore 3, .iload 1, .iconst 10, .idiv, .istore 4, .iload 1, .iconst 10, .irem, .istore 5, .iload 2, .iload 4, .if_icmp .ge 40, .iload 4, .iload 3, .if_icmp .ge 40, .iload 3, .iload 5, .if_icmp .lt 58, .jsr 40]
def b166_40 : List Instr := [.iload 4, .iload 2, .if_icmp .ge 62, .iload 2, .iload 5, .if_icmp .ge 62, .iload 5, .iload 3, .if_icmp .ge 62, .jsr 58]
def b166_58 : List Instr := [.iconst 1, .goto 63]
def b166_62 : List Instr := [.iconst 0, .jsr 63]
def b166_63 : List Instr := [.freturn]
def bk166 : Nat → List Instr := fun pc => match pc with
  | 0 => b166_0
  | 40 => b166_40
  | 58 => b166_58
  | 62 => b166_62
  | 63 => b166_63
  | _ => []
/-- 167: FieldsByDotsModel.least(II)I -/
def b167_0 : List Instr := [.iload 1, .invokeinterface 119 1, .ifCond .ne 9, .iconst (-1), .ireturn]
def b167_9 : List Instr := [.aload 0, .iload 1, .invokeinterface 135 2, .ifCond .ne 20, .iconst (-3), .ireturn]
def b167_20 : List Instr := [.aload 0, .iload 1, .invokeinterface 165 2, .istore 3, .iload 2, .i2l, .goto_w 0, .iload 3, .iconst 1, .isub, .i2l, .invokeinterface 112 3, .ifCond .eq 48, .aload 0, .getfield 209, .iload 2, .iaload, .goto 50]
def b167_48 : List Instr := [.iconst (-9), .jsr 50]
def b167_50 : List Instr := [.ireturn]
def bk167 : Nat → List Instr := fun pc => match pc with
  | 0 => b167_0
  | 9 => b167_9
  | 20 => b167_20
  | 48 => b167_48
  | 50 => b167_50
  | _ => []
/-- 168: FieldsByDotsModel.sidesOf(III)I -/
def b168_0 : List Instr := [.iload 2, .iload 3, .if_icmp .ge 15, .aload 0, .iload 1, .iload 2, .iload 3, .invokeinterface 137 4, .goto 22]
def b168_15 : List Instr := [.aload 0, .iload 1, .iload 3, .iload 2, .invokeinterface 137 4, .jsr 22]
def b168_22 : List Instr := [.istore 4, .aload 0, .iload 1, .invokeinterface 138 2, .iconst 2, .iload 4, .imul, .isub, .invokeinterface 139 1, .ireturn]
def bk168 : Nat → List Instr := fun pc => match pc with
  | 0 => b168_0
  | 15 => b168_15
  | 22 => b168_22
  | _ => []
/-- 169: FieldsByDotsModel.fair(I)I -/
def b169_0 : List Instr := [.iload 1, .invokeinterface 119 1, .ifCond .ne 9, .iconst (-1), .ireturn]
def b169_9 : List Instr := [.aload 0, .iload 1, .invokeinterface 135 2, .ifCond .ne 20, .iconst (-3), .ireturn]
def b169_20 : List Instr := [.aload 0, .iload 1, .invokeinterface 162 2, .pop, .iconst (-9), .istore 2, .iconst 1000000, .istore 3, .iconst 0, .istore 4, .jsr 35]
def b169_35 : List Instr := [.iload 4, .iconst 100, .if_icmp .ge 106, .aload 0, .getfield 205, .iload 4, .baload, .ifCond .eq 70, .aload 0, .iload 1, .iload 4, .iconst 10, .idiv, .iload 4, .iconst 10, .irem, .invokeinterface 168 4, .goto 72]
def b169_70 : List Instr := [.iconst 1000000, .jsr 72]
def b169_72 : List Instr := [.istore 5, .iload 5, .iload 3, .if_icmp .ge 85, .iload 4, .goto 86]
def b169_85 : List Instr := [.iload 2, .jsr 86]
def b169_86 : List Instr := [.istore 2, .iload 5, .iload 3, .if_icmp .ge 98, .iload 5, .goto 99]
def b169_98 : List Instr := [.iload 3, .jsr 99]
def b169_99 : List Instr := [.istore 3, .iinc 4 1, .goto 35]
def b169_106 : List Instr := [.iload 2, .ireturn]
def bk169 : Nat → List Instr := fun pc => match pc with
  | 0 => b169_0
  | 9 => b169_9
  | 20 => b169_20
  | 35 => b169_35
  | 70 => b169_70
  | 72 => b169_72
  | 85 => b169_85
  | 86 => b169_86
  | 98 => b169_98
  | 99 => b169_99
  | 106 => b169_106
  | _ => []
/-- 170: FieldsByDotsModel.sides(III)I -/
def b170_0 : List Instr := [.aload 0, .iload 1, .iload 2, .iload 3, .invokeinterface 159 4, .ifCond .ne 12, .iconst (-1), .ireturn]
def b170_12 : List Instr := [.aload 0, .iload 1, .invokeinterface 135 2, .ifCond .eq 40, .aload 0, .iload 1, .iload 2, .iload 3, .invokeinterface 157 4, .ifCond .eq 40, .aload 0, .iload 1, .iload 2, .iload 3, .invokeinterface 168 4, .goto 42]
def b170_40 : List Instr := [.iconst (-3), .jsr 42]
def b170_42 : List Instr := [.ireturn]
def bk170 : Nat → List Instr := fun pc => match pc with
  | 0 => b170_0
  | 12 => b170_12
  | 40 => b170_40
  | 42 => b170_42
  | _ => []
/-- 171: FieldsByDotsModel.laySeen(I)V -/
def b171_0 : List Instr := [.iconst 0, .istore 2, .jsr 2]
def b171_2 : List Instr := [.iload 2, .aload 0, .getfield 199, .iload 1, .iaload, .if_icmp .ge 76, .aload 0, .getfield 210, .iload 2, .iconst 1, .iload 2, .ishl, .iastore, .iconst 0, .istore 3, .jsr 23]
def b171_23 : List Instr := [.iload 3, .aload 0, .getfield 199, .iload 1, .iaload, .if_icmp .ge 70, .aload 0, .getfield 210, .iload 2, .dup2, .iaload, .iload 3, .iload 2, .if_icmp .eq 61, .aload 0, .iload 1, .iload 2, .iload 3, .invokeinterface 156 4, .ifCond .eq 61, .iconst 1, .iload 3, .ishl, .goto 62]
def b171_61 : List Instr := [.iconst 0, .jsr 62]
def b171_62 : List Instr := [.ior, .iastore, .iinc 3 1, .goto 23]
def b171_70 : List Instr := [.iinc 2 1, .goto 2]
def b171_76 : List Instr := [.return_]
def bk171 : Nat → List Instr := fun pc => match pc with
  | 0 => b171_0
  | 2 => b171_2
  | 23 => b171_23
  | 61 => b171_61
  | 62 => b171_62
  | 70 => b171_70
  | 76 => b171_76
  | _ => []
/-- 172: FieldsByDotsModel.ones(I)I -/
def b172_0 : List Instr := [.iconst 0, .istore 1, .iconst 0, .istore 2, .jsr 4]
def b172_4 : List Instr := [.iload 2, .iconst 10, .if_icmp .ge 24, .iload 1, .iload 0, .iload 2, .ishr, .iconst 1, .iand, .iadd, .istore 1, .iinc 2 1, .goto 4]
def b172_24 : List Instr := [.iload 1, .ireturn]
def bk172 : Nat → List Instr := fun pc => match pc with
  | 0 => b172_0
  | 4 => b172_4
  | 24 => b172_24
  | _ => []
/-- 173: FieldsByDotsModel.guards(I)I -/
def b173_0 : List Instr := [.iload 1, .invokeinterface 119 1, .ifCond .ne 9, .iconst (-1), .ireturn]
def b173_9 : List Instr := [.aload 0, .iload 1, .invokeinterface 135 2, .ifCond .ne 20, .iconst (-3), .ireturn]
def b173_20 : List Instr := [.aload 0, .iload 1, .invokeinterface 171 2, .iconst 1, .aload 0, .getfield 199, .iload 1, .iaload, .ishl, .iconst 1, .isub, .istore 2, .iload 2, .istore 3, .iload 2, .istore 4, .jsr 41]
def b173_41 : List Instr := [.iload 4, .ifCond .le 127, .iconst 0, .istore 5, .iconst 0, .istore 6, .jsr 52]
def b173_52 : List Instr := [.iload 6, .aload 0, .getfield 199, .iload 1, .iaload, .if_icmp .ge 96, .iload 5, .iload 4, .iload 6, .ishr, .iconst 1, .iand, .iconst 1, .if_icmp .ne 86, .aload 0, .getfield 210, .iload 6, .iaload, .goto 87]
def b173_86 : List Instr := [.iconst 0, .jsr 87]
def b173_87 : List Instr := [.ior, .istore 5, .iinc 6 1, .goto 52]
def b173_96 : List Instr := [.iload 5, .iload 2, .if_icmp .ne 119, .iload 4, .invokeinterface 172 1, .iload 3, .invokeinterface 172 1, .if_icmp .gt 119, .iload 4, .goto 120]
def b173_119 : List Instr := [.iload 3, .jsr 120]
def b173_120 : List Instr := [.istore 3, .iinc 4 (-1), .goto 41]
def b173_127 : List Instr := [.iload 3, .ireturn]
def bk173 : Nat → List Instr := fun pc => match pc with
  | 0 => b173_0
  | 9 => b173_9
  | 20 => b173_20
  | 41 => b173_41
  | 52 => b173_52
  | 86 => b173_86
  | 87 => b173_87
  | 96 => b173_96
  | 119 => b173_119
  | 120 => b173_120
  | 127 => b173_127
  | _ => []
/-- 174: FieldsByDotsModel.hops(III)I -/
def b174_0 : List Instr := [.aload 0, .iload 1, .iload 2, .iload 3, .invokeinterface 159 4, .ifCond .ne 12, .iconst (-1), .ireturn]
def b174_12 : List Instr := [.aload 0, .iload 1, .invokeinterface 135 2, .ifCond .ne 23, .iconst (-3), .ireturn]
def b174_23 : List Instr := [.aload 0, .iload 1, .invokeinterface 171 2, .iconst 1, .iload 2, .ishl, .istore 4, .iconst 0, .istore 5, .jsr 36]
def b174_36 : List Instr := [.iload 4, .iload 3, .ishr, .iconst 1, .iand, .ifCond .ne 106, .iload 4, .istore 6, .iconst 0, .istore 7, .jsr 52]
def b174_52 : List Instr := [.iload 7, .aload 0, .getfield 199, .iload 1, .iaload, .if_icmp .ge 96, .iload 6, .iload 4, .iload 7, .ishr, .iconst 1, .iand, .iconst 1, .if_icmp .ne 86, .aload 0, .getfield 210, .iload 7, .iaload, .goto 87]
def b174_86 : List Instr := [.iconst 0, .jsr 87]
def b174_87 : List Instr := [.ior, .istore 6, .iinc 7 1, .goto 52]
def b174_96 : List Instr := [.iload 6, .istore 4, .iinc 5 1, .goto 36]
def b174_106 : List Instr := [.iload 5, .ireturn]
def bk174 : Nat → List Instr := fun pc => match pc with
  | 0 => b174_0
  | 12 => b174_12
  | 23 => b174_23
  | 36 => b174_36
  | 52 => b174_52
  | 86 => b174_86
  | 87 => b174_87
  | 96 => b174_96
  | 106 => b174_106
  | _ => []
/-- 175: FieldsByDotsModel.isMap(IIIII)Z -/
def b175_0 : List Instr := [.iconst 2, .istore 6, .jsr 3]
def b175_3 : List Instr := [.aload 0, .aload 0, .iload 1, .iconst 0, .invokeinterface 130 3, .aload 0, .iload 1, .iconst 1, .invokeinterface 130 3, .aload 0, .iload 1, .iload 6, .invokeinterface 130 3, .invokeinterface 131 4, .ifCond .ne 35, .iinc 6 1, .goto 3]
def b175_35 : List Instr := [.aload 0, .iload 1, .iconst 0, .invokeinterface 130 3, .istore 7, .aload 0, .iload 1, .iconst 1, .invokeinterface 130 3, .istore 8, .aload 0, .iload 1, .iload 6, .invokeinterface 130 3, .istore 9, .aload 0, .iload 2, .iload 3, .invokeinterface 130 3, .istore 10, .aload 0, .iload 2, .iload 3, .iload 4, .iadd, .invokeinterface 130 3, .istore 11, .aload 0, .iload 2, .iload 3, .iload 4, .iload 6, .imul, .iadd, .invokeinterface 130 3, .istore 12, .aload 0, .aload 0, .iload 7, .iload 8, .iload 9, .invokeinterface 131 4, .putfield 215, .aload 0, .aload 0, .getfield 197, .iload 11, .iaload, .aload 0, .getfield 197, .iload 10, .iaload, .isub, .aload 0, .getfield 198, .iload 9, .iaload, .aload 0, .getfield 198, .iload 7, .iaload, .isub, .imul, .aload 0, .getfield 197, .iload 12, .iaload, .aload 0, .getfield 197, .iload 10, .iaload, .isub, .aload 0, .getfield 198, .iload 8, .iaload, .aload 0, .getfield 198, .iload 7, .iaload, .isub, .imul, .isub, .putfield 211, .aload 0, .aload 0, .getfield 197, .iload 12, .iaload, .aload 0, .getfield 197, .iload 10, .iaload, .isub, .aload 0, .getfield 197, .iload 8, .iaload, .aload 0, .getfield 197, .iload 7, .iaload, .isub, .imul, .aload 0, .getfield 197, .iload 11, .iaload, .aload 0, .getfield 197, .iload 10, .iaload, .isub, .aload 0, .getfield 197, .iload 9, .iaload, .aload 0, .getfield 197, .iload 7, .iaload, .isub, .imul, .isub, .putfield 212, .aload 0, .aload 0, .getfield 198, .iload 11, .iaload, .aload 0, .getfield 198, .iload 10, .iaload, .isub, .aload 0, .getfield 198, .iload 9, .iaload, .aload 0, .getfield 198, .iload 7, .iaload, .isub, .imul, .aload 0, .getfield 198, .iload 12, .iaload, .aload 0, .getfield 198, .iload 10, .iaload, .isub, .aload 0, .getfield 198, .iload 8, .iaload, .aload 0, .getfield 198, .iload 7, .iaload, .isub, .imul, .isub, .putfield 213, .aload 0, .aload 0, .getfield 198, .iload 12, .iaload, .aload 0, .getfield 198, .iload 10, .iaload, .isub, .aload 0, .getfield 197, .iload 8, .iaload, .aload 0, .getfield 197, .iload 7, .iaload, .isub, .imul, .aload 0, .getfield 198, .iload 11, .iaload, .aload 0, .getfield 198, .iload 10, .iaload, .isub, .aload 0, .getfield 197, .iload 9, .iaload, .aload 0, .getfield 197, .iload 7, .iaload, .isub, .imul, .isub, .putfield 214, .aload 0, .getfield 211, .aload 0, .getfield 215, .irem, .ifCond .ne 427, .aload 0, .getfield 212, .aload 0, .getfield 215, .irem, .ifCond .ne 427, .aload 0, .getfield 213, .aload 0, .getfield 215, .irem, .ifCond .ne 427, .aload 0, .getfield 214, .aload 0, .getfield 215, .irem, .ifCond .ne 427, .iconst 1, .goto 428]
def b175_427 : List Instr := [.iconst 0, .jsr 428]
def b175_428 : List Instr := [.istore 13, .iload 13, .ifCond .eq 483, .aload 0, .getfield 211, .aload 0, .getfield 215, .idiv, .aload 0, .getfield 214, .aload 0, .getfield 215, .idiv, .imul, .aload 0, .getfield 212, .aload 0, .getfield 215, .idiv, .aload 0, .getfield 213, .aload 0, .getfield 215, .idiv, .imul, .isub, .iload 5, .if_icmp .ne 483, .iconst 1, .goto 484]
def b175_483 : List Instr := [.iconst 0, .jsr 484]
def b175_484 : List Instr := [.istore 14, .iconst 0, .istore 15, .jsr 489]
def b175_489 : List Instr := [.iload 15, .aload 0, .getfield 199, .iload 1, .iaload, .if_icmp .ge 661, .iload 14, .ifCond .eq 661, .aload 0, .iload 1, .iload 15, .invokeinterface 130 3, .istore 16, .aload 0, .iload 2, .iload 3, .iload 4, .iload 15, .imul, .iadd, .invokeinterface 130 3, .istore 17, .aload 0, .getfield 197, .iload 16, .iaload, .aload 0, .getfield 197, .iload 7, .iaload, .isub, .istore 18, .aload 0, .getfield 198, .iload 16, .iaload, .aload 0, .getfield 198, .iload 7, .iaload, .isub, .istore 19, .aload 0, .getfield 211, .aload 0, .getfield 215, .idiv, .iload 18, .imul, .aload 0, .getfield 212, .aload 0, .getfield 215, .idiv, .iload 19, .imul, .iadd, .aload 0, .getfield 197, .iload 17, .iaload, .aload 0, .getfield 197, .iload 10, .iaload, .isub, .if_icmp .ne 652, .aload 0, .getfield 213, .aload 0, .getfield 215, .idiv, .iload 18, .imul, .aload 0, .getfield 214, .aload 0, .getfield 215, .idiv, .iload 19, .imul, .iadd, .aload 0, .getfield 198, .iload 17, .iaload, .aload 0, .getfield 198, .iload 10, .iaload, .isub, .if_icmp .ne 652, .iconst 1, .goto 653]
def b175_652 : List Instr := [.iconst 0, .jsr 653]
def b175_653 : List Instr := [.istore 14, .iinc 15 1, .goto 489]
def b175_661 : List Instr := [.iload 14, .freturn]
def bk175 : Nat → List Instr := fun pc => match pc with
  | 0 => b175_0
  | 3 => b175_3
  | 35 => b175_35
  | 427 => b175_427
  | 428 => b175_428
  | 483 => b175_483
  | 484 => b175_484
  | 489 => b175_489
  | 652 => b175_652
  | 653 => b175_653
  | 661 => b175_661
  | _ => []
/-- 176: FieldsByDotsModel.isLike(III)Z -/
def b176_0 : List Instr := [.iconst 0, .istore 4, .iconst 0, .istore 5, .jsr 6]
def b176_6 : List Instr := [.iload 5, .aload 0, .getfield 199, .iload 2, .iaload, .if_icmp .ge 76, .aload 0, .getfield 199, .iload 1, .iaload, .aload 0, .getfield 199, .iload 2, .iaload, .if_icmp .ne 76, .iload 4, .ifCond .ne 76, .aload 0, .iload 1, .iload 2, .iload 5, .iconst 1, .iload 3, .invokeinterface 175 6, .ifCond .ne 63, .aload 0, .iload 1, .iload 2, .iload 5, .iconst (-1), .iload 3, .invokeinterface 175 6, .ifCond .eq 67, .jsr 63]
def b176_63 : List Instr := [.iconst 1, .goto 68]
def b176_67 : List Instr := [.iconst 0, .jsr 68]
def b176_68 : List Instr := [.istore 4, .iinc 5 1, .goto 6]
def b176_76 : List Instr := [.iload 4, .freturn]
def bk176 : Nat → List Instr := fun pc => match pc with
  | 0 => b176_0
  | 6 => b176_6
  | 63 => b176_63
  | 67 => b176_67
  | 68 => b176_68
  | 76 => b176_76
  | _ => []
/-- 177: FieldsByDotsModel.alike(II)I -/
def b177_0 : List Instr := [.iload 1, .invokeinterface 119 1, .ifCond .eq 14, .iload 2, .invokeinterface 119 1, .ifCond .ne 16, .jsr 14]
def b177_14 : List Instr := [.iconst (-1), .ireturn]
def b177_16 : List Instr := [.aload 0, .iload 1, .invokeinterface 135 2, .ifCond .eq 32, .aload 0, .iload 2, .invokeinterface 135 2, .ifCond .ne 35, .jsr 32]
def b177_32 : List Instr := [.iconst (-3), .ireturn]
def b177_35 : List Instr := [.aload 0, .iload 1, .iload 2, .iconst 1, .invokeinterface 176 4, .ifCond .ne 55, .aload 0, .iload 1, .iload 2, .iconst (-1), .invokeinterface 176 4, .ifCond .eq 59, .jsr 55]
def b177_55 : List Instr := [.iconst 1, .goto 60]
def b177_59 : List Instr := [.iconst 0, .jsr 60]
def b177_60 : List Instr := [.ireturn]
def bk177 : Nat → List Instr := fun pc => match pc with
  | 0 => b177_0
  | 14 => b177_14
  | 16 => b177_16
  | 32 => b177_32
  | 35 => b177_35
  | 55 => b177_55
  | 59 => b177_59
  | 60 => b177_60
  | _ => []
/-- 178: FieldsByDotsModel.mirrored(II)I -/
def b178_0 : List Instr := [.iload 1, .invokeinterface 119 1, .ifCond .eq 14, .iload 2, .invokeinterface 119 1, .ifCond .ne 16, .jsr 14]
def b178_14 : List Instr := [.iconst (-1), .ireturn]
def b178_16 : List Instr := [.aload 0, .iload 1, .invokeinterface 135 2, .ifCond .eq 32, .aload 0, .iload 2, .invokeinterface 135 2, .ifCond .ne 35, .jsr 32]
def b178_32 : List Instr := [.iconst (-3), .ireturn]
def b178_35 : List Instr := [.aload 0, .iload 1, .iload 2, .iconst (-1), .invokeinterface 176 4, .ifCond .eq 49, .iconst 1, .goto 50]
def b178_49 : List Instr := [.iconst 0, .jsr 50]
def b178_50 : List Instr := [.ireturn]
def bk178 : Nat → List Instr := fun pc => match pc with
  | 0 => b178_0
  | 14 => b178_14
  | 16 => b178_16
  | 32 => b178_32
  | 35 => b178_35
  | 49 => b178_49
  | 50 => b178_50
  | _ => []
/-- 179: FieldsByDotsModel.common(II)I -/
def b179_0 : List Instr := [.iload 1, .invokeinterface 119 1, .ifCond .eq 14, .iload 2, .invokeinterface 119 1, .ifCond .ne 16, .jsr 14]
def b179_14 : List Instr := [.iconst (-1), .ireturn]
def b179_16 : List Instr := [.aload 0, .iload 1, .invokeinterface 135 2, .ifCond .eq 32, .aload 0, .iload 2, .invokeinterface 135 2, .ifCond .ne 35, .jsr 32]
def b179_32 : List Instr := [.iconst (-3), .ireturn]
def b179_35 : List Instr := [.iconst 0, .istore 3, .iconst 0, .istore 4, .jsr 40]
def b179_40 : List Instr := [.iload 4, .iconst 256, .if_icmp .ge 106, .iload 3, .aload 0, .iload 1, .iload 4, .iconst 16, .idiv, .i2l, .iload 4, .iconst 16, .irem, .i2l, .goto_w 1, .invokeinterface 143 5, .iconst 2, .if_icmp .ge 97, .aload 0, .iload 2, .iload 4, .iconst 16, .idiv, .i2l, .iload 4, .iconst 16, .irem, .i2l, .goto_w 1, .invokeinterface 143 5, .iconst 2, .if_icmp .ge 97, .iconst 1, .goto 98]
def b179_97 : List Instr := [.iconst 0, .jsr 98]
def b179_98 : List Instr := [.iadd, .istore 3, .iinc 4 1, .goto 40]
def b179_106 : List Instr := [.iload 3, .ireturn]
def bk179 : Nat → List Instr := fun pc => match pc with
  | 0 => b179_0
  | 14 => b179_14
  | 16 => b179_16
  | 32 => b179_32
  | 35 => b179_35
  | 40 => b179_40
  | 97 => b179_97
  | 98 => b179_98
  | 106 => b179_106
  | _ => []
/-- 180: FieldsByDotsModel.corners()I -/
def b180_0 : List Instr := [.aload 0, .getfield 199, .iconst 0, .iaload, .aload 0, .getfield 199, .iconst 1, .iaload, .iadd, .aload 0, .getfield 199, .iconst 2, .iaload, .iadd, .aload 0, .getfield 199, .iconst 3, .iaload, .iadd, .ireturn]
def bk180 : Nat → List Instr := fun pc => match pc with
  | 0 => b180_0
  | _ => []
/-- 181: FieldsByDotsModel.keep(I)I -/
def b181_0 : List Instr := [.iload 1, .i2l, .goto_w 0, .goto_w 1, .invokeinterface 112 3, .ifCond .ne 12, .iconst (-1), .ireturn]
def b181_12 : List Instr := [.aload 0, .getfield 216, .iload 1, .iconst 1, .bastore, .iconst 0, .istore 2, .jsr 21]
def b181_21 : List Instr := [.iload 2, .iconst 40, .if_icmp .ge 67, .aload 0, .getfield 217, .iconst 40, .iload 1, .imul, .iload 2, .iadd, .aload 0, .getfield 197, .iload 2, .iaload, .iastore, .aload 0, .getfield 218, .iconst 40, .iload 1, .imul, .iload 2, .iadd, .aload 0, .getfield 198, .iload 2, .iaload, .iastore, .iinc 2 1, .goto 21]
def b181_67 : List Instr := [.iconst 0, .istore 2, .jsr 69]
def b181_69 : List Instr := [.iload 2, .iconst 4, .if_icmp .ge 96, .aload 0, .getfield 219, .iconst 4, .iload 1, .imul, .iload 2, .iadd, .aload 0, .getfield 199, .iload 2, .iaload, .iastore, .iinc 2 1, .goto 69]
def b181_96 : List Instr := [.aload 0, .invokeinterface 180 1, .ireturn]
def bk181 : Nat → List Instr := fun pc => match pc with
  | 0 => b181_0
  | 12 => b181_12
  | 21 => b181_21
  | 67 => b181_67
  | 69 => b181_69
  | 96 => b181_96
  | _ => []
/-- 182: FieldsByDotsModel.again(I)I -/
def b182_0 : List Instr := [.iload 1, .i2l, .goto_w 0, .goto_w 1, .invokeinterface 112 3, .ifCond .ne 12, .iconst (-1), .ireturn]
def b182_12 : List Instr := [.aload 0, .getfield 216, .iload 1, .baload, .ifCond .ne 24, .iconst (-3), .ireturn]
def b182_24 : List Instr := [.iconst 0, .istore 2, .jsr 26]
def b182_26 : List Instr := [.iload 2, .iconst 40, .if_icmp .ge 72, .aload 0, .getfield 197, .iload 2, .aload 0, .getfield 217, .iconst 40, .iload 1, .imul, .iload 2, .iadd, .iaload, .iastore, .aload 0, .getfield 198, .iload 2, .aload 0, .getfield 218, .iconst 40, .iload 1, .imul, .iload 2, .iadd, .iaload, .iastore, .iinc 2 1, .goto 26]
def b182_72 : List Instr := [.iconst 0, .istore 2, .jsr 74]
def b182_74 : List Instr := [.iload 2, .iconst 4, .if_icmp .ge 101, .aload 0, .getfield 199, .iload 2, .aload 0, .getfield 219, .iconst 4, .iload 1, .imul, .iload 2, .iadd, .iaload, .iastore, .iinc 2 1, .goto 74]
def b182_101 : List Instr := [.aload 0, .invokeinterface 180 1, .ireturn]
def bk182 : Nat → List Instr := fun pc => match pc with
  | 0 => b182_0
  | 12 => b182_12
  | 24 => b182_24
  | 26 => b182_26
  | 72 => b182_72
  | 74 => b182_74
  | 101 => b182_101
  | _ => []
/-- 183: FieldsByDotsModel.count(I)I -/
def b183_0 : List Instr := [.iconst 0, .istore 2, .iconst 0, .istore 3, .jsr 4]
def b183_4 : List Instr := [.iload 3, .iconst 4, .if_icmp .ge 31, .iload 2, .aload 0, .iload 3, .invokeinterface 135 2, .ifCond .eq 22, .iconst 1, .goto 23]
def b183_22 : List Instr := [.iconst 0, .jsr 23]
def b183_23 : List Instr := [.iadd, .istore 2, .iinc 3 1, .goto 4]
def b183_31 : List Instr := [.iload 1, .ifCond .ne 42, .aload 0, .getfield 193, .goto 65]
def b183_42 : List Instr := [.iload 1, .iconst 1, .if_icmp .ne 54, .aload 0, .invokeinterface 180 1, .goto 65]
def b183_54 : List Instr := [.iload 1, .iconst 2, .if_icmp .ne 63, .iload 2, .goto 65]
def b183_63 : List Instr := [.iconst (-2), .jsr 65]
def b183_65 : List Instr := [.ireturn]
def bk183 : Nat → List Instr := fun pc => match pc with
  | 0 => b183_0
  | 4 => b183_4
  | 22 => b183_22
  | 23 => b183_23
  | 31 => b183_31
  | 42 => b183_42
  | 54 => b183_54
  | 63 => b183_63
  | 65 => b183_65
  | _ => []
/-- 184: FieldsByDotsLaw.law([I)Z -/
def b184_0 : List Instr := [.new 5, .dup, .invokeinterface 66 1, .astore 1, .new 6, .dup, .invokeinterface 111 1, .astore 2, .iconst 0, .istore 3, .jsr 18]
def b184_18 : List Instr := [.iload 3, .aload 0, .arraylength, .iconst 5, .isub, .if_icmp .gt 1242, .aload 0, .iload 3, .iaload, .iconst 31, .iand, .tableswitch 1236 0 30 #[172, 235, 248, 261, 284, 327, 380, 433, 466, 499, 542, 565, 598, 641, 674, 717, 750, 784, 817, 860, 903, 936, 959, 1002, 1025, 1068, 1101, 1134, 1167, 1190, 1213]]
def b184_172 : List Instr := [.aload 1, .aload 0, .iload 3, .iconst 1, .iadd, .iaload, .aload 0, .iload 3, .iconst 2, .iadd, .iaload, .i2l, .iconst 32, .lshl, .aload 0, .iload 3, .iconst 3, .iadd, .iaload, .i2l, .goto_w 4294967295, .land, .lor, .invokeinterface 67 3, .aload 2, .aload 0, .iload 3, .iconst 1, .iadd, .iaload, .aload 0, .iload 3, .iconst 2, .iadd, .iaload, .i2l, .iconst 32, .lshl, .aload 0, .iload 3, .iconst 3, .iadd, .iaload, .i2l, .goto_w 4294967295, .land, .lor, .invokeinterface 113 3, .if_icmp .eq 1236, .iconst 0, .freturn]
def b184_235 : List Instr := [.aload 1, .invokeinterface 68 1, .aload 2, .invokeinterface 114 1, .if_icmp .eq 1236, .iconst 0, .freturn]
def b184_248 : List Instr := [.aload 1, .invokeinterface 69 1, .aload 2, .invokeinterface 118 1, .if_icmp .eq 1236, .iconst 0, .freturn]
def b184_261 : List Instr := [.aload 1, .aload 0, .iload 3, .iconst 1, .iadd, .iaload, .invokeinterface 70 2, .aload 2, .aload 0, .iload 3, .iconst 1, .iadd, .iaload, .invokeinterface 122 2, .if_icmp .eq 1236, .iconst 0, .freturn]
def b184_284 : List Instr := [.aload 1, .aload 0, .iload 3, .iconst 1, .iadd, .iaload, .aload 0, .iload 3, .iconst 2, .iadd, .iaload, .aload 0, .iload 3, .iconst 3, .iadd, .iaload, .invokeinterface 71 4, .aload 2, .aload 0, .iload 3, .iconst 1, .iadd, .iaload, .aload 0, .iload 3, .iconst 2, .iadd, .iaload, .aload 0, .iload 3, .iconst 3, .iadd, .iaload, .invokeinterface 123 4, .if_icmp .eq 1236, .iconst 0, .freturn]
def b184_327 : List Instr := [.aload 1, .aload 0, .iload 3, .iconst 1, .iadd, .iaload, .aload 0, .iload 3, .iconst 2, .iadd, .iaload, .aload 0, .iload 3, .iconst 3, .iadd, .iaload, .aload 0, .iload 3, .iconst 4, .iadd, .iaload, .invokeinterface 72 5, .aload 2, .aload 0, .iload 3, .iconst 1, .iadd, .iaload, .aload 0, .iload 3, .iconst 2, .iadd, .iaload, .aload 0, .iload 3, .iconst 3, .iadd, .iaload, .aload 0, .iload 3, .iconst 4, .iadd, .iaload, .invokeinterface 125 5, .if_icmp .eq 1236, .iconst 0, .freturn]
def b184_380 : List Instr := [.aload 1, .aload 0, .iload 3, .iconst 1, .iadd, .iaload, .aload 0, .iload 3, .iconst 2, .iadd, .iaload, .aload 0, .iload 3, .iconst 3, .iadd, .iaload, .aload 0, .iload 3, .iconst 4, .iadd, .iaload, .invokeinterface 73 5, .aload 2, .aload 0, .iload 3, .iconst 1, .iadd, .iaload, .aload 0, .iload 3, .iconst 2, .iadd, .iaload, .aload 0, .iload 3, .iconst 3, .iadd, .iaload, .aload 0, .iload 3, .iconst 4, .iadd, .iaload, .invokeinterface 126 5, .if_icmp .eq 1236, .iconst 0, .freturn]
def b184_433 : List Instr := [.aload 1, .aload 0, .iload 3, .iconst 1, .iadd, .iaload, .aload 0, .iload 3, .iconst 2, .iadd, .iaload, .invokeinterface 74 3, .aload 2, .aload 0, .iload 3, .iconst 1, .iadd, .iaload, .aload 0, .iload 3, .iconst 2, .iadd, .iaload, .invokeinterface 127 3, .if_icmp .eq 1236, .iconst 0, .freturn]
def b184_466 : List Instr := [.aload 1, .aload 0, .iload 3, .iconst 1, .iadd, .iaload, .aload 0, .iload 3, .iconst 2, .iadd, .iaload, .invokeinterface 75 3, .aload 2, .aload 0, .iload 3, .iconst 1, .iadd, .iaload, .aload 0, .iload 3, .iconst 2, .iadd, .iaload, .invokeinterface 128 3, .if_icmp .eq 1236, .iconst 0, .freturn]
def b184_499 : List Instr := [.aload 1, .aload 0, .iload 3, .iconst 1, .iadd, .iaload, .aload 0, .iload 3, .iconst 2, .iadd, .iaload, .aload 0, .iload 3, .iconst 3, .iadd, .iaload, .invokeinterface 76 4, .aload 2, .aload 0, .iload 3, .iconst 1, .iadd, .iaload, .aload 0, .iload 3, .iconst 2, .iadd, .iaload, .aload 0, .iload 3, .iconst 3, .iadd, .iaload, .invokeinterface 129 4, .if_icmp .eq 1236, .iconst 0, .freturn]
def b184_542 : List Instr := [.aload 1, .aload 0, .iload 3, .iconst 1, .iadd, .iaload, .invokeinterface 77 2, .aload 2, .aload 0, .iload 3, .iconst 1, .iadd, .iaload, .invokeinterface 136 2, .if_icmp .eq 1236, .iconst 0, .freturn]
def b184_565 : List Instr := [.aload 1, .aload 0, .iload 3, .iconst 1, .iadd, .iaload, .aload 0, .iload 3, .iconst 2, .iadd, .iaload, .invokeinterface 78 3, .aload 2, .aload 0, .iload 3, .iconst 1, .iadd, .iaload, .aload 0, .iload 3, .iconst 2, .iadd, .iaload, .invokeinterface 164 3, .if_icmp .eq 1236, .iconst 0, .freturn]
def b184_598 : List Instr := [.aload 1, .aload 0, .iload 3, .iconst 1, .iadd, .iaload, .aload 0, .iload 3, .iconst 2, .iadd, .iaload, .aload 0, .iload 3, .iconst 3, .iadd, .iaload, .invokeinterface 79 4, .aload 2, .aload 0, .iload 3, .iconst 1, .iadd, .iaload, .aload 0, .iload 3, .iconst 2, .iadd, .iaload, .aload 0, .iload 3, .iconst 3, .iadd, .iaload, .invokeinterface 144 4, .if_icmp .eq 1236, .iconst 0, .freturn]
def b184_641 : List Instr := [.aload 1, .aload 0, .iload 3, .iconst 1, .iadd, .iaload, .aload 0, .iload 3, .iconst 2, .iadd, .iaload, .invokeinterface 80 3, .aload 2, .aload 0, .iload 3, .iconst 1, .iadd, .iaload, .aload 0, .iload 3, .iconst 2, .iadd, .iaload, .invokeinterface 145 3, .if_icmp .eq 1236, .iconst 0, .freturn]
def b184_674 : List Instr := [.aload 1, .aload 0, .iload 3, .iconst 1, .iadd, .iaload, .aload 0, .iload 3, .iconst 2, .iadd, .iaload, .aload 0, .iload 3, .iconst 3, .iadd, .iaload, .invokeinterface 81 4, .aload 2, .aload 0, .iload 3, .iconst 1, .iadd, .iaload, .aload 0, .iload 3, .iconst 2, .iadd, .iaload, .aload 0, .iload 3, .iconst 3, .iadd, .iaload, .invokeinterface 147 4, .if_icmp .eq 1236, .iconst 0, .freturn]
def b184_717 : List Instr := [.aload 1, .aload 0, .iload 3, .iconst 1, .iadd, .iaload, .aload 0, .iload 3, .iconst 2, .iadd, .iaload, .invokeinterface 82 3, .aload 2, .aload 0, .iload 3, .iconst 1, .iadd, .iaload, .aload 0, .iload 3, .iconst 2, .iadd, .iaload, .invokeinterface 148 3, .if_icmp .eq 1236, .iconst 0, .freturn]
def b184_750 : List Instr := [.aload 1, .aload 0, .iload 3, .iconst 1, .iadd, .iaload, .aload 0, .iload 3, .iconst 2, .iadd, .iaload, .invokeinterface 83 3, .aload 2, .aload 0, .iload 3, .iconst 1, .iadd, .iaload, .aload 0, .iload 3, .iconst 2, .iadd, .iaload, .invokeinterface 149 3, .lcmp, .ifCond .eq 1236, .iconst 0, .freturn]
def b184_784 : List Instr := [.aload 1, .aload 0, .iload 3, .iconst 1, .iadd, .iaload, .aload 0, .iload 3, .iconst 2, .iadd, .iaload, .invokeinterface 84 3, .aload 2, .aload 0, .iload 3, .iconst 1, .iadd, .iaload, .aload 0, .iload 3, .iconst 2, .iadd, .iaload, .invokeinterface 150 3, .if_icmp .eq 1236, .iconst 0, .freturn]
def b184_817 : List Instr := [.aload 1, .aload 0, .iload 3, .iconst 1, .iadd, .iaload, .aload 0, .iload 3, .iconst 2, .iadd, .iaload, .aload 0, .iload 3, .iconst 3, .iadd, .iaload, .invokeinterface 85 4, .aload 2, .aload 0, .iload 3, .iconst 1, .iadd, .iaload, .aload 0, .iload 3, .iconst 2, .iadd, .iaload, .aload 0, .iload 3, .iconst 3, .iadd, .iaload, .invokeinterface 160 4, .if_icmp .eq 1236, .iconst 0, .freturn]
def b184_860 : List Instr := [.aload 1, .aload 0, .iload 3, .iconst 1, .iadd, .iaload, .aload 0, .iload 3, .iconst 2, .iadd, .iaload, .aload 0, .iload 3, .iconst 3, .iadd, .iaload, .invokeinterface 86 4, .aload 2, .aload 0, .iload 3, .iconst 1, .iadd, .iaload, .aload 0, .iload 3, .iconst 2, .iadd, .iaload, .aload 0, .iload 3, .iconst 3, .iadd, .iaload, .invokeinterface 161 4, .if_icmp .eq 1236, .iconst 0, .freturn]
def b184_903 : List Instr := [.aload 1, .aload 0, .iload 3, .iconst 1, .iadd, .iaload, .aload 0, .iload 3, .iconst 2, .iadd, .iaload, .invokeinterface 87 3, .aload 2, .aload 0, .iload 3, .iconst 1, .iadd, .iaload, .aload 0, .iload 3, .iconst 2, .iadd, .iaload, .invokeinterface 167 3, .if_icmp .eq 1236, .iconst 0, .freturn]
def b184_936 : List Instr := [.aload 1, .aload 0, .iload 3, .iconst 1, .iadd, .iaload, .invokeinterface 88 2, .aload 2, .aload 0, .iload 3, .iconst 1, .iadd, .iaload, .invokeinterface 169 2, .if_icmp .eq 1236, .iconst 0, .freturn]
def b184_959 : List Instr := [.aload 1, .aload 0, .iload 3, .iconst 1, .iadd, .iaload, .aload 0, .iload 3, .iconst 2, .iadd, .iaload, .aload 0, .iload 3, .iconst 3, .iadd, .iaload, .invokeinterface 89 4, .aload 2, .aload 0, .iload 3, .iconst 1, .iadd, .iaload, .aload 0, .iload 3, .iconst 2, .iadd, .iaload, .aload 0, .iload 3, .iconst 3, .iadd, .iaload, .invokeinterface 170 4, .if_icmp .eq 1236, .iconst 0, .freturn]
def b184_1002 : List Instr := [.aload 1, .aload 0, .iload 3, .iconst 1, .iadd, .iaload, .invokeinterface 90 2, .aload 2, .aload 0, .iload 3, .iconst 1, .iadd, .iaload, .invokeinterface 173 2, .if_icmp .eq 1236, .iconst 0, .freturn]
def b184_1025 : List Instr := [.aload 1, .aload 0, .iload 3, .iconst 1, .iadd, .iaload, .aload 0, .iload 3, .iconst 2, .iadd, .iaload, .aload 0, .iload 3, .iconst 3, .iadd, .iaload, .invokeinterface 91 4, .aload 2, .aload 0, .iload 3, .iconst 1, .iadd, .iaload, .aload 0, .iload 3, .iconst 2, .iadd, .iaload, .aload 0, .iload 3, .iconst 3, .iadd, .iaload, .invokeinterface 174 4, .if_icmp .eq 1236, .iconst 0, .freturn]
def b184_1068 : List Instr := [.aload 1, .aload 0, .iload 3, .iconst 1, .iadd, .iaload, .aload 0, .iload 3, .iconst 2, .iadd, .iaload, .invokeinterface 92 3, .aload 2, .aload 0, .iload 3, .iconst 1, .iadd, .iaload, .aload 0, .iload 3, .iconst 2, .iadd, .iaload, .invokeinterface 177 3, .if_icmp .eq 1236, .iconst 0, .freturn]
def b184_1101 : List Instr := [.aload 1, .aload 0, .iload 3, .iconst 1, .iadd, .iaload, .aload 0, .iload 3, .iconst 2, .iadd, .iaload, .invokeinterface 93 3, .aload 2, .aload 0, .iload 3, .iconst 1, .iadd, .iaload, .aload 0, .iload 3, .iconst 2, .iadd, .iaload, .invokeinterface 178 3, .if_icmp .eq 1236, .iconst 0, .freturn]
def b184_1134 : List Instr := [.aload 1, .aload 0, .iload 3, .iconst 1, .iadd, .iaload, .aload 0, .iload 3, .iconst 2, .iadd, .iaload, .invokeinterface 94 3, .aload 2, .aload 0, .iload 3, .iconst 1, .iadd, .iaload, .aload 0, .iload 3, .iconst 2, .iadd, .iaload, .invokeinterface 179 3, .if_icmp .eq 1236, .iconst 0, .freturn]
def b184_1167 : List Instr := [.aload 1, .aload 0, .iload 3, .iconst 1, .iadd, .iaload, .invokeinterface 95 2, .aload 2, .aload 0, .iload 3, .iconst 1, .iadd, .iaload, .invokeinterface 181 2, .if_icmp .eq 1236, .iconst 0, .freturn]
def b184_1190 : List Instr := [.aload 1, .aload 0, .iload 3, .iconst 1, .iadd, .iaload, .invokeinterface 96 2, .aload 2, .aload 0, .iload 3, .iconst 1, .iadd, .iaload, .invokeinterface 182 2, .if_icmp .eq 1236, .iconst 0, .freturn]
def b184_1213 : List Instr := [.aload 1, .aload 0, .iload 3, .iconst 1, .iadd, .iaload, .invokeinterface 97 2, .aload 2, .aload 0, .iload 3, .iconst 1, .iadd, .iaload, .invokeinterface 183 2, .if_icmp .eq 1236, .iconst 0, .freturn]
def b184_1236 : List Instr := [.iinc 3 5, .goto 18]
def b184_1242 : List Instr := [.iconst 1, .freturn]
def bk184 : Nat → List Instr := fun pc => match pc with
  | 0 => b184_0
  | 18 => b184_18
  | 172 => b184_172
  | 235 => b184_235
  | 248 => b184_248
  | 261 => b184_261
  | 284 => b184_284
  | 327 => b184_327
  | 380 => b184_380
  | 433 => b184_433
  | 466 => b184_466
  | 499 => b184_499
  | 542 => b184_542
  | 565 => b184_565
  | 598 => b184_598
  | 641 => b184_641
  | 674 => b184_674
  | 717 => b184_717
  | 750 => b184_750
  | 784 => b184_784
  | 817 => b184_817
  | 860 => b184_860
  | 903 => b184_903
  | 936 => b184_936
  | 959 => b184_959
  | 1002 => b184_1002
  | 1025 => b184_1025
  | 1068 => b184_1068
  | 1101 => b184_1101
  | 1134 => b184_1134
  | 1167 => b184_1167
  | 1190 => b184_1190
  | 1213 => b184_1213
  | 1236 => b184_1236
  | 1242 => b184_1242
  | _ => []
/-- 185: java/lang/Integer.bitCount(I)I -/
def b185_0 : List Instr := [.iload 0, .iload 0, .iconst 1, .iushr, .iconst 1431655765, .iand, .isub, .istore 0, .iload 0, .iconst 858993459, .iand, .iload 0, .iconst 2, .iushr, .iconst 858993459, .iand, .iadd, .istore 0, .iload 0, .iload 0, .iconst 4, .iushr, .iadd, .iconst 252645135, .iand, .istore 0, .iload 0, .iload 0, .iconst 8, .iushr, .iadd, .istore 0, .iload 0, .iload 0, .iconst 16, .iushr, .iadd, .istore 0, .iload 0, .iconst 63, .iand, .ireturn]
def bk185 : Nat → List Instr := fun pc => match pc with
  | 0 => b185_0
  | _ => []
/-- 186: java/lang/Math.abs(I)I -/
def b186_0 : List Instr := [.iload 0, .ifCond .ge 9, .iload 0, .ineg, .goto 10]
def b186_9 : List Instr := [.iload 0, .jsr 10]
def b186_10 : List Instr := [.ireturn]
def bk186 : Nat → List Instr := fun pc => match pc with
  | 0 => b186_0
  | 9 => b186_9
  | 10 => b186_10
  | _ => []
/-- 187: java/lang/Math.max(II)I -/
def b187_0 : List Instr := [.iload 0, .iload 1, .if_icmp .lt 9, .iload 0, .goto 10]
def b187_9 : List Instr := [.iload 1, .jsr 10]
def b187_10 : List Instr := [.ireturn]
def bk187 : Nat → List Instr := fun pc => match pc with
  | 0 => b187_0
  | 9 => b187_9
  | 10 => b187_10
  | _ => []
/-- 188: java/lang/Math.min(II)I -/
def b188_0 : List Instr := [.iload 0, .iload 1, .if_icmp .gt 9, .iload 0, .goto 10]
def b188_9 : List Instr := [.iload 1, .jsr 10]
def b188_10 : List Instr := [.ireturn]
def bk188 : Nat → List Instr := fun pc => match pc with
  | 0 => b188_0
  | 9 => b188_9
  | 10 => b188_10
  | _ => []
def bq0 : Nat → Nat → List Instr := fun k => match k with
  | 0 => bk0
  | 1 => bk1
  | 2 => bk2
  | 3 => bk3
  | 4 => bk4
  | 5 => bk5
  | 6 => bk6
  | 7 => bk7
  | 8 => bk8
  | 9 => bk9
  | _ => fun _ => []
def bq1 : Nat → Nat → List Instr := fun k => match k with
  | 0 => bk10
  | 1 => bk11
  | 2 => bk12
  | 3 => bk13
  | 4 => bk14
  | 5 => bk15
  | 6 => bk16
  | 7 => bk17
  | 8 => bk18
  | 9 => bk19
  | _ => fun _ => []
def bq2 : Nat → Nat → List Instr := fun k => match k with
  | 0 => bk20
  | 1 => bk21
  | 2 => bk22
  | 3 => bk23
  | 4 => bk24
  | 5 => bk25
  | 6 => bk26
  | 7 => bk27
  | 8 => bk28
  | 9 => bk29
  | _ => fun _ => []
def bq3 : Nat → Nat → List Instr := fun k => match k with
  | 0 => bk30
  | 1 => bk31
  | 2 => bk32
  | 3 => bk33
  | 4 => bk34
  | 5 => bk35
  | 6 => bk36
  | 7 => bk37
  | 8 => bk38
  | 9 => bk39
  | _ => fun _ => []
def bq4 : Nat → Nat → List Instr := fun k => match k with
  | 0 => bk40
  | 1 => bk41
  | 2 => bk42
  | 3 => bk43
  | 4 => bk44
  | 5 => bk45
  | 6 => bk46
  | 7 => bk47
  | 8 => bk48
  | 9 => bk49
  | _ => fun _ => []
def bq5 : Nat → Nat → List Instr := fun k => match k with
  | 0 => bk50
  | 1 => bk51
  | 2 => bk52
  | 3 => bk53
  | 4 => bk54
  | 5 => bk55
  | 6 => bk56
  | 7 => bk57
  | 8 => bk58
  | 9 => bk59
  | _ => fun _ => []
def bq6 : Nat → Nat → List Instr := fun k => match k with
  | 0 => bk60
  | 1 => bk61
  | 2 => bk62
  | 3 => bk63
  | 4 => bk64
  | 5 => bk65
  | 6 => bk66
  | 7 => bk67
  | 8 => bk68
  | 9 => bk69
  | _ => fun _ => []
def bq7 : Nat → Nat → List Instr := fun k => match k with
  | 0 => bk70
  | 1 => bk71
  | 2 => bk72
  | 3 => bk73
  | 4 => bk74
  | 5 => bk75
  | 6 => bk76
  | 7 => bk77
  | 8 => bk78
  | 9 => bk79
  | _ => fun _ => []
def bq8 : Nat → Nat → List Instr := fun k => match k with
  | 0 => bk80
  | 1 => bk81
  | 2 => bk82
  | 3 => bk83
  | 4 => bk84
  | 5 => bk85
  | 6 => bk86
  | 7 => bk87
  | 8 => bk88
  | 9 => bk89
  | _ => fun _ => []
def bq9 : Nat → Nat → List Instr := fun k => match k with
  | 0 => bk90
  | 1 => bk91
  | 2 => bk92
  | 3 => bk93
  | 4 => bk94
  | 5 => bk95
  | 6 => bk96
  | 7 => bk97
  | 8 => bk98
  | 9 => bk99
  | _ => fun _ => []
def bq10 : Nat → Nat → List Instr := fun k => match k with
  | 0 => bk100
  | 1 => bk101
  | 2 => bk102
  | 3 => bk103
  | 4 => bk104
  | 5 => bk105
  | 6 => bk106
  | 7 => bk107
  | 8 => bk108
  | 9 => bk109
  | _ => fun _ => []
def bq11 : Nat → Nat → List Instr := fun k => match k with
  | 0 => bk110
  | 1 => bk111
  | 2 => bk112
  | 3 => bk113
  | 4 => bk114
  | 5 => bk115
  | 6 => bk116
  | 7 => bk117
  | 8 => bk118
  | 9 => bk119
  | _ => fun _ => []
def bq12 : Nat → Nat → List Instr := fun k => match k with
  | 0 => bk120
  | 1 => bk121
  | 2 => bk122
  | 3 => bk123
  | 4 => bk124
  | 5 => bk125
  | 6 => bk126
  | 7 => bk127
  | 8 => bk128
  | 9 => bk129
  | _ => fun _ => []
def bq13 : Nat → Nat → List Instr := fun k => match k with
  | 0 => bk130
  | 1 => bk131
  | 2 => bk132
  | 3 => bk133
  | 4 => bk134
  | 5 => bk135
  | 6 => bk136
  | 7 => bk137
  | 8 => bk138
  | 9 => bk139
  | _ => fun _ => []
def bq14 : Nat → Nat → List Instr := fun k => match k with
  | 0 => bk140
  | 1 => bk141
  | 2 => bk142
  | 3 => bk143
  | 4 => bk144
  | 5 => bk145
  | 6 => bk146
  | 7 => bk147
  | 8 => bk148
  | 9 => bk149
  | _ => fun _ => []
def bq15 : Nat → Nat → List Instr := fun k => match k with
  | 0 => bk150
  | 1 => bk151
  | 2 => bk152
  | 3 => bk153
  | 4 => bk154
  | 5 => bk155
  | 6 => bk156
  | 7 => bk157
  | 8 => bk158
  | 9 => bk159
  | _ => fun _ => []
def bq16 : Nat → Nat → List Instr := fun k => match k with
  | 0 => bk160
  | 1 => bk161
  | 2 => bk162
  | 3 => bk163
  | 4 => bk164
  | 5 => bk165
  | 6 => bk166
  | 7 => bk167
  | 8 => bk168
  | 9 => bk169
  | _ => fun _ => []
def bq17 : Nat → Nat → List Instr := fun k => match k with
  | 0 => bk170
  | 1 => bk171
  | 2 => bk172
  | 3 => bk173
  | 4 => bk174
  | 5 => bk175
  | 6 => bk176
  | 7 => bk177
  | 8 => bk178
  | 9 => bk179
  | _ => fun _ => []
def bq18 : Nat → Nat → List Instr := fun k => match k with
  | 0 => bk180
  | 1 => bk181
  | 2 => bk182
  | 3 => bk183
  | 4 => bk184
  | 5 => bk185
  | 6 => bk186
  | 7 => bk187
  | 8 => bk188
  | _ => fun _ => []
def blkT : Nat → Nat → Nat → List Instr := fun t => match t with
  | 0 => bq0
  | 1 => bq1
  | 2 => bq2
  | 3 => bq3
  | 4 => bq4
  | 5 => bq5
  | 6 => bq6
  | 7 => bq7
  | 8 => bq8
  | 9 => bq9
  | 10 => bq10
  | 11 => bq11
  | 12 => bq12
  | 13 => bq13
  | 14 => bq14
  | 15 => bq15
  | 16 => bq16
  | 17 => bq17
  | 18 => bq18
  | _ => fun _ _ => []
def blk (k pc : Nat) : List Instr := blkT (k / 10) (k % 10) pc
theorem B0_0 : blk 0 0 = b0_0 := rfl
theorem B1_0 : blk 1 0 = b1_0 := rfl
theorem B1_10 : blk 1 10 = b1_10 := rfl
theorem B1_21 : blk 1 21 = b1_21 := rfl
theorem B1_85 : blk 1 85 = b1_85 := rfl
theorem B1_91 : blk 1 91 = b1_91 := rfl
theorem B1_97 : blk 1 97 = b1_97 := rfl
theorem B2_0 : blk 2 0 = b2_0 := rfl
theorem B2_50 : blk 2 50 = b2_50 := rfl
theorem B2_66 : blk 2 66 = b2_66 := rfl
theorem B2_71 : blk 2 71 = b2_71 := rfl
theorem B2_103 : blk 2 103 = b2_103 := rfl
theorem B3_0 : blk 3 0 = b3_0 := rfl
theorem B4_0 : blk 4 0 = b4_0 := rfl
theorem B4_21 : blk 4 21 = b4_21 := rfl
theorem B4_71 : blk 4 71 = b4_71 := rfl
theorem B4_75 : blk 4 75 = b4_75 := rfl
theorem B4_76 : blk 4 76 = b4_76 := rfl
theorem B4_106 : blk 4 106 = b4_106 := rfl
theorem B4_122 : blk 4 122 = b4_122 := rfl
theorem B5_0 : blk 5 0 = b5_0 := rfl
theorem B6_0 : blk 6 0 = b6_0 := rfl
theorem B7_0 : blk 7 0 = b7_0 := rfl
theorem B8_0 : blk 8 0 = b8_0 := rfl
theorem B9_0 : blk 9 0 = b9_0 := rfl
theorem B9_4 : blk 9 4 = b9_4 := rfl
theorem B9_17 : blk 9 17 = b9_17 := rfl
theorem B9_60 : blk 9 60 = b9_60 := rfl
theorem B9_63 : blk 9 63 = b9_63 := rfl
theorem B9_69 : blk 9 69 = b9_69 := rfl
theorem B9_75 : blk 9 75 = b9_75 := rfl
theorem B10_0 : blk 10 0 = b10_0 := rfl
theorem B11_0 : blk 11 0 = b11_0 := rfl
theorem B11_13 : blk 11 13 = b11_13 := rfl
theorem B11_16 : blk 11 16 = b11_16 := rfl
theorem B11_44 : blk 11 44 = b11_44 := rfl
theorem B11_63 : blk 11 63 = b11_63 := rfl
theorem B11_69 : blk 11 69 = b11_69 := rfl
theorem B12_0 : blk 12 0 = b12_0 := rfl
theorem B12_14 : blk 12 14 = b12_14 := rfl
theorem B12_59 : blk 12 59 = b12_59 := rfl
theorem B12_65 : blk 12 65 = b12_65 := rfl
theorem B12_73 : blk 12 73 = b12_73 := rfl
theorem B13_0 : blk 13 0 = b13_0 := rfl
theorem B13_2 : blk 13 2 = b13_2 := rfl
theorem B13_26 : blk 13 26 = b13_26 := rfl
theorem B13_36 : blk 13 36 = b13_36 := rfl
theorem B13_60 : blk 13 60 = b13_60 := rfl
theorem B13_94 : blk 13 94 = b13_94 := rfl
theorem B13_95 : blk 13 95 = b13_95 := rfl
theorem B14_0 : blk 14 0 = b14_0 := rfl
theorem B14_135 : blk 14 135 = b14_135 := rfl
theorem B14_137 : blk 14 137 = b14_137 := rfl
theorem B14_140 : blk 14 140 = b14_140 := rfl
theorem B14_208 : blk 14 208 = b14_208 := rfl
theorem B14_214 : blk 14 214 = b14_214 := rfl
theorem B15_0 : blk 15 0 = b15_0 := rfl
theorem B16_0 : blk 16 0 = b16_0 := rfl
theorem B16_16 : blk 16 16 = b16_16 := rfl
theorem B16_17 : blk 16 17 = b16_17 := rfl
theorem B17_0 : blk 17 0 = b17_0 := rfl
theorem B17_2 : blk 17 2 = b17_2 := rfl
theorem B17_32 : blk 17 32 = b17_32 := rfl
theorem B17_38 : blk 17 38 = b17_38 := rfl
theorem B18_0 : blk 18 0 = b18_0 := rfl
theorem B18_10 : blk 18 10 = b18_10 := rfl
theorem B18_48 : blk 18 48 = b18_48 := rfl
theorem B19_0 : blk 19 0 = b19_0 := rfl
theorem B19_6 : blk 19 6 = b19_6 := rfl
theorem B19_50 : blk 19 50 = b19_50 := rfl
theorem B20_0 : blk 20 0 = b20_0 := rfl
theorem B20_2 : blk 20 2 = b20_2 := rfl
theorem B20_46 : blk 20 46 = b20_46 := rfl
theorem B21_0 : blk 21 0 = b21_0 := rfl
theorem B21_2 : blk 21 2 = b21_2 := rfl
theorem B21_31 : blk 21 31 = b21_31 := rfl
theorem B22_0 : blk 22 0 = b22_0 := rfl
theorem B22_2 : blk 22 2 = b22_2 := rfl
theorem B22_45 : blk 22 45 = b22_45 := rfl
theorem B23_0 : blk 23 0 = b23_0 := rfl
theorem B23_2 : blk 23 2 = b23_2 := rfl
theorem B23_34 : blk 23 34 = b23_34 := rfl
theorem B23_40 : blk 23 40 = b23_40 := rfl
theorem B24_0 : blk 24 0 = b24_0 := rfl
theorem B24_2 : blk 24 2 = b24_2 := rfl
theorem B24_36 : blk 24 36 = b24_36 := rfl
theorem B25_0 : blk 25 0 = b25_0 := rfl
theorem B25_16 : blk 25 16 = b25_16 := rfl
theorem B25_17 : blk 25 17 = b25_17 := rfl
theorem B26_0 : blk 26 0 = b26_0 := rfl
theorem B26_10 : blk 26 10 = b26_10 := rfl
theorem B26_16 : blk 26 16 = b26_16 := rfl
theorem B27_0 : blk 27 0 = b27_0 := rfl
theorem B28_0 : blk 28 0 = b28_0 := rfl
theorem B29_0 : blk 29 0 = b29_0 := rfl
theorem B29_24 : blk 29 24 = b29_24 := rfl
theorem B29_25 : blk 29 25 = b29_25 := rfl
theorem B30_0 : blk 30 0 = b30_0 := rfl
theorem B30_43 : blk 30 43 = b30_43 := rfl
theorem B30_44 : blk 30 44 = b30_44 := rfl
theorem B31_0 : blk 31 0 = b31_0 := rfl
theorem B31_10 : blk 31 10 = b31_10 := rfl
theorem B31_12 : blk 31 12 = b31_12 := rfl
theorem B31_30 : blk 31 30 = b31_30 := rfl
theorem B31_34 : blk 31 34 = b31_34 := rfl
theorem B31_62 : blk 31 62 = b31_62 := rfl
theorem B31_68 : blk 31 68 = b31_68 := rfl
theorem B31_74 : blk 31 74 = b31_74 := rfl
theorem B32_0 : blk 32 0 = b32_0 := rfl
theorem B32_36 : blk 32 36 = b32_36 := rfl
theorem B32_37 : blk 32 37 = b32_37 := rfl
theorem B33_0 : blk 33 0 = b33_0 := rfl
theorem B33_74 : blk 33 74 = b33_74 := rfl
theorem B33_78 : blk 33 78 = b33_78 := rfl
theorem B33_79 : blk 33 79 = b33_79 := rfl
theorem B33_80 : blk 33 80 = b33_80 := rfl
theorem B33_112 : blk 33 112 = b33_112 := rfl
theorem B33_113 : blk 33 113 = b33_113 := rfl
theorem B34_0 : blk 34 0 = b34_0 := rfl
theorem B35_0 : blk 35 0 = b35_0 := rfl
theorem B35_5 : blk 35 5 = b35_5 := rfl
theorem B35_24 : blk 35 24 = b35_24 := rfl
theorem B35_25 : blk 35 25 = b35_25 := rfl
theorem B35_67 : blk 35 67 = b35_67 := rfl
theorem B36_0 : blk 36 0 = b36_0 := rfl
theorem B37_0 : blk 37 0 = b37_0 := rfl
theorem B37_4 : blk 37 4 = b37_4 := rfl
theorem B37_62 : blk 37 62 = b37_62 := rfl
theorem B38_0 : blk 38 0 = b38_0 := rfl
theorem B39_0 : blk 39 0 = b39_0 := rfl
theorem B39_22 : blk 39 22 = b39_22 := rfl
theorem B39_30 : blk 39 30 = b39_30 := rfl
theorem B39_31 : blk 39 31 = b39_31 := rfl
theorem B39_42 : blk 39 42 = b39_42 := rfl
theorem B39_43 : blk 39 43 = b39_43 := rfl
theorem B39_50 : blk 39 50 = b39_50 := rfl
theorem B39_51 : blk 39 51 = b39_51 := rfl
theorem B40_0 : blk 40 0 = b40_0 := rfl
theorem B40_4 : blk 40 4 = b40_4 := rfl
theorem B40_24 : blk 40 24 = b40_24 := rfl
theorem B40_30 : blk 40 30 = b40_30 := rfl
theorem B41_0 : blk 41 0 = b41_0 := rfl
theorem B41_24 : blk 41 24 = b41_24 := rfl
theorem B41_76 : blk 41 76 = b41_76 := rfl
theorem B42_0 : blk 42 0 = b42_0 := rfl
theorem B42_5 : blk 42 5 = b42_5 := rfl
theorem B42_108 : blk 42 108 = b42_108 := rfl
theorem B42_117 : blk 42 117 = b42_117 := rfl
theorem B42_118 : blk 42 118 = b42_118 := rfl
theorem B42_127 : blk 42 127 = b42_127 := rfl
theorem B42_128 : blk 42 128 = b42_128 := rfl
theorem B42_140 : blk 42 140 = b42_140 := rfl
theorem B42_141 : blk 42 141 = b42_141 := rfl
theorem B42_152 : blk 42 152 = b42_152 := rfl
theorem B42_153 : blk 42 153 = b42_153 := rfl
theorem B42_164 : blk 42 164 = b42_164 := rfl
theorem B42_165 : blk 42 165 = b42_165 := rfl
theorem B42_166 : blk 42 166 = b42_166 := rfl
theorem B42_172 : blk 42 172 = b42_172 := rfl
theorem B42_180 : blk 42 180 = b42_180 := rfl
theorem B42_181 : blk 42 181 = b42_181 := rfl
theorem B43_0 : blk 43 0 = b43_0 := rfl
theorem B43_2 : blk 43 2 = b43_2 := rfl
theorem B43_22 : blk 43 22 = b43_22 := rfl
theorem B43_28 : blk 43 28 = b43_28 := rfl
theorem B44_0 : blk 44 0 = b44_0 := rfl
theorem B44_4 : blk 44 4 = b44_4 := rfl
theorem B44_57 : blk 44 57 = b44_57 := rfl
theorem B44_59 : blk 44 59 = b44_59 := rfl
theorem B44_65 : blk 44 65 = b44_65 := rfl
theorem B44_75 : blk 44 75 = b44_75 := rfl
theorem B44_116 : blk 44 116 = b44_116 := rfl
theorem B44_122 : blk 44 122 = b44_122 := rfl
theorem B45_0 : blk 45 0 = b45_0 := rfl
theorem B45_8 : blk 45 8 = b45_8 := rfl
theorem B45_55 : blk 45 55 = b45_55 := rfl
theorem B45_57 : blk 45 57 = b45_57 := rfl
theorem B45_63 : blk 45 63 = b45_63 := rfl
theorem B46_0 : blk 46 0 = b46_0 := rfl
theorem B46_5 : blk 46 5 = b46_5 := rfl
theorem B46_48 : blk 46 48 = b46_48 := rfl
theorem B46_50 : blk 46 50 = b46_50 := rfl
theorem B46_59 : blk 46 59 = b46_59 := rfl
theorem B47_0 : blk 47 0 = b47_0 := rfl
theorem B47_23 : blk 47 23 = b47_23 := rfl
theorem B47_25 : blk 47 25 = b47_25 := rfl
theorem B47_58 : blk 47 58 = b47_58 := rfl
theorem B47_59 : blk 47 59 = b47_59 := rfl
theorem B48_0 : blk 48 0 = b48_0 := rfl
theorem B48_5 : blk 48 5 = b48_5 := rfl
theorem B48_28 : blk 48 28 = b48_28 := rfl
theorem B48_34 : blk 48 34 = b48_34 := rfl
theorem B49_0 : blk 49 0 = b49_0 := rfl
theorem B49_2 : blk 49 2 = b49_2 := rfl
theorem B49_27 : blk 49 27 = b49_27 := rfl
theorem B49_33 : blk 49 33 = b49_33 := rfl
theorem B50_0 : blk 50 0 = b50_0 := rfl
theorem B51_0 : blk 51 0 = b51_0 := rfl
theorem B52_0 : blk 52 0 = b52_0 := rfl
theorem B53_0 : blk 53 0 = b53_0 := rfl
theorem B53_10 : blk 53 10 = b53_10 := rfl
theorem B53_38 : blk 53 38 = b53_38 := rfl
theorem B53_40 : blk 53 40 = b53_40 := rfl
theorem B53_52 : blk 53 52 = b53_52 := rfl
theorem B53_85 : blk 53 85 = b53_85 := rfl
theorem B53_99 : blk 53 99 = b53_99 := rfl
theorem B53_123 : blk 53 123 = b53_123 := rfl
theorem B53_129 : blk 53 129 = b53_129 := rfl
theorem B53_135 : blk 53 135 = b53_135 := rfl
theorem B54_0 : blk 54 0 = b54_0 := rfl
theorem B54_18 : blk 54 18 = b54_18 := rfl
theorem B54_19 : blk 54 19 = b54_19 := rfl
theorem B55_0 : blk 55 0 = b55_0 := rfl
theorem B55_4 : blk 55 4 = b55_4 := rfl
theorem B55_30 : blk 55 30 = b55_30 := rfl
theorem B56_0 : blk 56 0 = b56_0 := rfl
theorem B56_4 : blk 56 4 = b56_4 := rfl
theorem B56_30 : blk 56 30 = b56_30 := rfl
theorem B56_36 : blk 56 36 = b56_36 := rfl
theorem B57_0 : blk 57 0 = b57_0 := rfl
theorem B57_13 : blk 57 13 = b57_13 := rfl
theorem B57_40 : blk 57 40 = b57_40 := rfl
theorem B57_46 : blk 57 46 = b57_46 := rfl
theorem B58_0 : blk 58 0 = b58_0 := rfl
theorem B58_7 : blk 58 7 = b58_7 := rfl
theorem B58_36 : blk 58 36 = b58_36 := rfl
theorem B59_0 : blk 59 0 = b59_0 := rfl
theorem B60_0 : blk 60 0 = b60_0 := rfl
theorem B60_5 : blk 60 5 = b60_5 := rfl
theorem B60_47 : blk 60 47 = b60_47 := rfl
theorem B61_0 : blk 61 0 = b61_0 := rfl
theorem B61_2 : blk 61 2 = b61_2 := rfl
theorem B61_20 : blk 61 20 = b61_20 := rfl
theorem B61_26 : blk 61 26 = b61_26 := rfl
theorem B61_48 : blk 61 48 = b61_48 := rfl
theorem B61_49 : blk 61 49 = b61_49 := rfl
theorem B61_59 : blk 61 59 = b61_59 := rfl
theorem B61_63 : blk 61 63 = b61_63 := rfl
theorem B62_0 : blk 62 0 = b62_0 := rfl
theorem B62_20 : blk 62 20 = b62_20 := rfl
theorem B62_22 : blk 62 22 = b62_22 := rfl
theorem B62_41 : blk 62 41 = b62_41 := rfl
theorem B62_42 : blk 62 42 = b62_42 := rfl
theorem B63_0 : blk 63 0 = b63_0 := rfl
theorem B63_2 : blk 63 2 = b63_2 := rfl
theorem B63_43 : blk 63 43 = b63_43 := rfl
theorem B63_49 : blk 63 49 = b63_49 := rfl
theorem B64_0 : blk 64 0 = b64_0 := rfl
theorem B64_17 : blk 64 17 = b64_17 := rfl
theorem B64_39 : blk 64 39 = b64_39 := rfl
theorem B64_41 : blk 64 41 = b64_41 := rfl
theorem B65_0 : blk 65 0 = b65_0 := rfl
theorem B65_12 : blk 65 12 = b65_12 := rfl
theorem B65_62 : blk 65 62 = b65_62 := rfl
theorem B66_0 : blk 66 0 = b66_0 := rfl
theorem B66_25 : blk 66 25 = b66_25 := rfl
theorem B66_49 : blk 66 49 = b66_49 := rfl
theorem B66_60 : blk 66 60 = b66_60 := rfl
theorem B66_85 : blk 66 85 = b66_85 := rfl
theorem B67_0 : blk 67 0 = b67_0 := rfl
theorem B67_11 : blk 67 11 = b67_11 := rfl
theorem B67_14 : blk 67 14 = b67_14 := rfl
theorem B67_31 : blk 67 31 = b67_31 := rfl
theorem B68_0 : blk 68 0 = b68_0 := rfl
theorem B69_0 : blk 69 0 = b69_0 := rfl
theorem B70_0 : blk 70 0 = b70_0 := rfl
theorem B70_9 : blk 70 9 = b70_9 := rfl
theorem B70_24 : blk 70 24 = b70_24 := rfl
theorem B71_0 : blk 71 0 = b71_0 := rfl
theorem B71_11 : blk 71 11 = b71_11 := rfl
theorem B71_23 : blk 71 23 = b71_23 := rfl
theorem B71_41 : blk 71 41 = b71_41 := rfl
theorem B71_52 : blk 71 52 = b71_52 := rfl
theorem B72_0 : blk 72 0 = b72_0 := rfl
theorem B72_11 : blk 72 11 = b72_11 := rfl
theorem B72_23 : blk 72 23 = b72_23 := rfl
theorem B72_45 : blk 72 45 = b72_45 := rfl
theorem B72_55 : blk 72 55 = b72_55 := rfl
theorem B73_0 : blk 73 0 = b73_0 := rfl
theorem B73_24 : blk 73 24 = b73_24 := rfl
theorem B73_26 : blk 73 26 = b73_26 := rfl
theorem B73_38 : blk 73 38 = b73_38 := rfl
theorem B73_58 : blk 73 58 = b73_58 := rfl
theorem B73_75 : blk 73 75 = b73_75 := rfl
theorem B74_0 : blk 74 0 = b74_0 := rfl
theorem B74_11 : blk 74 11 = b74_11 := rfl
theorem B74_27 : blk 74 27 = b74_27 := rfl
theorem B75_0 : blk 75 0 = b75_0 := rfl
theorem B75_9 : blk 75 9 = b75_9 := rfl
theorem B75_19 : blk 75 19 = b75_19 := rfl
theorem B75_22 : blk 75 22 = b75_22 := rfl
theorem B75_36 : blk 75 36 = b75_36 := rfl
theorem B75_38 : blk 75 38 = b75_38 := rfl
theorem B75_60 : blk 75 60 = b75_60 := rfl
theorem B76_0 : blk 76 0 = b76_0 := rfl
theorem B76_9 : blk 76 9 = b76_9 := rfl
theorem B76_33 : blk 76 33 = b76_33 := rfl
theorem B76_36 : blk 76 36 = b76_36 := rfl
theorem B76_53 : blk 76 53 = b76_53 := rfl
theorem B77_0 : blk 77 0 = b77_0 := rfl
theorem B77_9 : blk 77 9 = b77_9 := rfl
theorem B77_25 : blk 77 25 = b77_25 := rfl
theorem B77_26 : blk 77 26 = b77_26 := rfl
theorem B78_0 : blk 78 0 = b78_0 := rfl
theorem B78_9 : blk 78 9 = b78_9 := rfl
theorem B78_19 : blk 78 19 = b78_19 := rfl
theorem B78_22 : blk 78 22 = b78_22 := rfl
theorem B78_37 : blk 78 37 = b78_37 := rfl
theorem B78_56 : blk 78 56 = b78_56 := rfl
theorem B78_67 : blk 78 67 = b78_67 := rfl
theorem B79_0 : blk 79 0 = b79_0 := rfl
theorem B79_9 : blk 79 9 = b79_9 := rfl
theorem B79_20 : blk 79 20 = b79_20 := rfl
theorem B79_35 : blk 79 35 = b79_35 := rfl
theorem B80_0 : blk 80 0 = b80_0 := rfl
theorem B80_11 : blk 80 11 = b80_11 := rfl
theorem B80_26 : blk 80 26 = b80_26 := rfl
theorem B81_0 : blk 81 0 = b81_0 := rfl
theorem B81_9 : blk 81 9 = b81_9 := rfl
theorem B81_20 : blk 81 20 = b81_20 := rfl
theorem B81_35 : blk 81 35 = b81_35 := rfl
theorem B82_0 : blk 82 0 = b82_0 := rfl
theorem B82_9 : blk 82 9 = b82_9 := rfl
theorem B82_18 : blk 82 18 = b82_18 := rfl
theorem B82_21 : blk 82 21 = b82_21 := rfl
theorem B82_36 : blk 82 36 = b82_36 := rfl
theorem B83_0 : blk 83 0 = b83_0 := rfl
theorem B83_11 : blk 83 11 = b83_11 := rfl
theorem B83_22 : blk 83 22 = b83_22 := rfl
theorem B83_26 : blk 83 26 = b83_26 := rfl
theorem B83_42 : blk 83 42 = b83_42 := rfl
theorem B84_0 : blk 84 0 = b84_0 := rfl
theorem B84_14 : blk 84 14 = b84_14 := rfl
theorem B84_16 : blk 84 16 = b84_16 := rfl
theorem B84_31 : blk 84 31 = b84_31 := rfl
theorem B85_0 : blk 85 0 = b85_0 := rfl
theorem B85_15 : blk 85 15 = b85_15 := rfl
theorem B85_17 : blk 85 17 = b85_17 := rfl
theorem B85_32 : blk 85 32 = b85_32 := rfl
theorem B85_50 : blk 85 50 = b85_50 := rfl
theorem B85_51 : blk 85 51 = b85_51 := rfl
theorem B86_0 : blk 86 0 = b86_0 := rfl
theorem B86_15 : blk 86 15 = b86_15 := rfl
theorem B86_17 : blk 86 17 = b86_17 := rfl
theorem B86_32 : blk 86 32 = b86_32 := rfl
theorem B86_50 : blk 86 50 = b86_50 := rfl
theorem B86_51 : blk 86 51 = b86_51 := rfl
theorem B87_0 : blk 87 0 = b87_0 := rfl
theorem B87_9 : blk 87 9 = b87_9 := rfl
theorem B87_24 : blk 87 24 = b87_24 := rfl
theorem B88_0 : blk 88 0 = b88_0 := rfl
theorem B88_9 : blk 88 9 = b88_9 := rfl
theorem B88_24 : blk 88 24 = b88_24 := rfl
theorem B89_0 : blk 89 0 = b89_0 := rfl
theorem B89_12 : blk 89 12 = b89_12 := rfl
theorem B89_38 : blk 89 38 = b89_38 := rfl
theorem B89_41 : blk 89 41 = b89_41 := rfl
theorem B90_0 : blk 90 0 = b90_0 := rfl
theorem B90_9 : blk 90 9 = b90_9 := rfl
theorem B90_24 : blk 90 24 = b90_24 := rfl
theorem B91_0 : blk 91 0 = b91_0 := rfl
theorem B91_12 : blk 91 12 = b91_12 := rfl
theorem B91_27 : blk 91 27 = b91_27 := rfl
theorem B92_0 : blk 92 0 = b92_0 := rfl
theorem B92_13 : blk 92 13 = b92_13 := rfl
theorem B92_59 : blk 92 59 = b92_59 := rfl
theorem B92_63 : blk 92 63 = b92_63 := rfl
theorem B92_64 : blk 92 64 = b92_64 := rfl
theorem B92_75 : blk 92 75 = b92_75 := rfl
theorem B92_76 : blk 92 76 = b92_76 := rfl
theorem B93_0 : blk 93 0 = b93_0 := rfl
theorem B93_13 : blk 93 13 = b93_13 := rfl
theorem B93_40 : blk 93 40 = b93_40 := rfl
theorem B93_41 : blk 93 41 = b93_41 := rfl
theorem B94_0 : blk 94 0 = b94_0 := rfl
theorem B94_13 : blk 94 13 = b94_13 := rfl
theorem B94_19 : blk 94 19 = b94_19 := rfl
theorem B94_29 : blk 94 29 = b94_29 := rfl
theorem B94_81 : blk 94 81 = b94_81 := rfl
theorem B94_87 : blk 94 87 = b94_87 := rfl
theorem B94_93 : blk 94 93 = b94_93 := rfl
theorem B95_0 : blk 95 0 = b95_0 := rfl
theorem B95_9 : blk 95 9 = b95_9 := rfl
theorem B95_11 : blk 95 11 = b95_11 := rfl
theorem B95_13 : blk 95 13 = b95_13 := rfl
theorem B95_43 : blk 95 43 = b95_43 := rfl
theorem B96_0 : blk 96 0 = b96_0 := rfl
theorem B96_9 : blk 96 9 = b96_9 := rfl
theorem B96_11 : blk 96 11 = b96_11 := rfl
theorem B96_23 : blk 96 23 = b96_23 := rfl
theorem B96_25 : blk 96 25 = b96_25 := rfl
theorem B96_55 : blk 96 55 = b96_55 := rfl
theorem B97_0 : blk 97 0 = b97_0 := rfl
theorem B97_28 : blk 97 28 = b97_28 := rfl
theorem B97_36 : blk 97 36 = b97_36 := rfl
theorem B97_41 : blk 97 41 = b97_41 := rfl
theorem B97_46 : blk 97 46 = b97_46 := rfl
theorem B98_0 : blk 98 0 = b98_0 := rfl
theorem B98_13 : blk 98 13 = b98_13 := rfl
theorem B98_14 : blk 98 14 = b98_14 := rfl
theorem B99_0 : blk 99 0 = b99_0 := rfl
theorem B99_24 : blk 99 24 = b99_24 := rfl
theorem B99_25 : blk 99 25 = b99_25 := rfl
theorem B100_0 : blk 100 0 = b100_0 := rfl
theorem B100_32 : blk 100 32 = b100_32 := rfl
theorem B100_36 : blk 100 36 = b100_36 := rfl
theorem B100_37 : blk 100 37 = b100_37 := rfl
theorem B101_0 : blk 101 0 = b101_0 := rfl
theorem B101_24 : blk 101 24 = b101_24 := rfl
theorem B101_25 : blk 101 25 = b101_25 := rfl
theorem B102_0 : blk 102 0 = b102_0 := rfl
theorem B102_22 : blk 102 22 = b102_22 := rfl
theorem B102_23 : blk 102 23 = b102_23 := rfl
theorem B103_0 : blk 103 0 = b103_0 := rfl
theorem B103_14 : blk 103 14 = b103_14 := rfl
theorem B103_16 : blk 103 16 = b103_16 := rfl
theorem B103_44 : blk 103 44 = b103_44 := rfl
theorem B103_46 : blk 103 46 = b103_46 := rfl
theorem B104_0 : blk 104 0 = b104_0 := rfl
theorem B104_36 : blk 104 36 = b104_36 := rfl
theorem B104_44 : blk 104 44 = b104_44 := rfl
theorem B104_55 : blk 104 55 = b104_55 := rfl
theorem B104_56 : blk 104 56 = b104_56 := rfl
theorem B104_57 : blk 104 57 = b104_57 := rfl
theorem B104_62 : blk 104 62 = b104_62 := rfl
theorem B104_67 : blk 104 67 = b104_67 := rfl
theorem B104_73 : blk 104 73 = b104_73 := rfl
theorem B105_0 : blk 105 0 = b105_0 := rfl
theorem B105_22 : blk 105 22 = b105_22 := rfl
theorem B105_50 : blk 105 50 = b105_50 := rfl
theorem B105_57 : blk 105 57 = b105_57 := rfl
theorem B106_0 : blk 106 0 = b106_0 := rfl
theorem B106_15 : blk 106 15 = b106_15 := rfl
theorem B106_26 : blk 106 26 = b106_26 := rfl
theorem B106_75 : blk 106 75 = b106_75 := rfl
theorem B106_81 : blk 106 81 = b106_81 := rfl
theorem B106_87 : blk 106 87 = b106_87 := rfl
theorem B106_93 : blk 106 93 = b106_93 := rfl
theorem B106_102 : blk 106 102 = b106_102 := rfl
theorem B106_107 : blk 106 107 = b106_107 := rfl
theorem B107_0 : blk 107 0 = b107_0 := rfl
theorem B107_8 : blk 107 8 = b107_8 := rfl
theorem B107_23 : blk 107 23 = b107_23 := rfl
theorem B107_68 : blk 107 68 = b107_68 := rfl
theorem B107_80 : blk 107 80 = b107_80 := rfl
theorem B107_86 : blk 107 86 = b107_86 := rfl
theorem B107_92 : blk 107 92 = b107_92 := rfl
theorem B108_0 : blk 108 0 = b108_0 := rfl
theorem B108_4 : blk 108 4 = b108_4 := rfl
theorem B108_27 : blk 108 27 = b108_27 := rfl
theorem B109_0 : blk 109 0 = b109_0 := rfl
theorem B109_4 : blk 109 4 = b109_4 := rfl
theorem B109_24 : blk 109 24 = b109_24 := rfl
theorem B109_30 : blk 109 30 = b109_30 := rfl
theorem B110_0 : blk 110 0 = b110_0 := rfl
theorem B110_3 : blk 110 3 = b110_3 := rfl
theorem B110_22 : blk 110 22 = b110_22 := rfl
theorem B110_28 : blk 110 28 = b110_28 := rfl
theorem B111_0 : blk 111 0 = b111_0 := rfl
theorem B112_0 : blk 112 0 = b112_0 := rfl
theorem B112_17 : blk 112 17 = b112_17 := rfl
theorem B112_18 : blk 112 18 = b112_18 := rfl
theorem B113_0 : blk 113 0 = b113_0 := rfl
theorem B113_15 : blk 113 15 = b113_15 := rfl
theorem B113_29 : blk 113 29 = b113_29 := rfl
theorem B113_34 : blk 113 34 = b113_34 := rfl
theorem B113_76 : blk 113 76 = b113_76 := rfl
theorem B114_0 : blk 114 0 = b114_0 := rfl
theorem B115_0 : blk 115 0 = b115_0 := rfl
theorem B115_21 : blk 115 21 = b115_21 := rfl
theorem B115_42 : blk 115 42 = b115_42 := rfl
theorem B115_43 : blk 115 43 = b115_43 := rfl
theorem B116_0 : blk 116 0 = b116_0 := rfl
theorem B116_5 : blk 116 5 = b116_5 := rfl
theorem B116_40 : blk 116 40 = b116_40 := rfl
theorem B116_44 : blk 116 44 = b116_44 := rfl
theorem B116_45 : blk 116 45 = b116_45 := rfl
theorem B116_52 : blk 116 52 = b116_52 := rfl
theorem B117_0 : blk 117 0 = b117_0 := rfl
theorem B117_7 : blk 117 7 = b117_7 := rfl
theorem B117_64 : blk 117 64 = b117_64 := rfl
theorem B117_66 : blk 117 66 = b117_66 := rfl
theorem B117_113 : blk 117 113 = b117_113 := rfl
theorem B117_119 : blk 117 119 = b117_119 := rfl
theorem B117_137 : blk 117 137 = b117_137 := rfl
theorem B117_144 : blk 117 144 = b117_144 := rfl
theorem B117_146 : blk 117 146 = b117_146 := rfl
theorem B118_0 : blk 118 0 = b118_0 := rfl
theorem B119_0 : blk 119 0 = b119_0 := rfl
theorem B120_0 : blk 120 0 = b120_0 := rfl
theorem B120_29 : blk 120 29 = b120_29 := rfl
theorem B120_30 : blk 120 30 = b120_30 := rfl
theorem B121_0 : blk 121 0 = b121_0 := rfl
theorem B121_28 : blk 121 28 = b121_28 := rfl
theorem B121_29 : blk 121 29 = b121_29 := rfl
theorem B122_0 : blk 122 0 = b122_0 := rfl
theorem B122_9 : blk 122 9 = b122_9 := rfl
theorem B122_21 : blk 122 21 = b122_21 := rfl
theorem B122_33 : blk 122 33 = b122_33 := rfl
theorem B122_81 : blk 122 81 = b122_81 := rfl
theorem B123_0 : blk 123 0 = b123_0 := rfl
theorem B123_11 : blk 123 11 = b123_11 := rfl
theorem B123_29 : blk 123 29 = b123_29 := rfl
theorem B123_48 : blk 123 48 = b123_48 := rfl
theorem B123_50 : blk 123 50 = b123_50 := rfl
theorem B124_0 : blk 124 0 = b124_0 := rfl
theorem B124_3 : blk 124 3 = b124_3 := rfl
theorem B124_49 : blk 124 49 = b124_49 := rfl
theorem B124_55 : blk 124 55 = b124_55 := rfl
theorem B125_0 : blk 125 0 = b125_0 := rfl
theorem B125_11 : blk 125 11 = b125_11 := rfl
theorem B125_23 : blk 125 23 = b125_23 := rfl
theorem B125_49 : blk 125 49 = b125_49 := rfl
theorem B125_84 : blk 125 84 = b125_84 := rfl
theorem B125_85 : blk 125 85 = b125_85 := rfl
theorem B126_0 : blk 126 0 = b126_0 := rfl
theorem B126_23 : blk 126 23 = b126_23 := rfl
theorem B126_25 : blk 126 25 = b126_25 := rfl
theorem B126_37 : blk 126 37 = b126_37 := rfl
theorem B126_53 : blk 126 53 = b126_53 := rfl
theorem B126_67 : blk 126 67 = b126_67 := rfl
theorem B126_75 : blk 126 75 = b126_75 := rfl
theorem B126_139 : blk 126 139 = b126_139 := rfl
theorem B127_0 : blk 127 0 = b127_0 := rfl
theorem B127_11 : blk 127 11 = b127_11 := rfl
theorem B127_24 : blk 127 24 = b127_24 := rfl
theorem B127_36 : blk 127 36 = b127_36 := rfl
theorem B127_100 : blk 127 100 = b127_100 := rfl
theorem B128_0 : blk 128 0 = b128_0 := rfl
theorem B128_9 : blk 128 9 = b128_9 := rfl
theorem B128_24 : blk 128 24 = b128_24 := rfl
theorem B128_29 : blk 128 29 = b128_29 := rfl
theorem B128_66 : blk 128 66 = b128_66 := rfl
theorem B128_72 : blk 128 72 = b128_72 := rfl
theorem B128_76 : blk 128 76 = b128_76 := rfl
theorem B128_121 : blk 128 121 = b128_121 := rfl
theorem B128_127 : blk 128 127 = b128_127 := rfl
theorem B129_0 : blk 129 0 = b129_0 := rfl
theorem B129_9 : blk 129 9 = b129_9 := rfl
theorem B129_37 : blk 129 37 = b129_37 := rfl
theorem B129_40 : blk 129 40 = b129_40 := rfl
theorem B129_46 : blk 129 46 = b129_46 := rfl
theorem B129_89 : blk 129 89 = b129_89 := rfl
theorem B129_95 : blk 129 95 = b129_95 := rfl
theorem B129_101 : blk 129 101 = b129_101 := rfl
theorem B129_145 : blk 129 145 = b129_145 := rfl
theorem B130_0 : blk 130 0 = b130_0 := rfl
theorem B131_0 : blk 131 0 = b131_0 := rfl
theorem B132_0 : blk 132 0 = b132_0 := rfl
theorem B132_64 : blk 132 64 = b132_64 := rfl
theorem B132_65 : blk 132 65 = b132_65 := rfl
theorem B133_0 : blk 133 0 = b133_0 := rfl
theorem B133_66 : blk 133 66 = b133_66 := rfl
theorem B133_82 : blk 133 82 = b133_82 := rfl
theorem B133_98 : blk 133 98 = b133_98 := rfl
theorem B133_114 : blk 133 114 = b133_114 := rfl
theorem B133_118 : blk 133 118 = b133_118 := rfl
theorem B133_119 : blk 133 119 = b133_119 := rfl
theorem B133_142 : blk 133 142 = b133_142 := rfl
theorem B133_146 : blk 133 146 = b133_146 := rfl
theorem B133_147 : blk 133 147 = b133_147 := rfl
theorem B134_0 : blk 134 0 = b134_0 := rfl
theorem B134_8 : blk 134 8 = b134_8 := rfl
theorem B134_16 : blk 134 16 = b134_16 := rfl
theorem B134_17 : blk 134 17 = b134_17 := rfl
theorem B135_0 : blk 135 0 = b135_0 := rfl
theorem B135_16 : blk 135 16 = b135_16 := rfl
theorem B135_17 : blk 135 17 = b135_17 := rfl
theorem B135_21 : blk 135 21 = b135_21 := rfl
theorem B135_145 : blk 135 145 = b135_145 := rfl
theorem B135_146 : blk 135 146 = b135_146 := rfl
theorem B135_157 : blk 135 157 = b135_157 := rfl
theorem B135_158 : blk 135 158 = b135_158 := rfl
theorem B135_165 : blk 135 165 = b135_165 := rfl
theorem B135_213 : blk 135 213 = b135_213 := rfl
theorem B135_217 : blk 135 217 = b135_217 := rfl
theorem B135_218 : blk 135 218 = b135_218 := rfl
theorem B135_225 : blk 135 225 = b135_225 := rfl
theorem B135_231 : blk 135 231 = b135_231 := rfl
theorem B136_0 : blk 136 0 = b136_0 := rfl
theorem B136_9 : blk 136 9 = b136_9 := rfl
theorem B136_21 : blk 136 21 = b136_21 := rfl
theorem B136_22 : blk 136 22 = b136_22 := rfl
theorem B137_0 : blk 137 0 = b137_0 := rfl
theorem B137_8 : blk 137 8 = b137_8 := rfl
theorem B137_51 : blk 137 51 = b137_51 := rfl
theorem B138_0 : blk 138 0 = b138_0 := rfl
theorem B139_0 : blk 139 0 = b139_0 := rfl
theorem B139_9 : blk 139 9 = b139_9 := rfl
theorem B139_10 : blk 139 10 = b139_10 := rfl
theorem B140_0 : blk 140 0 = b140_0 := rfl
theorem B140_10 : blk 140 10 = b140_10 := rfl
theorem B140_27 : blk 140 27 = b140_27 := rfl
theorem B141_0 : blk 141 0 = b141_0 := rfl
theorem B141_4 : blk 141 4 = b141_4 := rfl
theorem B141_74 : blk 141 74 = b141_74 := rfl
theorem B142_0 : blk 142 0 = b142_0 := rfl
theorem B142_40 : blk 142 40 = b142_40 := rfl
theorem B142_41 : blk 142 41 = b142_41 := rfl
theorem B142_50 : blk 142 50 = b142_50 := rfl
theorem B142_58 : blk 142 58 = b142_58 := rfl
theorem B142_59 : blk 142 59 = b142_59 := rfl
theorem B143_0 : blk 143 0 = b143_0 := rfl
theorem B143_6 : blk 143 6 = b143_6 := rfl
theorem B143_152 : blk 143 152 = b143_152 := rfl
theorem B143_164 : blk 143 164 = b143_164 := rfl
theorem B143_165 : blk 143 165 = b143_165 := rfl
theorem B143_177 : blk 143 177 = b143_177 := rfl
theorem B143_178 : blk 143 178 = b143_178 := rfl
theorem B143_185 : blk 143 185 = b143_185 := rfl
theorem B143_186 : blk 143 186 = b143_186 := rfl
theorem B143_211 : blk 143 211 = b143_211 := rfl
theorem B143_218 : blk 143 218 = b143_218 := rfl
theorem B143_227 : blk 143 227 = b143_227 := rfl
theorem B143_231 : blk 143 231 = b143_231 := rfl
theorem B143_233 : blk 143 233 = b143_233 := rfl
theorem B143_241 : blk 143 241 = b143_241 := rfl
theorem B143_250 : blk 143 250 = b143_250 := rfl
theorem B143_251 : blk 143 251 = b143_251 := rfl
theorem B144_0 : blk 144 0 = b144_0 := rfl
theorem B144_9 : blk 144 9 = b144_9 := rfl
theorem B144_20 : blk 144 20 = b144_20 := rfl
theorem B144_41 : blk 144 41 = b144_41 := rfl
theorem B144_43 : blk 144 43 = b144_43 := rfl
theorem B145_0 : blk 145 0 = b145_0 := rfl
theorem B145_11 : blk 145 11 = b145_11 := rfl
theorem B145_28 : blk 145 28 = b145_28 := rfl
theorem B145_30 : blk 145 30 = b145_30 := rfl
theorem B146_0 : blk 146 0 = b146_0 := rfl
theorem B146_9 : blk 146 9 = b146_9 := rfl
theorem B146_63 : blk 146 63 = b146_63 := rfl
theorem B146_68 : blk 146 68 = b146_68 := rfl
theorem B146_70 : blk 146 70 = b146_70 := rfl
theorem B146_84 : blk 146 84 = b146_84 := rfl
theorem B146_89 : blk 146 89 = b146_89 := rfl
theorem B146_91 : blk 146 91 = b146_91 := rfl
theorem B146_99 : blk 146 99 = b146_99 := rfl
theorem B147_0 : blk 147 0 = b147_0 := rfl
theorem B147_9 : blk 147 9 = b147_9 := rfl
theorem B147_45 : blk 147 45 = b147_45 := rfl
theorem B147_48 : blk 147 48 = b147_48 := rfl
theorem B147_62 : blk 147 62 = b147_62 := rfl
theorem B147_69 : blk 147 69 = b147_69 := rfl
theorem B148_0 : blk 148 0 = b148_0 := rfl
theorem B148_9 : blk 148 9 = b148_9 := rfl
theorem B148_24 : blk 148 24 = b148_24 := rfl
theorem B148_36 : blk 148 36 = b148_36 := rfl
theorem B148_48 : blk 148 48 = b148_48 := rfl
theorem B148_59 : blk 148 59 = b148_59 := rfl
theorem B148_108 : blk 148 108 = b148_108 := rfl
theorem B148_114 : blk 148 114 = b148_114 := rfl
theorem B148_120 : blk 148 120 = b148_120 := rfl
theorem B148_128 : blk 148 128 = b148_128 := rfl
theorem B148_138 : blk 148 138 = b148_138 := rfl
theorem B148_143 : blk 148 143 = b148_143 := rfl
theorem B149_0 : blk 149 0 = b149_0 := rfl
theorem B149_11 : blk 149 11 = b149_11 := rfl
theorem B149_27 : blk 149 27 = b149_27 := rfl
theorem B149_71 : blk 149 71 = b149_71 := rfl
theorem B149_74 : blk 149 74 = b149_74 := rfl
theorem B150_0 : blk 150 0 = b150_0 := rfl
theorem B150_14 : blk 150 14 = b150_14 := rfl
theorem B150_16 : blk 150 16 = b150_16 := rfl
theorem B150_30 : blk 150 30 = b150_30 := rfl
theorem B150_94 : blk 150 94 = b150_94 := rfl
theorem B150_99 : blk 150 99 = b150_99 := rfl
theorem B150_100 : blk 150 100 = b150_100 := rfl
theorem B150_135 : blk 150 135 = b150_135 := rfl
theorem B150_139 : blk 150 139 = b150_139 := rfl
theorem B150_140 : blk 150 140 = b150_140 := rfl
theorem B150_148 : blk 150 148 = b150_148 := rfl
theorem B150_156 : blk 150 156 = b150_156 := rfl
theorem B150_165 : blk 150 165 = b150_165 := rfl
theorem B150_220 : blk 150 220 = b150_220 := rfl
theorem B150_221 : blk 150 221 = b150_221 := rfl
theorem B150_226 : blk 150 226 = b150_226 := rfl
theorem B150_237 : blk 150 237 = b150_237 := rfl
theorem B150_288 : blk 150 288 = b150_288 := rfl
theorem B151_0 : blk 151 0 = b151_0 := rfl
theorem B151_17 : blk 151 17 = b151_17 := rfl
theorem B151_21 : blk 151 21 = b151_21 := rfl
theorem B151_28 : blk 151 28 = b151_28 := rfl
theorem B151_54 : blk 151 54 = b151_54 := rfl
theorem B151_62 : blk 151 62 = b151_62 := rfl
theorem B151_89 : blk 151 89 = b151_89 := rfl
theorem B151_90 : blk 151 90 = b151_90 := rfl
theorem B151_102 : blk 151 102 = b151_102 := rfl
theorem B151_107 : blk 151 107 = b151_107 := rfl
theorem B151_108 : blk 151 108 = b151_108 := rfl
theorem B151_115 : blk 151 115 = b151_115 := rfl
theorem B152_0 : blk 152 0 = b152_0 := rfl
theorem B153_0 : blk 153 0 = b153_0 := rfl
theorem B153_9 : blk 153 9 = b153_9 := rfl
theorem B153_10 : blk 153 10 = b153_10 := rfl
theorem B153_15 : blk 153 15 = b153_15 := rfl
theorem B153_76 : blk 153 76 = b153_76 := rfl
theorem B154_0 : blk 154 0 = b154_0 := rfl
theorem B154_67 : blk 154 67 = b154_67 := rfl
theorem B154_68 : blk 154 68 = b154_68 := rfl
theorem B154_115 : blk 154 115 = b154_115 := rfl
theorem B154_117 : blk 154 117 = b154_117 := rfl
theorem B154_132 : blk 154 132 = b154_132 := rfl
theorem B154_137 : blk 154 137 = b154_137 := rfl
theorem B154_140 : blk 154 140 = b154_140 := rfl
theorem B155_0 : blk 155 0 = b155_0 := rfl
theorem B156_0 : blk 156 0 = b156_0 := rfl
theorem B156_36 : blk 156 36 = b156_36 := rfl
theorem B156_77 : blk 156 77 = b156_77 := rfl
theorem B156_83 : blk 156 83 = b156_83 := rfl
theorem B156_248 : blk 156 248 = b156_248 := rfl
theorem B156_249 : blk 156 249 = b156_249 := rfl
theorem B156_257 : blk 156 257 = b156_257 := rfl
theorem B157_0 : blk 157 0 = b157_0 := rfl
theorem B157_33 : blk 157 33 = b157_33 := rfl
theorem B157_35 : blk 157 35 = b157_35 := rfl
theorem B157_57 : blk 157 57 = b157_57 := rfl
theorem B157_117 : blk 157 117 = b157_117 := rfl
theorem B157_121 : blk 157 121 = b157_121 := rfl
theorem B157_122 : blk 157 122 = b157_122 := rfl
theorem B157_148 : blk 157 148 = b157_148 := rfl
theorem B157_152 : blk 157 152 = b157_152 := rfl
theorem B157_171 : blk 157 171 = b157_171 := rfl
theorem B157_172 : blk 157 172 = b157_172 := rfl
theorem B157_180 : blk 157 180 = b157_180 := rfl
theorem B157_233 : blk 157 233 = b157_233 := rfl
theorem B157_234 : blk 157 234 = b157_234 := rfl
theorem B158_0 : blk 158 0 = b158_0 := rfl
theorem B158_11 : blk 158 11 = b158_11 := rfl
theorem B158_15 : blk 158 15 = b158_15 := rfl
theorem B158_16 : blk 158 16 = b158_16 := rfl
theorem B158_28 : blk 158 28 = b158_28 := rfl
theorem B158_29 : blk 158 29 = b158_29 := rfl
theorem B158_42 : blk 158 42 = b158_42 := rfl
theorem B158_43 : blk 158 43 = b158_43 := rfl
theorem B158_128 : blk 158 128 = b158_128 := rfl
theorem B158_129 : blk 158 129 = b158_129 := rfl
theorem B159_0 : blk 159 0 = b159_0 := rfl
theorem B159_22 : blk 159 22 = b159_22 := rfl
theorem B159_23 : blk 159 23 = b159_23 := rfl
theorem B160_0 : blk 160 0 = b160_0 := rfl
theorem B160_15 : blk 160 15 = b160_15 := rfl
theorem B160_17 : blk 160 17 = b160_17 := rfl
theorem B160_30 : blk 160 30 = b160_30 := rfl
theorem B160_44 : blk 160 44 = b160_44 := rfl
theorem B160_45 : blk 160 45 = b160_45 := rfl
theorem B161_0 : blk 161 0 = b161_0 := rfl
theorem B161_15 : blk 161 15 = b161_15 := rfl
theorem B161_17 : blk 161 17 = b161_17 := rfl
theorem B161_30 : blk 161 30 = b161_30 := rfl
theorem B161_44 : blk 161 44 = b161_44 := rfl
theorem B161_45 : blk 161 45 = b161_45 := rfl
theorem B162_0 : blk 162 0 = b162_0 := rfl
theorem B162_4 : blk 162 4 = b162_4 := rfl
theorem B162_61 : blk 162 61 = b162_61 := rfl
theorem B162_62 : blk 162 62 = b162_62 := rfl
theorem B162_89 : blk 162 89 = b162_89 := rfl
theorem B162_90 : blk 162 90 = b162_90 := rfl
theorem B162_98 : blk 162 98 = b162_98 := rfl
theorem B163_0 : blk 163 0 = b163_0 := rfl
theorem B163_9 : blk 163 9 = b163_9 := rfl
theorem B163_17 : blk 163 17 = b163_17 := rfl
theorem B163_43 : blk 163 43 = b163_43 := rfl
theorem B163_47 : blk 163 47 = b163_47 := rfl
theorem B163_48 : blk 163 48 = b163_48 := rfl
theorem B163_59 : blk 163 59 = b163_59 := rfl
theorem B163_77 : blk 163 77 = b163_77 := rfl
theorem B163_88 : blk 163 88 = b163_88 := rfl
theorem B163_89 : blk 163 89 = b163_89 := rfl
theorem B163_100 : blk 163 100 = b163_100 := rfl
theorem B163_102 : blk 163 102 = b163_102 := rfl
theorem B163_110 : blk 163 110 = b163_110 := rfl
theorem B163_193 : blk 163 193 = b163_193 := rfl
theorem B163_195 : blk 163 195 = b163_195 := rfl
theorem B163_203 : blk 163 203 = b163_203 := rfl
theorem B163_224 : blk 163 224 = b163_224 := rfl
theorem B163_228 : blk 163 228 = b163_228 := rfl
theorem B163_229 : blk 163 229 = b163_229 := rfl
theorem B163_253 : blk 163 253 = b163_253 := rfl
theorem B163_254 : blk 163 254 = b163_254 := rfl
theorem B163_282 : blk 163 282 = b163_282 := rfl
theorem B163_284 : blk 163 284 = b163_284 := rfl
theorem B163_291 : blk 163 291 = b163_291 := rfl
theorem B163_297 : blk 163 297 = b163_297 := rfl
theorem B164_0 : blk 164 0 = b164_0 := rfl
theorem B164_9 : blk 164 9 = b164_9 := rfl
theorem B164_24 : blk 164 24 = b164_24 := rfl
theorem B164_35 : blk 164 35 = b164_35 := rfl
theorem B164_40 : blk 164 40 = b164_40 := rfl
theorem B164_68 : blk 164 68 = b164_68 := rfl
theorem B164_69 : blk 164 69 = b164_69 := rfl
theorem B164_76 : blk 164 76 = b164_76 := rfl
theorem B164_77 : blk 164 77 = b164_77 := rfl
theorem B164_85 : blk 164 85 = b164_85 := rfl
theorem B164_148 : blk 164 148 = b164_148 := rfl
theorem B164_157 : blk 164 157 = b164_157 := rfl
theorem B164_169 : blk 164 169 = b164_169 := rfl
theorem B164_170 : blk 164 170 = b164_170 := rfl
theorem B164_171 : blk 164 171 = b164_171 := rfl
theorem B164_177 : blk 164 177 = b164_177 := rfl
theorem B164_196 : blk 164 196 = b164_196 := rfl
theorem B164_199 : blk 164 199 = b164_199 := rfl
theorem B164_213 : blk 164 213 = b164_213 := rfl
theorem B164_227 : blk 164 227 = b164_227 := rfl
theorem B165_0 : blk 165 0 = b165_0 := rfl
theorem B165_33 : blk 165 33 = b165_33 := rfl
theorem B165_61 : blk 165 61 = b165_61 := rfl
theorem B165_112 : blk 165 112 = b165_112 := rfl
theorem B165_113 : blk 165 113 = b165_113 := rfl
theorem B165_120 : blk 165 120 = b165_120 := rfl
theorem B165_152 : blk 165 152 = b165_152 := rfl
theorem B165_155 : blk 165 155 = b165_155 := rfl
theorem B165_189 : blk 165 189 = b165_189 := rfl
theorem B165_190 : blk 165 190 = b165_190 := rfl
theorem B165_197 : blk 165 197 = b165_197 := rfl
theorem B165_203 : blk 165 203 = b165_203 := rfl
theorem B166_0 : blk 166 0 = b166_0 := rfl
theorem B166_40 : blk 166 40 = b166_40 := rfl
theorem B166_58 : blk 166 58 = b166_58 := rfl
theorem B166_62 : blk 166 62 = b166_62 := rfl
theorem B166_63 : blk 166 63 = b166_63 := rfl
theorem B167_0 : blk 167 0 = b167_0 := rfl
theorem B167_9 : blk 167 9 = b167_9 := rfl
theorem B167_20 : blk 167 20 = b167_20 := rfl
theorem B167_48 : blk 167 48 = b167_48 := rfl
theorem B167_50 : blk 167 50 = b167_50 := rfl
theorem B168_0 : blk 168 0 = b168_0 := rfl
theorem B168_15 : blk 168 15 = b168_15 := rfl
theorem B168_22 : blk 168 22 = b168_22 := rfl
theorem B169_0 : blk 169 0 = b169_0 := rfl
theorem B169_9 : blk 169 9 = b169_9 := rfl
theorem B169_20 : blk 169 20 = b169_20 := rfl
theorem B169_35 : blk 169 35 = b169_35 := rfl
theorem B169_70 : blk 169 70 = b169_70 := rfl
theorem B169_72 : blk 169 72 = b169_72 := rfl
theorem B169_85 : blk 169 85 = b169_85 := rfl
theorem B169_86 : blk 169 86 = b169_86 := rfl
theorem B169_98 : blk 169 98 = b169_98 := rfl
theorem B169_99 : blk 169 99 = b169_99 := rfl
theorem B169_106 : blk 169 106 = b169_106 := rfl
theorem B170_0 : blk 170 0 = b170_0 := rfl
theorem B170_12 : blk 170 12 = b170_12 := rfl
theorem B170_40 : blk 170 40 = b170_40 := rfl
theorem B170_42 : blk 170 42 = b170_42 := rfl
theorem B171_0 : blk 171 0 = b171_0 := rfl
theorem B171_2 : blk 171 2 = b171_2 := rfl
theorem B171_23 : blk 171 23 = b171_23 := rfl
theorem B171_61 : blk 171 61 = b171_61 := rfl
theorem B171_62 : blk 171 62 = b171_62 := rfl
theorem B171_70 : blk 171 70 = b171_70 := rfl
theorem B171_76 : blk 171 76 = b171_76 := rfl
theorem B172_0 : blk 172 0 = b172_0 := rfl
theorem B172_4 : blk 172 4 = b172_4 := rfl
theorem B172_24 : blk 172 24 = b172_24 := rfl
theorem B173_0 : blk 173 0 = b173_0 := rfl
theorem B173_9 : blk 173 9 = b173_9 := rfl
theorem B173_20 : blk 173 20 = b173_20 := rfl
theorem B173_41 : blk 173 41 = b173_41 := rfl
theorem B173_52 : blk 173 52 = b173_52 := rfl
theorem B173_86 : blk 173 86 = b173_86 := rfl
theorem B173_87 : blk 173 87 = b173_87 := rfl
theorem B173_96 : blk 173 96 = b173_96 := rfl
theorem B173_119 : blk 173 119 = b173_119 := rfl
theorem B173_120 : blk 173 120 = b173_120 := rfl
theorem B173_127 : blk 173 127 = b173_127 := rfl
theorem B174_0 : blk 174 0 = b174_0 := rfl
theorem B174_12 : blk 174 12 = b174_12 := rfl
theorem B174_23 : blk 174 23 = b174_23 := rfl
theorem B174_36 : blk 174 36 = b174_36 := rfl
theorem B174_52 : blk 174 52 = b174_52 := rfl
theorem B174_86 : blk 174 86 = b174_86 := rfl
theorem B174_87 : blk 174 87 = b174_87 := rfl
theorem B174_96 : blk 174 96 = b174_96 := rfl
theorem B174_106 : blk 174 106 = b174_106 := rfl
theorem B175_0 : blk 175 0 = b175_0 := rfl
theorem B175_3 : blk 175 3 = b175_3 := rfl
theorem B175_35 : blk 175 35 = b175_35 := rfl
theorem B175_427 : blk 175 427 = b175_427 := rfl
theorem B175_428 : blk 175 428 = b175_428 := rfl
theorem B175_483 : blk 175 483 = b175_483 := rfl
theorem B175_484 : blk 175 484 = b175_484 := rfl
theorem B175_489 : blk 175 489 = b175_489 := rfl
theorem B175_652 : blk 175 652 = b175_652 := rfl
theorem B175_653 : blk 175 653 = b175_653 := rfl
theorem B175_661 : blk 175 661 = b175_661 := rfl
theorem B176_0 : blk 176 0 = b176_0 := rfl
theorem B176_6 : blk 176 6 = b176_6 := rfl
theorem B176_63 : blk 176 63 = b176_63 := rfl
theorem B176_67 : blk 176 67 = b176_67 := rfl
theorem B176_68 : blk 176 68 = b176_68 := rfl
theorem B176_76 : blk 176 76 = b176_76 := rfl
theorem B177_0 : blk 177 0 = b177_0 := rfl
theorem B177_14 : blk 177 14 = b177_14 := rfl
theorem B177_16 : blk 177 16 = b177_16 := rfl
theorem B177_32 : blk 177 32 = b177_32 := rfl
theorem B177_35 : blk 177 35 = b177_35 := rfl
theorem B177_55 : blk 177 55 = b177_55 := rfl
theorem B177_59 : blk 177 59 = b177_59 := rfl
theorem B177_60 : blk 177 60 = b177_60 := rfl
theorem B178_0 : blk 178 0 = b178_0 := rfl
theorem B178_14 : blk 178 14 = b178_14 := rfl
theorem B178_16 : blk 178 16 = b178_16 := rfl
theorem B178_32 : blk 178 32 = b178_32 := rfl
theorem B178_35 : blk 178 35 = b178_35 := rfl
theorem B178_49 : blk 178 49 = b178_49 := rfl
theorem B178_50 : blk 178 50 = b178_50 := rfl
theorem B179_0 : blk 179 0 = b179_0 := rfl
theorem B179_14 : blk 179 14 = b179_14 := rfl
theorem B179_16 : blk 179 16 = b179_16 := rfl
theorem B179_32 : blk 179 32 = b179_32 := rfl
theorem B179_35 : blk 179 35 = b179_35 := rfl
theorem B179_40 : blk 179 40 = b179_40 := rfl
theorem B179_97 : blk 179 97 = b179_97 := rfl
theorem B179_98 : blk 179 98 = b179_98 := rfl
theorem B179_106 : blk 179 106 = b179_106 := rfl
theorem B180_0 : blk 180 0 = b180_0 := rfl
theorem B181_0 : blk 181 0 = b181_0 := rfl
theorem B181_12 : blk 181 12 = b181_12 := rfl
theorem B181_21 : blk 181 21 = b181_21 := rfl
theorem B181_67 : blk 181 67 = b181_67 := rfl
theorem B181_69 : blk 181 69 = b181_69 := rfl
theorem B181_96 : blk 181 96 = b181_96 := rfl
theorem B182_0 : blk 182 0 = b182_0 := rfl
theorem B182_12 : blk 182 12 = b182_12 := rfl
theorem B182_24 : blk 182 24 = b182_24 := rfl
theorem B182_26 : blk 182 26 = b182_26 := rfl
theorem B182_72 : blk 182 72 = b182_72 := rfl
theorem B182_74 : blk 182 74 = b182_74 := rfl
theorem B182_101 : blk 182 101 = b182_101 := rfl
theorem B183_0 : blk 183 0 = b183_0 := rfl
theorem B183_4 : blk 183 4 = b183_4 := rfl
theorem B183_22 : blk 183 22 = b183_22 := rfl
theorem B183_23 : blk 183 23 = b183_23 := rfl
theorem B183_31 : blk 183 31 = b183_31 := rfl
theorem B183_42 : blk 183 42 = b183_42 := rfl
theorem B183_54 : blk 183 54 = b183_54 := rfl
theorem B183_63 : blk 183 63 = b183_63 := rfl
theorem B183_65 : blk 183 65 = b183_65 := rfl
theorem B184_0 : blk 184 0 = b184_0 := rfl
theorem B184_18 : blk 184 18 = b184_18 := rfl
theorem B184_172 : blk 184 172 = b184_172 := rfl
theorem B184_235 : blk 184 235 = b184_235 := rfl
theorem B184_248 : blk 184 248 = b184_248 := rfl
theorem B184_261 : blk 184 261 = b184_261 := rfl
theorem B184_284 : blk 184 284 = b184_284 := rfl
theorem B184_327 : blk 184 327 = b184_327 := rfl
theorem B184_380 : blk 184 380 = b184_380 := rfl
theorem B184_433 : blk 184 433 = b184_433 := rfl
theorem B184_466 : blk 184 466 = b184_466 := rfl
theorem B184_499 : blk 184 499 = b184_499 := rfl
theorem B184_542 : blk 184 542 = b184_542 := rfl
theorem B184_565 : blk 184 565 = b184_565 := rfl
theorem B184_598 : blk 184 598 = b184_598 := rfl
theorem B184_641 : blk 184 641 = b184_641 := rfl
theorem B184_674 : blk 184 674 = b184_674 := rfl
theorem B184_717 : blk 184 717 = b184_717 := rfl
theorem B184_750 : blk 184 750 = b184_750 := rfl
theorem B184_784 : blk 184 784 = b184_784 := rfl
theorem B184_817 : blk 184 817 = b184_817 := rfl
theorem B184_860 : blk 184 860 = b184_860 := rfl
theorem B184_903 : blk 184 903 = b184_903 := rfl
theorem B184_936 : blk 184 936 = b184_936 := rfl
theorem B184_959 : blk 184 959 = b184_959 := rfl
theorem B184_1002 : blk 184 1002 = b184_1002 := rfl
theorem B184_1025 : blk 184 1025 = b184_1025 := rfl
theorem B184_1068 : blk 184 1068 = b184_1068 := rfl
theorem B184_1101 : blk 184 1101 = b184_1101 := rfl
theorem B184_1134 : blk 184 1134 = b184_1134 := rfl
theorem B184_1167 : blk 184 1167 = b184_1167 := rfl
theorem B184_1190 : blk 184 1190 = b184_1190 := rfl
theorem B184_1213 : blk 184 1213 = b184_1213 := rfl
theorem B184_1236 : blk 184 1236 = b184_1236 := rfl
theorem B184_1242 : blk 184 1242 = b184_1242 := rfl
theorem B185_0 : blk 185 0 = b185_0 := rfl
theorem B186_0 : blk 186 0 = b186_0 := rfl
theorem B186_9 : blk 186 9 = b186_9 := rfl
theorem B186_10 : blk 186 10 = b186_10 := rfl
theorem B187_0 : blk 187 0 = b187_0 := rfl
theorem B187_9 : blk 187 9 = b187_9 := rfl
theorem B187_10 : blk 187 10 = b187_10 := rfl
theorem B188_0 : blk 188 0 = b188_0 := rfl
theorem B188_9 : blk 188 9 = b188_9 := rfl
theorem B188_10 : blk 188 10 = b188_10 := rfl
def mlT : List Nat := [1, 5, 6, 4, 9, 3, 1, 1, 1, 5, 1, 5, 6, 4, 15, 1, 2, 4, 3, 5, 3, 2, 3, 4, 4, 2, 2, 4, 4, 4, 5, 3, 4, 7, 1, 6, 4, 4, 1, 3, 4, 7, 11, 2, 5, 5, 6, 3, 5, 4, 3, 5, 1, 5, 3, 3, 4, 4, 5, 1, 5, 2, 2, 3, 1, 3, 2, 4, 2, 1, 2, 4, 6, 5, 3, 4, 4, 2, 3, 4, 3, 4, 3, 7, 3, 4, 4, 3, 2, 4, 2, 4, 5, 4, 7, 3, 3, 2, 1, 2, 2, 3, 4, 3, 2, 3, 7, 7, 3, 3, 3, 1, 6, 5, 2, 1, 5, 3, 1, 1, 3, 2, 3, 4, 5, 6, 6, 4, 6, 5, 3, 4, 4, 10, 1, 10, 2, 6, 2, 1, 5, 6, 4, 23, 4, 3, 8, 4, 8, 3, 9, 7, 3, 4, 9, 4, 16, 12, 8, 4, 4, 4, 6, 12, 5, 7, 6, 4, 5, 6, 4, 4, 3, 7, 8, 20, 6, 3, 3, 5, 1, 3, 3, 4, 4, 1, 1, 2, 2]
def clT : List Nat := [0, 0, 0, 0, 0, 0, 0, 0, 0, 0, 1, 1, 1, 1, 1, 2, 2, 2, 2, 2, 2, 2, 2, 2, 2, 2, 2, 2, 2, 2, 2, 2, 2, 2, 2, 2, 2, 2, 2, 2, 2, 2, 2, 2, 2, 2, 2, 2, 2, 2, 2, 2, 3, 3, 3, 3, 3, 3, 3, 4, 4, 4, 4, 4, 4, 4, 5, 5, 5, 5, 5, 5, 5, 5, 5, 5, 5, 5, 5, 5, 5, 5, 5, 5, 5, 5, 5, 5, 5, 5, 5, 5, 5, 5, 5, 5, 5, 5, 5, 5, 5, 5, 5, 5, 5, 5, 5, 5, 5, 5, 5, 6, 6, 6, 6, 6, 6, 6, 6, 6, 6, 6, 6, 6, 6, 6, 6, 6, 6, 6, 6, 6, 6, 6, 6, 6, 6, 6, 6, 6, 6, 6, 6, 6, 6, 6, 6, 6, 6, 6, 6, 6, 6, 6, 6, 6, 6, 6, 6, 6, 6, 6, 6, 6, 6, 6, 6, 6, 6, 6, 6, 6, 6, 6, 6, 6, 6, 6, 6, 6, 6, 6, 6, 6, 7, 8, 9, 9, 9]
/-- 0 static, 1 virtual, 2 constructor -/
def kdT : List Nat := [2, 1, 1, 1, 1, 0, 1, 1, 1, 1, 2, 1, 1, 1, 0, 2, 1, 1, 1, 1, 1, 1, 1, 1, 1, 1, 1, 1, 1, 1, 1, 1, 1, 1, 1, 1, 1, 1, 1, 1, 1, 1, 1, 1, 1, 1, 1, 1, 1, 1, 1, 1, 2, 1, 1, 1, 1, 1, 1, 2, 1, 1, 1, 1, 0, 1, 2, 1, 1, 1, 1, 1, 1, 1, 1, 1, 1, 1, 1, 1, 1, 1, 1, 1, 1, 1, 1, 1, 1, 1, 1, 1, 1, 1, 1, 1, 1, 1, 0, 0, 0, 1, 1, 1, 0, 1, 0, 1, 1, 1, 0, 2, 0, 1, 1, 0, 1, 1, 1, 0, 1, 0, 1, 1, 1, 1, 1, 1, 1, 1, 1, 1, 1, 1, 0, 1, 1, 1, 1, 0, 0, 1, 1, 1, 1, 1, 1, 1, 1, 1, 1, 1, 1, 1, 1, 1, 1, 1, 1, 1, 1, 1, 1, 1, 1, 1, 0, 1, 1, 1, 1, 1, 0, 1, 1, 1, 1, 1, 1, 1, 1, 1, 1, 1, 0, 0, 0, 0, 0]
/-- 0 void, 1 int, 2 boolean, 3 long -/
def rtT : List Nat := [0, 0, 0, 0, 0, 3, 1, 1, 1, 1, 0, 2, 0, 2, 2, 0, 2, 1, 0, 0, 0, 0, 0, 2, 0, 1, 1, 1, 1, 2, 2, 2, 2, 2, 1, 1, 1, 1, 1, 1, 1, 1, 1, 2, 0, 1, 2, 2, 1, 2, 1, 1, 0, 0, 2, 1, 1, 1, 1, 0, 0, 1, 2, 2, 1, 0, 0, 1, 1, 1, 1, 1, 1, 1, 1, 1, 1, 1, 1, 1, 1, 1, 1, 3, 1, 1, 1, 1, 1, 1, 1, 1, 1, 1, 1, 1, 1, 1, 2, 2, 2, 2, 2, 1, 1, 1, 1, 1, 1, 1, 1, 0, 2, 1, 1, 1, 2, 1, 1, 2, 2, 2, 1, 1, 1, 1, 1, 1, 1, 1, 1, 1, 2, 2, 1, 2, 1, 1, 1, 1, 1, 1, 1, 1, 1, 1, 1, 1, 1, 3, 1, 1, 1, 0, 0, 1, 2, 2, 2, 2, 1, 1, 1, 0, 1, 1, 2, 1, 1, 1, 1, 0, 1, 1, 1, 2, 2, 1, 1, 1, 1, 1, 1, 1, 2, 1, 1, 1, 1]
def naT : List Nat := [1, 3, 4, 4, 4, 2, 1, 1, 1, 2, 1, 4, 4, 3, 3, 1, 2, 3, 2, 4, 2, 1, 1, 3, 3, 2, 2, 4, 4, 4, 5, 1, 2, 3, 1, 3, 3, 1, 1, 2, 2, 3, 3, 1, 2, 2, 3, 3, 3, 3, 3, 3, 1, 2, 3, 1, 2, 1, 3, 1, 3, 1, 2, 2, 1, 2, 1, 3, 1, 1, 2, 4, 5, 5, 3, 3, 4, 2, 3, 4, 3, 4, 3, 3, 3, 4, 4, 3, 2, 4, 2, 4, 3, 3, 3, 2, 2, 2, 1, 2, 2, 3, 4, 3, 2, 3, 2, 2, 1, 1, 2, 1, 3, 3, 1, 1, 3, 1, 1, 1, 3, 2, 2, 4, 4, 5, 5, 3, 3, 4, 3, 4, 4, 5, 1, 2, 2, 4, 2, 1, 2, 2, 3, 5, 4, 3, 4, 4, 3, 3, 3, 3, 3, 3, 5, 4, 4, 4, 5, 4, 4, 4, 2, 2, 3, 2, 2, 3, 4, 2, 4, 2, 1, 2, 4, 6, 4, 3, 3, 3, 1, 2, 2, 2, 1, 1, 1, 2, 2]
def rkT : List Nat := [1, 2, 1, 1, 0, 0, 0, 1, 1, 1, 2, 2, 1, 1, 0, 1, 0, 0, 0, 0, 0, 0, 0, 1, 0, 0, 0, 0, 0, 1, 1, 3, 1, 2, 1, 0, 2, 1, 2, 2, 3, 1, 1, 1, 3, 2, 3, 3, 2, 2, 2, 0, 1, 4, 0, 1, 0, 1, 1, 1, 0, 2, 1, 0, 0, 1, 3, 1, 0, 3, 3, 2, 2, 1, 2, 1, 2, 4, 6, 4, 4, 2, 3, 4, 4, 4, 4, 5, 5, 4, 5, 5, 5, 5, 5, 1, 1, 5, 0, 0, 0, 1, 2, 4, 4, 5, 2, 3, 0, 4, 0, 1, 0, 1, 0, 1, 0, 2, 3, 1, 2, 1, 3, 3, 0, 3, 2, 3, 2, 2, 0, 0, 0, 1, 0, 2, 3, 1, 2, 0, 1, 2, 3, 1, 3, 4, 0, 2, 2, 3, 2, 1, 0, 0, 1, 0, 2, 2, 1, 3, 4, 4, 3, 1, 4, 4, 0, 5, 3, 4, 4, 3, 0, 4, 4, 1, 2, 3, 3, 3, 0, 1, 1, 3, 7, 0, 0, 0, 0]
def lrT : List Nat := [24, 53, 28, 22, 0, 0, 0, 20, 20, 22, 44, 57, 24, 34, 0, 24, 0, 0, 0, 0, 0, 0, 0, 21, 0, 0, 0, 0, 0, 23, 23, 72, 23, 46, 25, 0, 45, 22, 45, 45, 67, 21, 21, 23, 70, 46, 73, 73, 46, 47, 51, 0, 24, 98, 0, 20, 0, 23, 23, 24, 0, 43, 22, 0, 0, 20, 64, 24, 0, 64, 64, 43, 43, 24, 43, 22, 44, 94, 144, 94, 94, 47, 73, 94, 94, 98, 95, 122, 122, 95, 122, 122, 116, 116, 116, 22, 22, 116, 0, 0, 0, 21, 43, 94, 90, 122, 47, 68, 0, 94, 0, 24, 0, 25, 0, 25, 0, 45, 67, 25, 45, 25, 67, 67, 0, 67, 46, 67, 45, 46, 0, 0, 0, 23, 0, 52, 81, 23, 48, 0, 20, 44, 69, 22, 81, 92, 0, 45, 45, 81, 49, 23, 0, 0, 23, 0, 64, 64, 23, 67, 99, 95, 95, 22, 120, 120, 0, 146, 69, 120, 95, 99, 0, 122, 122, 23, 62, 87, 87, 81, 0, 25, 25, 81, 169, 0, 0, 0, 0]
end
section
def ownS (cn : Nat) : String := match cn with
  | 0 => RX0
  | 1 => RX1
  | 2 => RX2
  | 3 => RX3
  | 4 => RX4
  | 5 => RX5
  | 6 => RX6
  | 7 => RL
  | 8 => RJ6
  | 9 => RJ9
  | _ => ""
def finT : List (List Bool) := [[true, true, true, false], [true], [true, true, false], [true, true, false], [true, false], [true, true, true, true, true, true, true, true], [true, false, true, true, false, true, true, true, true, true, true, true, false, true, true, true, true, true, true, false, false, false, false, false, true, true, true, true]]
def yML : List MethodName := [yX0_init, yX0_plan, yX0_planPart, yX0_addStrip, yX0_planTip, yX0_bitOf, yX0_whole, yX0_allWays, yX0_leastLong, yX0_stripOfFirst, yX1_init, yX1_isFound, yX1_arrange, yX1_isMapped, yX1_isRowMapped, yX2_init, yX2_has, yX2_cornerAt, yX2_copyFrom, yX2_insert, yX2_remove, yX2_mirrorLeftToRight, yX2_turnQuarterLeft, yX2_staysOnDots, yX2_shiftBy, yX2_next, yX2_previous, yX2_sideOf, yX2_spreadAt, yX2_isBetween, yX2_isCrossing, yX2_isSound, yX2_isFoldedAt, yX2_isTouching, yX2_signedArea, yX2_signedAreaOf, yX2_unlikenessOfSides, yX2_fenceDots, yX2_innerDots, yX2_bendAt, yX2_cornersThat, yX2_widthBy, yX2_placeOf, yX2_isInOneLine, yX2_hullInto, yX2_rightmostFrom, yX2_isSeen, yX2_isStrip, yX2_nearestToward, yX2_isCrossed, yX2_placeOfMiddle, yX2_longBy, yX3_init, yX3_lookAt, yX3_hasStrip, yX3_stripNumber, yX3_withSeen, yX3_fewestThatSeeAll, yX3_stepsBetween, yX4_init, yX4_append, yX4_firstFault, yX4_isFaulty, yX4_isToldBefore, yX4_valueOf, yX4_tellInto, yX5_init, yX5_write, yX5_wipe, yX5_fault, yX5_field, yX5_corner, yX5_move, yX5_put, yX5_take, yX5_turn, yX5_shift, yX5_sound, yX5_about, yX5_where, yX5_how, yX5_wide, yX5_narrow, yX5_grown, yX5_hull, yX5_sees, yX5_strip, yX5_least, yX5_fair, yX5_sides, yX5_guards, yX5_hops, yX5_alike, yX5_mirrored, yX5_common, yX5_keep, yX5_again, yX5_count, yX5_isField, yX5_isDot, yX5_isSlant, yX5_isCorner, yX5_isPair, yX5_refusalOfTwo, yX5_aboutShape, yX5_aboutCuts, yX5_narrowest, yX5_fairest, yX5_allCorners, yX5_soundFields, yX5_commonDivisor, yX6_init, yX6_in, yX6_write, yX6_wipe, yX6_valueOf, yX6_isTold, yX6_readText, yX6_fault, yX6_isField, yX6_isCorner, yX6_isDot, yX6_field, yX6_corner, yX6_cornerAt, yX6_move, yX6_put, yX6_take, yX6_turn, yX6_shift, yX6_place, yX6_side, yX6_isBetween, yX6_meet, yX6_sign, yX6_isSound, yX6_sound, yX6_areaOf, yX6_area, yX6_without, yX6_divisor, yX6_fenceDots, yX6_howOf, yX6_whereOf, yX6_where, yX6_how, yX6_widthOf, yX6_wide, yX6_narrow, yX6_grown, yX6_hull, yX6_nextHull, yX6_long2, yX6_addMeet, yX6_layMeet, yX6_partOf, yX6_isSight, yX6_isStrip, yX6_isAlong, yX6_areTwo, yX6_sees, yX6_strip, yX6_layStrips, yX6_layCuts, yX6_about, yX6_layLeast, yX6_cross, yX6_least, yX6_sidesOf, yX6_fair, yX6_sides, yX6_laySeen, yX6_ones, yX6_guards, yX6_hops, yX6_isMap, yX6_isLike, yX6_alike, yX6_mirrored, yX6_common, yX6_corners, yX6_keep, yX6_again, yX6_count, yL_law, yJ6_bitCount_0f7a4, yJ9_abs_0f7a4, yJ9_max_7cf53, yJ9_min_7cf53]
def yM (k : Nat) : MethodName := yML.getD k yX0_init
def cML : List ByteArray := [cX0_init, cX0_plan, cX0_planPart, cX0_addStrip, cX0_planTip, cX0_bitOf, cX0_whole, cX0_allWays, cX0_leastLong, cX0_stripOfFirst, cX1_init, cX1_isFound, cX1_arrange, cX1_isMapped, cX1_isRowMapped, cX2_init, cX2_has, cX2_cornerAt, cX2_copyFrom, cX2_insert, cX2_remove, cX2_mirrorLeftToRight, cX2_turnQuarterLeft, cX2_staysOnDots, cX2_shiftBy, cX2_next, cX2_previous, cX2_sideOf, cX2_spreadAt, cX2_isBetween, cX2_isCrossing, cX2_isSound, cX2_isFoldedAt, cX2_isTouching, cX2_signedArea, cX2_signedAreaOf, cX2_unlikenessOfSides, cX2_fenceDots, cX2_innerDots, cX2_bendAt, cX2_cornersThat, cX2_widthBy, cX2_placeOf, cX2_isInOneLine, cX2_hullInto, cX2_rightmostFrom, cX2_isSeen, cX2_isStrip, cX2_nearestToward, cX2_isCrossed, cX2_placeOfMiddle, cX2_longBy, cX3_init, cX3_lookAt, cX3_hasStrip, cX3_stripNumber, cX3_withSeen, cX3_fewestThatSeeAll, cX3_stepsBetween, cX4_init, cX4_append, cX4_firstFault, cX4_isFaulty, cX4_isToldBefore, cX4_valueOf, cX4_tellInto, cX5_init, cX5_write, cX5_wipe, cX5_fault, cX5_field, cX5_corner, cX5_move, cX5_put, cX5_take, cX5_turn, cX5_shift, cX5_sound, cX5_about, cX5_where, cX5_how, cX5_wide, cX5_narrow, cX5_grown, cX5_hull, cX5_sees, cX5_strip, cX5_least, cX5_fair, cX5_sides, cX5_guards, cX5_hops, cX5_alike, cX5_mirrored, cX5_common, cX5_keep, cX5_again, cX5_count, cX5_isField, cX5_isDot, cX5_isSlant, cX5_isCorner, cX5_isPair, cX5_refusalOfTwo, cX5_aboutShape, cX5_aboutCuts, cX5_narrowest, cX5_fairest, cX5_allCorners, cX5_soundFields, cX5_commonDivisor, cX6_init, cX6_in, cX6_write, cX6_wipe, cX6_valueOf, cX6_isTold, cX6_readText, cX6_fault, cX6_isField, cX6_isCorner, cX6_isDot, cX6_field, cX6_corner, cX6_cornerAt, cX6_move, cX6_put, cX6_take, cX6_turn, cX6_shift, cX6_place, cX6_side, cX6_isBetween, cX6_meet, cX6_sign, cX6_isSound, cX6_sound, cX6_areaOf, cX6_area, cX6_without, cX6_divisor, cX6_fenceDots, cX6_howOf, cX6_whereOf, cX6_where, cX6_how, cX6_widthOf, cX6_wide, cX6_narrow, cX6_grown, cX6_hull, cX6_nextHull, cX6_long2, cX6_addMeet, cX6_layMeet, cX6_partOf, cX6_isSight, cX6_isStrip, cX6_isAlong, cX6_areTwo, cX6_sees, cX6_strip, cX6_layStrips, cX6_layCuts, cX6_about, cX6_layLeast, cX6_cross, cX6_least, cX6_sidesOf, cX6_fair, cX6_sides, cX6_laySeen, cX6_ones, cX6_guards, cX6_hops, cX6_isMap, cX6_isLike, cX6_alike, cX6_mirrored, cX6_common, cX6_corners, cX6_keep, cX6_again, cX6_count, cL_law, cJ6_bitCount_0f7a4, cJ9_abs_0f7a4, cJ9_max_7cf53, cJ9_min_7cf53]
def cM (k : Nat) : ByteArray := cML.getD k cX0_init
def rtF (k : Nat) : Option FieldType := match rtT.getD k 0 with
  | 0 => none
  | 1 => some .int
  | 2 => some .boolean
  | _ => some .long
def pcsT : List (List Nat) := [[0], [0, 10, 21, 85, 91, 97], [0, 50, 66, 71, 103], [0], [0, 21, 71, 75, 76, 106, 122], [0], [0], [0], [0], [0, 4, 17, 60, 63, 69, 75], [0], [0, 13, 16, 44, 63, 69], [0, 14, 59, 65, 73], [0, 2, 26, 36, 60, 94, 95], [0, 135, 137, 140, 208, 214], [0], [0, 16, 17], [0, 2, 32, 38], [0, 10, 48], [0, 6, 50], [0, 2, 46], [0, 2, 31], [0, 2, 45], [0, 2, 34, 40], [0, 2, 36], [0, 16, 17], [0, 10, 16], [0], [0], [0, 24, 25], [0, 43, 44], [0, 10, 12, 30, 34, 62, 68, 74], [0, 36, 37], [0, 74, 78, 79, 80, 112, 113], [0], [0, 5, 24, 25, 67], [0], [0, 4, 62], [0], [0, 22, 30, 31, 42, 43, 50, 51], [0, 4, 24, 30], [0, 24, 76], [0, 5, 108, 117, 118, 127, 128, 140, 141, 152, 153, 164, 165, 166, 172, 180, 181], [0, 2, 22, 28], [0, 4, 57, 59, 65, 75, 116, 122], [0, 8, 55, 57, 63], [0, 5, 48, 50, 59], [0, 23, 25, 58, 59], [0, 5, 28, 34], [0, 2, 27, 33], [0], [0], [0], [0, 10, 38, 40, 52, 85, 99, 123, 129, 135], [0, 18, 19], [0, 4, 30], [0, 4, 30, 36], [0, 13, 40, 46], [0, 7, 36], [0], [0, 5, 47], [0, 2, 20, 26, 48, 49, 59, 63], [0, 20, 22, 41, 42], [0, 2, 43, 49], [0, 17, 39, 41], [0, 12, 62], [0, 25, 49, 60, 85], [0, 11, 14, 31], [0], [0], [0, 9, 24], [0, 11, 23, 41, 52], [0, 11, 23, 45, 55], [0, 24, 26, 38, 58, 75], [0, 11, 27], [0, 9, 19, 22, 36, 38, 60], [0, 9, 33, 36, 53], [0, 9, 25, 26], [0, 9, 19, 22, 37, 56, 67], [0, 9, 20, 35], [0, 11, 26], [0, 9, 20, 35], [0, 9, 18, 21, 36], [0, 11, 22, 26, 42], [0, 14, 16, 31], [0, 15, 17, 32, 50, 51], [0, 15, 17, 32, 50, 51], [0, 9, 24], [0, 9, 24], [0, 12, 38, 41], [0, 9, 24], [0, 12, 27], [0, 13, 59, 63, 64, 75, 76], [0, 13, 40, 41], [0, 13, 19, 29, 81, 87, 93], [0, 9, 11, 13, 43], [0, 9, 11, 23, 25, 55], [0, 28, 36, 41, 46], [0, 13, 14], [0, 24, 25], [0, 32, 36, 37], [0, 24, 25], [0, 22, 23], [0, 14, 16, 44, 46], [0, 36, 44, 55, 56, 57, 62, 67, 73], [0, 22, 50, 57], [0, 15, 26, 75, 81, 87, 93, 102, 107], [0, 8, 23, 68, 80, 86, 92], [0, 4, 27], [0, 4, 24, 30], [0, 3, 22, 28], [0], [0, 17, 18], [0, 15, 29, 34, 76], [0], [0, 21, 42, 43], [0, 5, 40, 44, 45, 52], [0, 7, 64, 66, 113, 119, 137, 144, 146], [0], [0], [0, 29, 30], [0, 28, 29], [0, 9, 21, 33, 81], [0, 11, 29, 48, 50], [0, 3, 49, 55], [0, 11, 23, 49, 84, 85], [0, 23, 25, 37, 53, 67, 75, 139], [0, 11, 24, 36, 100], [0, 9, 24, 29, 66, 72, 76, 121, 127], [0, 9, 37, 40, 46, 89, 95, 101, 145], [0], [0], [0, 64, 65], [0, 66, 82, 98, 114, 118, 119, 142, 146, 147], [0, 8, 16, 17], [0, 16, 17, 21, 145, 146, 157, 158, 165, 213, 217, 218, 225, 231], [0, 9, 21, 22], [0, 8, 51], [0], [0, 9, 10], [0, 10, 27], [0, 4, 74], [0, 40, 41, 50, 58, 59], [0, 6, 152, 164, 165, 177, 178, 185, 186, 211, 218, 227, 231, 233, 241, 250, 251], [0, 9, 20, 41, 43], [0, 11, 28, 30], [0, 9, 63, 68, 70, 84, 89, 91, 99], [0, 9, 45, 48, 62, 69], [0, 9, 24, 36, 48, 59, 108, 114, 120, 128, 138, 143], [0, 11, 27, 71, 74], [0, 14, 16, 30, 94, 99, 100, 135, 139, 140, 148, 156, 165, 220, 221, 226, 237, 288], [0, 17, 21, 28, 54, 62, 89, 90, 102, 107, 108, 115], [0], [0, 9, 10, 15, 76], [0, 67, 68, 115, 117, 132, 137, 140], [0], [0, 36, 77, 83, 248, 249, 257], [0, 33, 35, 57, 117, 121, 122, 148, 152, 171, 172, 180, 233, 234], [0, 11, 15, 16, 28, 29, 42, 43, 128, 129], [0, 22, 23], [0, 15, 17, 30, 44, 45], [0, 15, 17, 30, 44, 45], [0, 4, 61, 62, 89, 90, 98], [0, 9, 17, 43, 47, 48, 59, 77, 88, 89, 100, 102, 110, 193, 195, 203, 224, 228, 229, 253, 254, 282, 284, 291, 297], [0, 9, 24, 35, 40, 68, 69, 76, 77, 85, 148, 157, 169, 170, 171, 177, 196, 199, 213, 227], [0, 33, 61, 112, 113, 120, 152, 155, 189, 190, 197, 203], [0, 40, 58, 62, 63], [0, 9, 20, 48, 50], [0, 15, 22], [0, 9, 20, 35, 70, 72, 85, 86, 98, 99, 106], [0, 12, 40, 42], [0, 2, 23, 61, 62, 70, 76], [0, 4, 24], [0, 9, 20, 41, 52, 86, 87, 96, 119, 120, 127], [0, 12, 23, 36, 52, 86, 87, 96, 106], [0, 3, 35, 427, 428, 483, 484, 489, 652, 653, 661], [0, 6, 63, 67, 68, 76], [0, 14, 16, 32, 35, 55, 59, 60], [0, 14, 16, 32, 35, 49, 50], [0, 14, 16, 32, 35, 40, 97, 98, 106], [0], [0, 12, 21, 67, 69, 96], [0, 12, 24, 26, 72, 74, 101], [0, 4, 22, 23, 31, 42, 54, 63, 65], [0, 18, 172, 235, 248, 261, 284, 327, 380, 433, 466, 499, 542, 565, 598, 641, 674, 717, 750, 784, 817, 860, 903, 936, 959, 1002, 1025, 1068, 1101, 1134, 1167, 1190, 1213, 1236, 1242], [0], [0, 9, 10], [0, 9, 10], [0, 9, 10]]
def fldL : List (Nat × Nat × Nat) := [(0, 9, 0), (0, 15, 1), (0, 18, 2), (0, 22, 66), (0, 28, 3), (1, 10, 32), (1, 16, 66), (1, 28, 64), (1, 32, 65), (2, 9, 64), (2, 15, 65), (2, 18, 66), (3, 9, 96), (3, 15, 97), (3, 18, 66), (3, 24, 98), (4, 9, 128), (4, 15, 129), (4, 30, 66), (4, 35, 64), (4, 38, 65), (5, 10, 160), (5, 18, 161), (5, 23, 162), (5, 26, 163), (5, 30, 164), (5, 37, 165), (5, 44, 166), (5, 51, 167), (5, 55, 129), (5, 75, 66), (5, 82, 64), (5, 86, 65), (6, 7, 192), (6, 13, 194), (6, 16, 195), (6, 19, 197), (6, 22, 198), (6, 25, 199), (6, 28, 200), (6, 31, 201), (6, 34, 202), (6, 37, 203), (6, 40, 205), (6, 44, 206), (6, 47, 207), (6, 50, 208), (6, 53, 209), (6, 56, 210), (6, 59, 216), (6, 62, 217), (6, 65, 218), (6, 68, 219), (6, 71, 193), (6, 91, 196), (6, 195, 204), (6, 243, 215), (6, 246, 211), (6, 249, 212), (6, 252, 213), (6, 255, 214)]
def ldcL : List (Nat × Nat × Int) := [(6, 177, 1000000), (8, 265, 1431655765), (8, 266, 858993459), (8, 267, 252645135)]
def ldc2L : List (Nat × Nat × Int) := [(5, 144, (-1)), (5, 146, (-2)), (5, 148, (-3)), (5, 161, 2), (6, 75, 8), (6, 81, 255), (6, 83, 48), (6, 85, 57), (6, 87, 97), (6, 89, 102), (6, 106, 3), (6, 112, 15), (6, 124, 7), (6, 126, (-15)), (6, 168, (-9)), (6, 170, 9), (6, 175, 2), (6, 178, (-1)), (6, 180, 99), (6, 182, (-2)), (6, 187, (-3)), (7, 13, 4294967295)]
def newL : List (Nat × Nat × Nat) := [(1, 7, 2), (5, 7, 4), (5, 16, 2), (5, 34, 3), (5, 41, 0), (5, 48, 1), (7, 7, 5), (7, 10, 6)]
/-- class, pool number, callee, arguments, kind: 0 static, 1 virtual, 2 constructor, 3 and 4 the same of a nest mate, 5 Object() -/
def mtL : List (Nat × Nat × Nat × Nat × Nat) := [(0, 3, 0, 0, 5), (0, 29, 54, 3, 1), (0, 35, 2, 4, 1), (0, 39, 51, 3, 1), (0, 43, 3, 4, 1), (0, 47, 4, 4, 1), (0, 50, 5, 2, 0), (0, 54, 6, 1, 1), (1, 1, 0, 0, 5), (1, 9, 15, 1, 4), (1, 20, 12, 4, 1), (1, 24, 13, 3, 1), (1, 35, 19, 4, 1), (1, 39, 26, 2, 1), (1, 43, 25, 2, 1), (1, 46, 27, 4, 1), (1, 50, 14, 3, 0), (2, 3, 0, 0, 5), (2, 22, 99, 2, 3), (2, 26, 27, 4, 1), (2, 30, 28, 4, 1), (2, 33, 32, 2, 1), (2, 37, 25, 2, 1), (2, 41, 33, 3, 1), (2, 44, 26, 2, 1), (2, 47, 29, 4, 1), (2, 51, 35, 3, 1), (2, 55, 0, 0, 8), (2, 60, 0, 0, 7), (2, 63, 34, 1, 1), (2, 67, 0, 0, 6), (2, 70, 110, 2, 3), (2, 73, 37, 1, 1), (2, 76, 39, 2, 1), (2, 79, 19, 4, 1), (2, 83, 45, 2, 1), (2, 86, 48, 3, 1), (2, 89, 49, 3, 1), (2, 92, 50, 3, 1), (2, 95, 30, 5, 1), (2, 99, 42, 3, 1), (3, 3, 0, 0, 5), (3, 25, 47, 3, 1), (3, 29, 46, 3, 1), (3, 32, 185, 1, 0), (3, 38, 56, 2, 1), (4, 3, 0, 0, 5), (4, 19, 62, 2, 1), (4, 23, 64, 1, 0), (4, 27, 63, 2, 1), (5, 1, 0, 0, 5), (5, 9, 59, 1, 4), (5, 22, 15, 1, 4), (5, 36, 52, 1, 4), (5, 43, 0, 1, 4), (5, 50, 10, 1, 4), (5, 59, 60, 3, 1), (5, 63, 61, 1, 1), (5, 67, 98, 1, 0), (5, 71, 65, 2, 1), (5, 78, 101, 3, 1), (5, 89, 99, 2, 0), (5, 92, 17, 3, 1), (5, 96, 19, 4, 1), (5, 100, 20, 2, 1), (5, 104, 21, 1, 1), (5, 107, 22, 1, 1), (5, 110, 23, 3, 1), (5, 113, 24, 3, 1), (5, 117, 31, 1, 1), (5, 121, 104, 2, 0), (5, 125, 105, 3, 1), (5, 128, 42, 3, 1), (5, 131, 39, 2, 1), (5, 135, 100, 2, 0), (5, 138, 41, 3, 1), (5, 141, 106, 2, 0), (5, 150, 34, 1, 1), (5, 153, 0, 0, 6), (5, 158, 37, 1, 1), (5, 163, 43, 1, 1), (5, 166, 44, 2, 1), (5, 169, 18, 2, 1), (5, 172, 102, 4, 1), (5, 176, 46, 3, 1), (5, 179, 47, 3, 1), (5, 182, 53, 2, 1), (5, 185, 1, 3, 1), (5, 189, 9, 2, 1), (5, 192, 107, 2, 1), (5, 196, 36, 3, 1), (5, 199, 57, 1, 1), (5, 202, 58, 3, 1), (5, 205, 103, 3, 1), (5, 208, 11, 4, 1), (5, 212, 108, 1, 1), (5, 215, 109, 1, 1), (5, 218, 16, 2, 1), (5, 221, 38, 1, 1), (5, 224, 40, 2, 1), (5, 227, 55, 1, 1), (5, 230, 7, 1, 1), (5, 233, 8, 1, 1), (5, 236, 110, 2, 0), (5, 239, 54, 3, 1), (6, 1, 0, 0, 5), (6, 77, 112, 3, 0), (6, 94, 115, 1, 0), (6, 98, 116, 3, 1), (6, 102, 117, 1, 1), (6, 108, 119, 1, 0), (6, 114, 120, 3, 1), (6, 117, 121, 2, 0), (6, 120, 124, 4, 1), (6, 128, 131, 4, 1), (6, 131, 134, 1, 0), (6, 134, 132, 4, 1), (6, 138, 130, 3, 1), (6, 142, 133, 5, 1), (6, 146, 135, 2, 1), (6, 149, 137, 4, 1), (6, 152, 139, 1, 0), (6, 155, 140, 2, 0), (6, 158, 138, 2, 1), (6, 161, 143, 5, 1), (6, 165, 142, 3, 1), (6, 172, 146, 4, 1), (6, 184, 141, 2, 1), (6, 189, 151, 3, 1), (6, 192, 152, 3, 1), (6, 198, 155, 4, 1), (6, 201, 153, 3, 1), (6, 205, 154, 5, 1), (6, 209, 158, 5, 1), (6, 212, 159, 4, 1), (6, 215, 156, 4, 1), (6, 218, 157, 4, 1), (6, 221, 162, 2, 1), (6, 224, 163, 2, 1), (6, 228, 166, 2, 0), (6, 231, 165, 2, 1), (6, 234, 168, 4, 1), (6, 237, 171, 2, 1), (6, 240, 172, 1, 0), (6, 258, 175, 6, 1), (6, 262, 176, 4, 1), (6, 265, 180, 1, 1), (7, 9, 66, 1, 2), (7, 12, 111, 1, 2), (7, 15, 67, 3, 1), (7, 19, 113, 3, 1), (7, 20, 68, 1, 1), (7, 24, 114, 1, 1), (7, 25, 69, 1, 1), (7, 28, 118, 1, 1), (7, 29, 70, 2, 1), (7, 33, 122, 2, 1), (7, 34, 71, 4, 1), (7, 38, 123, 4, 1), (7, 39, 72, 5, 1), (7, 43, 125, 5, 1), (7, 44, 73, 5, 1), (7, 47, 126, 5, 1), (7, 48, 74, 3, 1), (7, 52, 127, 3, 1), (7, 53, 75, 3, 1), (7, 56, 128, 3, 1), (7, 57, 76, 4, 1), (7, 60, 129, 4, 1), (7, 61, 77, 2, 1), (7, 64, 136, 2, 1), (7, 65, 78, 3, 1), (7, 68, 164, 3, 1), (7, 69, 79, 4, 1), (7, 72, 144, 4, 1), (7, 73, 80, 3, 1), (7, 76, 145, 3, 1), (7, 77, 81, 4, 1), (7, 80, 147, 4, 1), (7, 81, 82, 3, 1), (7, 84, 148, 3, 1), (7, 85, 83, 3, 1), (7, 89, 149, 3, 1), (7, 90, 84, 3, 1), (7, 93, 150, 3, 1), (7, 94, 85, 4, 1), (7, 97, 160, 4, 1), (7, 98, 86, 4, 1), (7, 101, 161, 4, 1), (7, 102, 87, 3, 1), (7, 105, 167, 3, 1), (7, 106, 88, 2, 1), (7, 109, 169, 2, 1), (7, 110, 89, 4, 1), (7, 113, 170, 4, 1), (7, 114, 90, 2, 1), (7, 117, 173, 2, 1), (7, 118, 91, 4, 1), (7, 121, 174, 4, 1), (7, 122, 92, 3, 1), (7, 125, 177, 3, 1), (7, 126, 93, 3, 1), (7, 129, 178, 3, 1), (7, 130, 94, 3, 1), (7, 133, 179, 3, 1), (7, 134, 95, 2, 1), (7, 137, 181, 2, 1), (7, 138, 96, 2, 1), (7, 141, 182, 2, 1), (7, 142, 97, 2, 1), (7, 145, 183, 2, 1)]
def lk {β : Type} (L : List (Nat × Nat × β)) (cn x : Nat) : Option β := (L.find? (fun q => q.1 == cn && q.2.1 == x)).map (fun q => q.2.2)
theorem lk_mem {β : Type} {L : List (Nat × Nat × β)} {cn x : Nat} {v : β} (h : lk L cn x = some v) : (cn, x, v) ∈ L := by
  unfold lk at h
  cases hf : L.find? (fun q => q.1 == cn && q.2.1 == x) with
  | none => rw [hf] at h; cases h
  | some q =>
    rw [hf] at h
    have h1 := List.find?_some hf
    have h2 := List.mem_of_find?_eq_some hf
    simp only [Bool.and_eq_true, beq_iff_eq] at h1
    obtain ⟨a, b, c⟩ := q
    obtain ⟨rfl, rfl⟩ := h1
    cases h
    exact h2
def jmp (pc : Nat) (o : Int) : Option Int := if 0 ≤ (pc : Int) + o then some ((pc : Int) + o) else none
/-- a real instruction as one of the small machine's -/
def tr (cn : Nat) (z : Bool) (pc : Nat) (r : Instr) : Option Instr := match r with
  | .iconst i => some (.iconst i)
  | .bipush i => if (Int8.ofInt i).toInt32 = Int32.ofInt i then some (.iconst i) else none
  | .sipush i => if (Int16.ofInt i).toInt32 = Int32.ofInt i then some (.iconst i) else none
  | .ldc x => (lk ldcL cn x).map (fun v => .iconst v)
  | .ldc_w x => (lk ldcL cn x).map (fun v => .iconst v)
  | .lconst k => some (.goto_w ((k : Nat) : Int))
  | .ldc2_w x => (lk ldc2L cn x).map (fun v => .goto_w v)
  | .iload i => some (.iload i)
  | .iload_n k => some (.iload k)
  | .lload i => some (.lload i)
  | .lload_n k => some (.lload k)
  | .aload i => some (.aload i)
  | .aload_n k => some (.aload k)
  | .istore i => some (.istore i)
  | .istore_n k => some (.istore k)
  | .lstore i => some (.lstore i)
  | .lstore_n k => some (.lstore k)
  | .astore i => some (.astore i)
  | .astore_n k => some (.astore k)
  | .iinc i c => some (.iinc i c)
  | .goto o => (jmp pc o).map (fun t => .goto t)
  | .if_icmp c o => (jmp pc o).map (fun t => .if_icmp c t)
  | .ifCond c o => (jmp pc o).map (fun t => .ifCond c t)
  | .tableswitch d lo hi offs => if 0 ≤ (pc : Int) + d ∧ (offs.toList.all (fun o => decide (0 ≤ (pc : Int) + o))) = true ∧ (hi - lo + 1).toNat ≤ offs.size then some (.tableswitch ((pc : Int) + d) lo hi (offs.map (fun o => (pc : Int) + o))) else none
  | .getfield x => (lk fldL cn x).map (fun n => .getfield n)
  | .putfield x => (lk fldL cn x).map (fun n => .putfield n)
  | .invokestatic x => (lk mtL cn x).bind (fun q => if q.2.2 = 0 ∨ q.2.2 = 3 then some (.invokeinterface q.1 q.2.1) else if q.2.2 = 6 then some .fneg else if q.2.2 = 7 then some .fadd else if q.2.2 = 8 then some .fsub else none)
  | .invokevirtual x => (lk mtL cn x).bind (fun q => if q.2.2 = 1 then some (.invokeinterface q.1 q.2.1) else none)
  | .invokespecial x => (lk mtL cn x).bind (fun q => if q.2.2 = 2 ∨ q.2.2 = 4 then some (.invokeinterface q.1 q.2.1) else if q.2.2 = 5 then some .monitorenter else none)
  | .new x => (lk newL cn x).map (fun n => .new n)
  | .anewarray x => (lk newL cn x).bind (fun n => if n = 2 then some (.anewarray 2) else none)
  | .newarray t => some (.newarray t)
  | .ireturn => some (if z = true then .freturn else .ireturn)
  | .lreturn => some .lreturn
  | .return_ => some .return_
  | .iadd => some .iadd
  | .isub => some .isub
  | .imul => some .imul
  | .idiv => some .idiv
  | .irem => some .irem
  | .ineg => some .ineg
  | .iand => some .iand
  | .ior => some .ior
  | .ishl => some .ishl
  | .ishr => some .ishr
  | .iushr => some .iushr
  | .ladd => some .ladd
  | .lsub => some .lsub
  | .lmul => some .lmul
  | .ldiv => some .ldiv
  | .land => some .land
  | .lor => some .lor
  | .lshl => some .lshl
  | .lshr => some .lshr
  | .lcmp => some .lcmp
  | .i2l => some .i2l
  | .l2i => some .l2i
  | .dup => some .dup
  | .pop => some .pop
  | .dup2 => some .dup2
  | .iaload => some .iaload
  | .iastore => some .iastore
  | .baload => some .baload
  | .bastore => some .bastore
  | .laload => some .laload
  | .lastore => some .lastore
  | .aaload => some .aaload
  | .aastore => some .aastore
  | .arraylength => some .arraylength
  | _ => none
def ilen (r : Instr) : Nat := match r with
  | .bipush _ | .ldc _ | .iload _ | .lload _ | .aload _ | .istore _ | .lstore _ | .astore _ | .newarray _ => 2
  | .sipush _ | .ldc_w _ | .ldc2_w _ | .iinc _ _ | .goto _ | .if_icmp _ _ | .ifCond _ _ | .getfield _ | .putfield _ | .invokestatic _ | .invokevirtual _ | .invokespecial _ | .new _ | .anewarray _ => 3
  | _ => 1
def isSw (r : Instr) : Bool := match r with
  | .tableswitch _ _ _ _ => true
  | _ => false
/-- nothing goes on behind it -/
def isTm (i : Instr) : Bool := match i with
  | .goto _ | .tableswitch _ _ _ _ | .ireturn | .freturn | .lreturn | .return_ => true
  | _ => false
/-- its targets begin blocks -/
def tgs (pcs : List Nat) (i : Instr) : Bool := match i with
  | .goto t | .if_icmp _ t | .ifCond _ t => pcs.contains t.toNat
  | .tableswitch d _ _ offs => pcs.contains d.toNat && offs.toList.all (fun t => pcs.contains t.toNat)
  | _ => true
def isJ (i : Instr) : Option Int := match i with
  | .jsr t => some t
  | _ => none
/-- how a call fits the room -/
def cRm (mid : Nat) (i : Instr) : Bool := match i with
  | .invokeinterface k _ => decide (k < 186) && decide (k ≠ 184) && decide (rkT.getD k 99 + 1 ≤ rkT.getD mid 0) && decide (19 + mlT.getD k 99 + lrT.getD k 999 ≤ lrT.getD mid 0)
  | .monitorenter => decide (1 ≤ rkT.getD mid 0) && decide (20 ≤ lrT.getD mid 0)
  | .fneg | .fadd | .fsub => decide (1 ≤ rkT.getD mid 0) && decide (20 ≤ lrT.getD mid 0)
  | .putfield n => !(finT.getD (n / 32) []).getD (n % 32) true || (kdT.getD mid 0 == 2 && clT.getD mid 99 == n / 32)
  | .ireturn => rtT.getD mid 9 == 1
  | .freturn => rtT.getD mid 9 == 2
  | .lreturn => rtT.getD mid 9 == 3
  | .return_ => rtT.getD mid 9 == 0
  | _ => true
def chkI (mid pc : Nat) (i : Instr) : Option Nat := match decode (cM mid) pc with
  | .ok (r, len) => if tr (clT.getD mid 99) (rtT.getD mid 0 == 2) pc r = some i ∧ (isSw r = true ∨ len = ilen r) ∧ tgs (pcsT.getD mid []) i = true ∧ cRm mid i = true then some len else none
  | _ => none
def chkB (mid : Nat) : Nat → List Instr → Bool
  | _, [] => false
  | pc, i :: is => match isJ i with
    | some t => decide (t = (pc : Int)) && (pcsT.getD mid []).contains pc
    | none => match chkI mid pc i with
      | some len => isTm i || chkB mid (pc + len) is
      | none => false
def chkM (mid : Nat) : Bool := (pcsT.getD mid []).all (fun pc => chkB mid pc (blk mid pc))
end
section
theorem ckm0 : chkM 0 = true := by decide +kernel
theorem ckm1 : chkM 1 = true := by decide +kernel
theorem ckm3 : chkM 3 = true := by decide +kernel
theorem ckm5 : chkM 5 = true := by decide +kernel
theorem ckm6 : chkM 6 = true := by decide +kernel
theorem ckm7 : chkM 7 = true := by decide +kernel
theorem ckm8 : chkM 8 = true := by decide +kernel
theorem ckm9 : chkM 9 = true := by decide +kernel
theorem ckm10 : chkM 10 = true := by decide +kernel
theorem ckm11 : chkM 11 = true := by decide +kernel
theorem ckm12 : chkM 12 = true := by decide +kernel
theorem ckm13 : chkM 13 = true := by decide +kernel
theorem ckm15 : chkM 15 = true := by decide +kernel
theorem ckm16 : chkM 16 = true := by decide +kernel
theorem ckm17 : chkM 17 = true := by decide +kernel
theorem ckm18 : chkM 18 = true := by decide +kernel
theorem ckm19 : chkM 19 = true := by decide +kernel
theorem ckm20 : chkM 20 = true := by decide +kernel
theorem ckm21 : chkM 21 = true := by decide +kernel
theorem ckm22 : chkM 22 = true := by decide +kernel
theorem ckm23 : chkM 23 = true := by decide +kernel
theorem ckm24 : chkM 24 = true := by decide +kernel
theorem ckm25 : chkM 25 = true := by decide +kernel
theorem ckm26 : chkM 26 = true := by decide +kernel
theorem ckm27 : chkM 27 = true := by decide +kernel
theorem ckm28 : chkM 28 = true := by decide +kernel
theorem ckm29 : chkM 29 = true := by decide +kernel
theorem ckm30 : chkM 30 = true := by decide +kernel
theorem ckm31 : chkM 31 = true := by decide +kernel
theorem ckm32 : chkM 32 = true := by decide +kernel
theorem ckm34 : chkM 34 = true := by decide +kernel
theorem ckm35 : chkM 35 = true := by decide +kernel
theorem ckm36 : chkM 36 = true := by decide +kernel
theorem ckm37 : chkM 37 = true := by decide +kernel
theorem ckm38 : chkM 38 = true := by decide +kernel
theorem ckm39 : chkM 39 = true := by decide +kernel
theorem ckm40 : chkM 40 = true := by decide +kernel
theorem ckm41 : chkM 41 = true := by decide +kernel
theorem ckm43 : chkM 43 = true := by decide +kernel
theorem ckm45 : chkM 45 = true := by decide +kernel
theorem ckm46 : chkM 46 = true := by decide +kernel
theorem ckm47 : chkM 47 = true := by decide +kernel
theorem ckm48 : chkM 48 = true := by decide +kernel
theorem ckm49 : chkM 49 = true := by decide +kernel
theorem ckm50 : chkM 50 = true := by decide +kernel
theorem ckm51 : chkM 51 = true := by decide +kernel
theorem ckm52 : chkM 52 = true := by decide +kernel
theorem ckm54 : chkM 54 = true := by decide +kernel
theorem ckm55 : chkM 55 = true := by decide +kernel
theorem ckm56 : chkM 56 = true := by decide +kernel
theorem ckm57 : chkM 57 = true := by decide +kernel
theorem ckm58 : chkM 58 = true := by decide +kernel
theorem ckm59 : chkM 59 = true := by decide +kernel
theorem ckm60 : chkM 60 = true := by decide +kernel
theorem ckm61 : chkM 61 = true := by decide +kernel
theorem ckm62 : chkM 62 = true := by decide +kernel
theorem ckm63 : chkM 63 = true := by decide +kernel
theorem ckm64 : chkM 64 = true := by decide +kernel
theorem ckm65 : chkM 65 = true := by decide +kernel
theorem ckm67 : chkM 67 = true := by decide +kernel
theorem ckm68 : chkM 68 = true := by decide +kernel
theorem ckm69 : chkM 69 = true := by decide +kernel
theorem ckm70 : chkM 70 = true := by decide +kernel
theorem ckm71 : chkM 71 = true := by decide +kernel
theorem ckm72 : chkM 72 = true := by decide +kernel
theorem ckm73 : chkM 73 = true := by decide +kernel
theorem ckm74 : chkM 74 = true := by decide +kernel
theorem ckm75 : chkM 75 = true := by decide +kernel
theorem ckm76 : chkM 76 = true := by decide +kernel
theorem ckm77 : chkM 77 = true := by decide +kernel
theorem ckm78 : chkM 78 = true := by decide +kernel
theorem ckm79 : chkM 79 = true := by decide +kernel
theorem ckm80 : chkM 80 = true := by decide +kernel
theorem ckm81 : chkM 81 = true := by decide +kernel
theorem ckm82 : chkM 82 = true := by decide +kernel
theorem ckm83 : chkM 83 = true := by decide +kernel
theorem ckm84 : chkM 84 = true := by decide +kernel
theorem ckm85 : chkM 85 = true := by decide +kernel
theorem ckm86 : chkM 86 = true := by decide +kernel
theorem ckm87 : chkM 87 = true := by decide +kernel
theorem ckm88 : chkM 88 = true := by decide +kernel
theorem ckm89 : chkM 89 = true := by decide +kernel
theorem ckm90 : chkM 90 = true := by decide +kernel
theorem ckm91 : chkM 91 = true := by decide +kernel
theorem ckm92 : chkM 92 = true := by decide +kernel
theorem ckm93 : chkM 93 = true := by decide +kernel
theorem ckm94 : chkM 94 = true := by decide +kernel
theorem ckm95 : chkM 95 = true := by decide +kernel
theorem ckm96 : chkM 96 = true := by decide +kernel
theorem ckm97 : chkM 97 = true := by decide +kernel
theorem ckm98 : chkM 98 = true := by decide +kernel
theorem ckm99 : chkM 99 = true := by decide +kernel
theorem ckm100 : chkM 100 = true := by decide +kernel
theorem ckm101 : chkM 101 = true := by decide +kernel
theorem ckm102 : chkM 102 = true := by decide +kernel
theorem ckm103 : chkM 103 = true := by decide +kernel
theorem ckm104 : chkM 104 = true := by decide +kernel
theorem ckm105 : chkM 105 = true := by decide +kernel
theorem ckm106 : chkM 106 = true := by decide +kernel
theorem ckm107 : chkM 107 = true := by decide +kernel
theorem ckm108 : chkM 108 = true := by decide +kernel
theorem ckm109 : chkM 109 = true := by decide +kernel
theorem ckm110 : chkM 110 = true := by decide +kernel
theorem ckm112 : chkM 112 = true := by decide +kernel
theorem ckm113 : chkM 113 = true := by decide +kernel
theorem ckm114 : chkM 114 = true := by decide +kernel
theorem ckm115 : chkM 115 = true := by decide +kernel
theorem ckm116 : chkM 116 = true := by decide +kernel
theorem ckm118 : chkM 118 = true := by decide +kernel
theorem ckm119 : chkM 119 = true := by decide +kernel
theorem ckm120 : chkM 120 = true := by decide +kernel
theorem ckm121 : chkM 121 = true := by decide +kernel
theorem ckm122 : chkM 122 = true := by decide +kernel
theorem ckm123 : chkM 123 = true := by decide +kernel
theorem ckm124 : chkM 124 = true := by decide +kernel
theorem ckm125 : chkM 125 = true := by decide +kernel
theorem ckm130 : chkM 130 = true := by decide +kernel
theorem ckm131 : chkM 131 = true := by decide +kernel
theorem ckm132 : chkM 132 = true := by decide +kernel
theorem ckm134 : chkM 134 = true := by decide +kernel
theorem ckm136 : chkM 136 = true := by decide +kernel
theorem ckm137 : chkM 137 = true := by decide +kernel
theorem ckm138 : chkM 138 = true := by decide +kernel
theorem ckm139 : chkM 139 = true := by decide +kernel
theorem ckm140 : chkM 140 = true := by decide +kernel
theorem ckm141 : chkM 141 = true := by decide +kernel
theorem ckm142 : chkM 142 = true := by decide +kernel
theorem ckm144 : chkM 144 = true := by decide +kernel
theorem ckm145 : chkM 145 = true := by decide +kernel
theorem ckm146 : chkM 146 = true := by decide +kernel
theorem ckm147 : chkM 147 = true := by decide +kernel
theorem ckm149 : chkM 149 = true := by decide +kernel
theorem ckm152 : chkM 152 = true := by decide +kernel
theorem ckm155 : chkM 155 = true := by decide +kernel
theorem ckm159 : chkM 159 = true := by decide +kernel
theorem ckm160 : chkM 160 = true := by decide +kernel
theorem ckm161 : chkM 161 = true := by decide +kernel
theorem ckm162 : chkM 162 = true := by decide +kernel
theorem ckm166 : chkM 166 = true := by decide +kernel
theorem ckm167 : chkM 167 = true := by decide +kernel
theorem ckm168 : chkM 168 = true := by decide +kernel
theorem ckm169 : chkM 169 = true := by decide +kernel
theorem ckm170 : chkM 170 = true := by decide +kernel
theorem ckm171 : chkM 171 = true := by decide +kernel
theorem ckm172 : chkM 172 = true := by decide +kernel
theorem ckm176 : chkM 176 = true := by decide +kernel
theorem ckm177 : chkM 177 = true := by decide +kernel
theorem ckm178 : chkM 178 = true := by decide +kernel
theorem ckm180 : chkM 180 = true := by decide +kernel
theorem ckm183 : chkM 183 = true := by decide +kernel
theorem ckm185 : chkM 185 = true := by decide +kernel
theorem ckm186 : chkM 186 = true := by decide +kernel
theorem ckm187 : chkM 187 = true := by decide +kernel
theorem ckm188 : chkM 188 = true := by decide +kernel
end
section
theorem ckb2_0 : chkB 2 0 (blk 2 0) = true := by decide +kernel
theorem ckb2_50 : chkB 2 50 (blk 2 50) = true := by decide +kernel
theorem ckb2_66 : chkB 2 66 (blk 2 66) = true := by decide +kernel
theorem ckb2_71 : chkB 2 71 (blk 2 71) = true := by decide +kernel
theorem ckb2_103 : chkB 2 103 (blk 2 103) = true := by decide +kernel
theorem ckm2 : chkM 2 = true := by
  show List.all [0, 50, 66, 71, 103] (fun pc => chkB 2 pc (blk 2 pc)) = true
  simp only [List.all_cons, List.all_nil, ckb2_0, ckb2_50, ckb2_66, ckb2_71, ckb2_103, Bool.and_true]
theorem ckb4_0 : chkB 4 0 (blk 4 0) = true := by decide +kernel
theorem ckb4_21 : chkB 4 21 (blk 4 21) = true := by decide +kernel
theorem ckb4_71 : chkB 4 71 (blk 4 71) = true := by decide +kernel
theorem ckb4_75 : chkB 4 75 (blk 4 75) = true := by decide +kernel
theorem ckb4_76 : chkB 4 76 (blk 4 76) = true := by decide +kernel
theorem ckb4_106 : chkB 4 106 (blk 4 106) = true := by decide +kernel
theorem ckb4_122 : chkB 4 122 (blk 4 122) = true := by decide +kernel
theorem ckm4 : chkM 4 = true := by
  show List.all [0, 21, 71, 75, 76, 106, 122] (fun pc => chkB 4 pc (blk 4 pc)) = true
  simp only [List.all_cons, List.all_nil, ckb4_0, ckb4_21, ckb4_71, ckb4_75, ckb4_76, ckb4_106, ckb4_122, Bool.and_true]
theorem ckb14_0 : chkB 14 0 (blk 14 0) = true := by decide +kernel
theorem ckb14_135 : chkB 14 135 (blk 14 135) = true := by decide +kernel
theorem ckb14_137 : chkB 14 137 (blk 14 137) = true := by decide +kernel
theorem ckb14_140 : chkB 14 140 (blk 14 140) = true := by decide +kernel
theorem ckb14_208 : chkB 14 208 (blk 14 208) = true := by decide +kernel
theorem ckb14_214 : chkB 14 214 (blk 14 214) = true := by decide +kernel
theorem ckm14 : chkM 14 = true := by
  show List.all [0, 135, 137, 140, 208, 214] (fun pc => chkB 14 pc (blk 14 pc)) = true
  simp only [List.all_cons, List.all_nil, ckb14_0, ckb14_135, ckb14_137, ckb14_140, ckb14_208, ckb14_214, Bool.and_true]
theorem ckb33_0 : chkB 33 0 (blk 33 0) = true := by decide +kernel
theorem ckb33_74 : chkB 33 74 (blk 33 74) = true := by decide +kernel
theorem ckb33_78 : chkB 33 78 (blk 33 78) = true := by decide +kernel
theorem ckb33_79 : chkB 33 79 (blk 33 79) = true := by decide +kernel
theorem ckb33_80 : chkB 33 80 (blk 33 80) = true := by decide +kernel
theorem ckb33_112 : chkB 33 112 (blk 33 112) = true := by decide +kernel
theorem ckb33_113 : chkB 33 113 (blk 33 113) = true := by decide +kernel
theorem ckm33 : chkM 33 = true := by
  show List.all [0, 74, 78, 79, 80, 112, 113] (fun pc => chkB 33 pc (blk 33 pc)) = true
  simp only [List.all_cons, List.all_nil, ckb33_0, ckb33_74, ckb33_78, ckb33_79, ckb33_80, ckb33_112, ckb33_113, Bool.and_true]
theorem ckb42_0 : chkB 42 0 (blk 42 0) = true := by decide +kernel
theorem ckb42_5 : chkB 42 5 (blk 42 5) = true := by decide +kernel
theorem ckb42_108 : chkB 42 108 (blk 42 108) = true := by decide +kernel
theorem ckb42_117 : chkB 42 117 (blk 42 117) = true := by decide +kernel
theorem ckb42_118 : chkB 42 118 (blk 42 118) = true := by decide +kernel
theorem ckb42_127 : chkB 42 127 (blk 42 127) = true := by decide +kernel
theorem ckb42_128 : chkB 42 128 (blk 42 128) = true := by decide +kernel
theorem ckb42_140 : chkB 42 140 (blk 42 140) = true := by decide +kernel
theorem ckb42_141 : chkB 42 141 (blk 42 141) = true := by decide +kernel
theorem ckb42_152 : chkB 42 152 (blk 42 152) = true := by decide +kernel
theorem ckb42_153 : chkB 42 153 (blk 42 153) = true := by decide +kernel
theorem ckb42_164 : chkB 42 164 (blk 42 164) = true := by decide +kernel
theorem ckb42_165 : chkB 42 165 (blk 42 165) = true := by decide +kernel
theorem ckb42_166 : chkB 42 166 (blk 42 166) = true := by decide +kernel
theorem ckb42_172 : chkB 42 172 (blk 42 172) = true := by decide +kernel
theorem ckb42_180 : chkB 42 180 (blk 42 180) = true := by decide +kernel
theorem ckb42_181 : chkB 42 181 (blk 42 181) = true := by decide +kernel
theorem ckm42 : chkM 42 = true := by
  show List.all [0, 5, 108, 117, 118, 127, 128, 140, 141, 152, 153, 164, 165, 166, 172, 180, 181] (fun pc => chkB 42 pc (blk 42 pc)) = true
  simp only [List.all_cons, List.all_nil, ckb42_0, ckb42_5, ckb42_108, ckb42_117, ckb42_118, ckb42_127, ckb42_128, ckb42_140, ckb42_141, ckb42_152, ckb42_153, ckb42_164, ckb42_165, ckb42_166, ckb42_172, ckb42_180, ckb42_181, Bool.and_true]
theorem ckb44_0 : chkB 44 0 (blk 44 0) = true := by decide +kernel
theorem ckb44_4 : chkB 44 4 (blk 44 4) = true := by decide +kernel
theorem ckb44_57 : chkB 44 57 (blk 44 57) = true := by decide +kernel
theorem ckb44_59 : chkB 44 59 (blk 44 59) = true := by decide +kernel
theorem ckb44_65 : chkB 44 65 (blk 44 65) = true := by decide +kernel
theorem ckb44_75 : chkB 44 75 (blk 44 75) = true := by decide +kernel
theorem ckb44_116 : chkB 44 116 (blk 44 116) = true := by decide +kernel
theorem ckb44_122 : chkB 44 122 (blk 44 122) = true := by decide +kernel
theorem ckm44 : chkM 44 = true := by
  show List.all [0, 4, 57, 59, 65, 75, 116, 122] (fun pc => chkB 44 pc (blk 44 pc)) = true
  simp only [List.all_cons, List.all_nil, ckb44_0, ckb44_4, ckb44_57, ckb44_59, ckb44_65, ckb44_75, ckb44_116, ckb44_122, Bool.and_true]
theorem ckb53_0 : chkB 53 0 (blk 53 0) = true := by decide +kernel
theorem ckb53_10 : chkB 53 10 (blk 53 10) = true := by decide +kernel
theorem ckb53_38 : chkB 53 38 (blk 53 38) = true := by decide +kernel
theorem ckb53_40 : chkB 53 40 (blk 53 40) = true := by decide +kernel
theorem ckb53_52 : chkB 53 52 (blk 53 52) = true := by decide +kernel
theorem ckb53_85 : chkB 53 85 (blk 53 85) = true := by decide +kernel
theorem ckb53_99 : chkB 53 99 (blk 53 99) = true := by decide +kernel
theorem ckb53_123 : chkB 53 123 (blk 53 123) = true := by decide +kernel
theorem ckb53_129 : chkB 53 129 (blk 53 129) = true := by decide +kernel
theorem ckb53_135 : chkB 53 135 (blk 53 135) = true := by decide +kernel
theorem ckm53 : chkM 53 = true := by
  show List.all [0, 10, 38, 40, 52, 85, 99, 123, 129, 135] (fun pc => chkB 53 pc (blk 53 pc)) = true
  simp only [List.all_cons, List.all_nil, ckb53_0, ckb53_10, ckb53_38, ckb53_40, ckb53_52, ckb53_85, ckb53_99, ckb53_123, ckb53_129, ckb53_135, Bool.and_true]
theorem ckb66_0 : chkB 66 0 (blk 66 0) = true := by decide +kernel
theorem ckb66_25 : chkB 66 25 (blk 66 25) = true := by decide +kernel
theorem ckb66_49 : chkB 66 49 (blk 66 49) = true := by decide +kernel
theorem ckb66_60 : chkB 66 60 (blk 66 60) = true := by decide +kernel
theorem ckb66_85 : chkB 66 85 (blk 66 85) = true := by decide +kernel
theorem ckm66 : chkM 66 = true := by
  show List.all [0, 25, 49, 60, 85] (fun pc => chkB 66 pc (blk 66 pc)) = true
  simp only [List.all_cons, List.all_nil, ckb66_0, ckb66_25, ckb66_49, ckb66_60, ckb66_85, Bool.and_true]
theorem ckb111_0 : chkB 111 0 (blk 111 0) = true := by decide +kernel
theorem ckm111 : chkM 111 = true := by
  show List.all [0] (fun pc => chkB 111 pc (blk 111 pc)) = true
  simp only [List.all_cons, List.all_nil, ckb111_0, Bool.and_true]
theorem ckb117_0 : chkB 117 0 (blk 117 0) = true := by decide +kernel
theorem ckb117_7 : chkB 117 7 (blk 117 7) = true := by decide +kernel
theorem ckb117_64 : chkB 117 64 (blk 117 64) = true := by decide +kernel
theorem ckb117_66 : chkB 117 66 (blk 117 66) = true := by decide +kernel
theorem ckb117_113 : chkB 117 113 (blk 117 113) = true := by decide +kernel
theorem ckb117_119 : chkB 117 119 (blk 117 119) = true := by decide +kernel
theorem ckb117_137 : chkB 117 137 (blk 117 137) = true := by decide +kernel
theorem ckb117_144 : chkB 117 144 (blk 117 144) = true := by decide +kernel
theorem ckb117_146 : chkB 117 146 (blk 117 146) = true := by decide +kernel
theorem ckm117 : chkM 117 = true := by
  show List.all [0, 7, 64, 66, 113, 119, 137, 144, 146] (fun pc => chkB 117 pc (blk 117 pc)) = true
  simp only [List.all_cons, List.all_nil, ckb117_0, ckb117_7, ckb117_64, ckb117_66, ckb117_113, ckb117_119, ckb117_137, ckb117_144, ckb117_146, Bool.and_true]
theorem ckb126_0 : chkB 126 0 (blk 126 0) = true := by decide +kernel
theorem ckb126_23 : chkB 126 23 (blk 126 23) = true := by decide +kernel
theorem ckb126_25 : chkB 126 25 (blk 126 25) = true := by decide +kernel
theorem ckb126_37 : chkB 126 37 (blk 126 37) = true := by decide +kernel
theorem ckb126_53 : chkB 126 53 (blk 126 53) = true := by decide +kernel
theorem ckb126_67 : chkB 126 67 (blk 126 67) = true := by decide +kernel
theorem ckb126_75 : chkB 126 75 (blk 126 75) = true := by decide +kernel
theorem ckb126_139 : chkB 126 139 (blk 126 139) = true := by decide +kernel
theorem ckm126 : chkM 126 = true := by
  show List.all [0, 23, 25, 37, 53, 67, 75, 139] (fun pc => chkB 126 pc (blk 126 pc)) = true
  simp only [List.all_cons, List.all_nil, ckb126_0, ckb126_23, ckb126_25, ckb126_37, ckb126_53, ckb126_67, ckb126_75, ckb126_139, Bool.and_true]
theorem ckb127_0 : chkB 127 0 (blk 127 0) = true := by decide +kernel
theorem ckb127_11 : chkB 127 11 (blk 127 11) = true := by decide +kernel
theorem ckb127_24 : chkB 127 24 (blk 127 24) = true := by decide +kernel
theorem ckb127_36 : chkB 127 36 (blk 127 36) = true := by decide +kernel
theorem ckb127_100 : chkB 127 100 (blk 127 100) = true := by decide +kernel
theorem ckm127 : chkM 127 = true := by
  show List.all [0, 11, 24, 36, 100] (fun pc => chkB 127 pc (blk 127 pc)) = true
  simp only [List.all_cons, List.all_nil, ckb127_0, ckb127_11, ckb127_24, ckb127_36, ckb127_100, Bool.and_true]
theorem ckb128_0 : chkB 128 0 (blk 128 0) = true := by decide +kernel
theorem ckb128_9 : chkB 128 9 (blk 128 9) = true := by decide +kernel
theorem ckb128_24 : chkB 128 24 (blk 128 24) = true := by decide +kernel
theorem ckb128_29 : chkB 128 29 (blk 128 29) = true := by decide +kernel
theorem ckb128_66 : chkB 128 66 (blk 128 66) = true := by decide +kernel
theorem ckb128_72 : chkB 128 72 (blk 128 72) = true := by decide +kernel
theorem ckb128_76 : chkB 128 76 (blk 128 76) = true := by decide +kernel
theorem ckb128_121 : chkB 128 121 (blk 128 121) = true := by decide +kernel
theorem ckb128_127 : chkB 128 127 (blk 128 127) = true := by decide +kernel
theorem ckm128 : chkM 128 = true := by
  show List.all [0, 9, 24, 29, 66, 72, 76, 121, 127] (fun pc => chkB 128 pc (blk 128 pc)) = true
  simp only [List.all_cons, List.all_nil, ckb128_0, ckb128_9, ckb128_24, ckb128_29, ckb128_66, ckb128_72, ckb128_76, ckb128_121, ckb128_127, Bool.and_true]
theorem ckb129_0 : chkB 129 0 (blk 129 0) = true := by decide +kernel
theorem ckb129_9 : chkB 129 9 (blk 129 9) = true := by decide +kernel
theorem ckb129_37 : chkB 129 37 (blk 129 37) = true := by decide +kernel
theorem ckb129_40 : chkB 129 40 (blk 129 40) = true := by decide +kernel
theorem ckb129_46 : chkB 129 46 (blk 129 46) = true := by decide +kernel
theorem ckb129_89 : chkB 129 89 (blk 129 89) = true := by decide +kernel
theorem ckb129_95 : chkB 129 95 (blk 129 95) = true := by decide +kernel
theorem ckb129_101 : chkB 129 101 (blk 129 101) = true := by decide +kernel
theorem ckb129_145 : chkB 129 145 (blk 129 145) = true := by decide +kernel
theorem ckm129 : chkM 129 = true := by
  show List.all [0, 9, 37, 40, 46, 89, 95, 101, 145] (fun pc => chkB 129 pc (blk 129 pc)) = true
  simp only [List.all_cons, List.all_nil, ckb129_0, ckb129_9, ckb129_37, ckb129_40, ckb129_46, ckb129_89, ckb129_95, ckb129_101, ckb129_145, Bool.and_true]
theorem ckb133_0 : chkB 133 0 (blk 133 0) = true := by decide +kernel
theorem ckb133_66 : chkB 133 66 (blk 133 66) = true := by decide +kernel
theorem ckb133_82 : chkB 133 82 (blk 133 82) = true := by decide +kernel
theorem ckb133_98 : chkB 133 98 (blk 133 98) = true := by decide +kernel
theorem ckb133_114 : chkB 133 114 (blk 133 114) = true := by decide +kernel
theorem ckb133_118 : chkB 133 118 (blk 133 118) = true := by decide +kernel
theorem ckb133_119 : chkB 133 119 (blk 133 119) = true := by decide +kernel
theorem ckb133_142 : chkB 133 142 (blk 133 142) = true := by decide +kernel
theorem ckb133_146 : chkB 133 146 (blk 133 146) = true := by decide +kernel
theorem ckb133_147 : chkB 133 147 (blk 133 147) = true := by decide +kernel
theorem ckm133 : chkM 133 = true := by
  show List.all [0, 66, 82, 98, 114, 118, 119, 142, 146, 147] (fun pc => chkB 133 pc (blk 133 pc)) = true
  simp only [List.all_cons, List.all_nil, ckb133_0, ckb133_66, ckb133_82, ckb133_98, ckb133_114, ckb133_118, ckb133_119, ckb133_142, ckb133_146, ckb133_147, Bool.and_true]
theorem ckb135_0 : chkB 135 0 (blk 135 0) = true := by decide +kernel
theorem ckb135_16 : chkB 135 16 (blk 135 16) = true := by decide +kernel
theorem ckb135_17 : chkB 135 17 (blk 135 17) = true := by decide +kernel
theorem ckb135_21 : chkB 135 21 (blk 135 21) = true := by decide +kernel
theorem ckb135_145 : chkB 135 145 (blk 135 145) = true := by decide +kernel
theorem ckb135_146 : chkB 135 146 (blk 135 146) = true := by decide +kernel
theorem ckb135_157 : chkB 135 157 (blk 135 157) = true := by decide +kernel
theorem ckb135_158 : chkB 135 158 (blk 135 158) = true := by decide +kernel
theorem ckb135_165 : chkB 135 165 (blk 135 165) = true := by decide +kernel
theorem ckb135_213 : chkB 135 213 (blk 135 213) = true := by decide +kernel
theorem ckb135_217 : chkB 135 217 (blk 135 217) = true := by decide +kernel
theorem ckb135_218 : chkB 135 218 (blk 135 218) = true := by decide +kernel
theorem ckb135_225 : chkB 135 225 (blk 135 225) = true := by decide +kernel
theorem ckb135_231 : chkB 135 231 (blk 135 231) = true := by decide +kernel
theorem ckm135 : chkM 135 = true := by
  show List.all [0, 16, 17, 21, 145, 146, 157, 158, 165, 213, 217, 218, 225, 231] (fun pc => chkB 135 pc (blk 135 pc)) = true
  simp only [List.all_cons, List.all_nil, ckb135_0, ckb135_16, ckb135_17, ckb135_21, ckb135_145, ckb135_146, ckb135_157, ckb135_158, ckb135_165, ckb135_213, ckb135_217, ckb135_218, ckb135_225, ckb135_231, Bool.and_true]
theorem ckb143_0 : chkB 143 0 (blk 143 0) = true := by decide +kernel
theorem ckb143_6 : chkB 143 6 (blk 143 6) = true := by decide +kernel
theorem ckb143_152 : chkB 143 152 (blk 143 152) = true := by decide +kernel
theorem ckb143_164 : chkB 143 164 (blk 143 164) = true := by decide +kernel
theorem ckb143_165 : chkB 143 165 (blk 143 165) = true := by decide +kernel
theorem ckb143_177 : chkB 143 177 (blk 143 177) = true := by decide +kernel
theorem ckb143_178 : chkB 143 178 (blk 143 178) = true := by decide +kernel
theorem ckb143_185 : chkB 143 185 (blk 143 185) = true := by decide +kernel
theorem ckb143_186 : chkB 143 186 (blk 143 186) = true := by decide +kernel
theorem ckb143_211 : chkB 143 211 (blk 143 211) = true := by decide +kernel
theorem ckb143_218 : chkB 143 218 (blk 143 218) = true := by decide +kernel
theorem ckb143_227 : chkB 143 227 (blk 143 227) = true := by decide +kernel
theorem ckb143_231 : chkB 143 231 (blk 143 231) = true := by decide +kernel
theorem ckb143_233 : chkB 143 233 (blk 143 233) = true := by decide +kernel
theorem ckb143_241 : chkB 143 241 (blk 143 241) = true := by decide +kernel
theorem ckb143_250 : chkB 143 250 (blk 143 250) = true := by decide +kernel
theorem ckb143_251 : chkB 143 251 (blk 143 251) = true := by decide +kernel
theorem ckm143 : chkM 143 = true := by
  show List.all [0, 6, 152, 164, 165, 177, 178, 185, 186, 211, 218, 227, 231, 233, 241, 250, 251] (fun pc => chkB 143 pc (blk 143 pc)) = true
  simp only [List.all_cons, List.all_nil, ckb143_0, ckb143_6, ckb143_152, ckb143_164, ckb143_165, ckb143_177, ckb143_178, ckb143_185, ckb143_186, ckb143_211, ckb143_218, ckb143_227, ckb143_231, ckb143_233, ckb143_241, ckb143_250, ckb143_251, Bool.and_true]
theorem ckb148_0 : chkB 148 0 (blk 148 0) = true := by decide +kernel
theorem ckb148_9 : chkB 148 9 (blk 148 9) = true := by decide +kernel
theorem ckb148_24 : chkB 148 24 (blk 148 24) = true := by decide +kernel
theorem ckb148_36 : chkB 148 36 (blk 148 36) = true := by decide +kernel
theorem ckb148_48 : chkB 148 48 (blk 148 48) = true := by decide +kernel
theorem ckb148_59 : chkB 148 59 (blk 148 59) = true := by decide +kernel
theorem ckb148_108 : chkB 148 108 (blk 148 108) = true := by decide +kernel
theorem ckb148_114 : chkB 148 114 (blk 148 114) = true := by decide +kernel
theorem ckb148_120 : chkB 148 120 (blk 148 120) = true := by decide +kernel
theorem ckb148_128 : chkB 148 128 (blk 148 128) = true := by decide +kernel
theorem ckb148_138 : chkB 148 138 (blk 148 138) = true := by decide +kernel
theorem ckb148_143 : chkB 148 143 (blk 148 143) = true := by decide +kernel
theorem ckm148 : chkM 148 = true := by
  show List.all [0, 9, 24, 36, 48, 59, 108, 114, 120, 128, 138, 143] (fun pc => chkB 148 pc (blk 148 pc)) = true
  simp only [List.all_cons, List.all_nil, ckb148_0, ckb148_9, ckb148_24, ckb148_36, ckb148_48, ckb148_59, ckb148_108, ckb148_114, ckb148_120, ckb148_128, ckb148_138, ckb148_143, Bool.and_true]
theorem ckb150_0 : chkB 150 0 (blk 150 0) = true := by decide +kernel
theorem ckb150_14 : chkB 150 14 (blk 150 14) = true := by decide +kernel
theorem ckb150_16 : chkB 150 16 (blk 150 16) = true := by decide +kernel
theorem ckb150_30 : chkB 150 30 (blk 150 30) = true := by decide +kernel
theorem ckb150_94 : chkB 150 94 (blk 150 94) = true := by decide +kernel
theorem ckb150_99 : chkB 150 99 (blk 150 99) = true := by decide +kernel
theorem ckb150_100 : chkB 150 100 (blk 150 100) = true := by decide +kernel
theorem ckb150_135 : chkB 150 135 (blk 150 135) = true := by decide +kernel
theorem ckb150_139 : chkB 150 139 (blk 150 139) = true := by decide +kernel
theorem ckb150_140 : chkB 150 140 (blk 150 140) = true := by decide +kernel
theorem ckb150_148 : chkB 150 148 (blk 150 148) = true := by decide +kernel
theorem ckb150_156 : chkB 150 156 (blk 150 156) = true := by decide +kernel
theorem ckb150_165 : chkB 150 165 (blk 150 165) = true := by decide +kernel
theorem ckb150_220 : chkB 150 220 (blk 150 220) = true := by decide +kernel
theorem ckb150_221 : chkB 150 221 (blk 150 221) = true := by decide +kernel
theorem ckb150_226 : chkB 150 226 (blk 150 226) = true := by decide +kernel
theorem ckb150_237 : chkB 150 237 (blk 150 237) = true := by decide +kernel
theorem ckb150_288 : chkB 150 288 (blk 150 288) = true := by decide +kernel
theorem ckm150 : chkM 150 = true := by
  show List.all [0, 14, 16, 30, 94, 99, 100, 135, 139, 140, 148, 156, 165, 220, 221, 226, 237, 288] (fun pc => chkB 150 pc (blk 150 pc)) = true
  simp only [List.all_cons, List.all_nil, ckb150_0, ckb150_14, ckb150_16, ckb150_30, ckb150_94, ckb150_99, ckb150_100, ckb150_135, ckb150_139, ckb150_140, ckb150_148, ckb150_156, ckb150_165, ckb150_220, ckb150_221, ckb150_226, ckb150_237, ckb150_288, Bool.and_true]
theorem ckb151_0 : chkB 151 0 (blk 151 0) = true := by decide +kernel
theorem ckb151_17 : chkB 151 17 (blk 151 17) = true := by decide +kernel
theorem ckb151_21 : chkB 151 21 (blk 151 21) = true := by decide +kernel
theorem ckb151_28 : chkB 151 28 (blk 151 28) = true := by decide +kernel
theorem ckb151_54 : chkB 151 54 (blk 151 54) = true := by decide +kernel
theorem ckb151_62 : chkB 151 62 (blk 151 62) = true := by decide +kernel
theorem ckb151_89 : chkB 151 89 (blk 151 89) = true := by decide +kernel
theorem ckb151_90 : chkB 151 90 (blk 151 90) = true := by decide +kernel
theorem ckb151_102 : chkB 151 102 (blk 151 102) = true := by decide +kernel
theorem ckb151_107 : chkB 151 107 (blk 151 107) = true := by decide +kernel
theorem ckb151_108 : chkB 151 108 (blk 151 108) = true := by decide +kernel
theorem ckb151_115 : chkB 151 115 (blk 151 115) = true := by decide +kernel
theorem ckm151 : chkM 151 = true := by
  show List.all [0, 17, 21, 28, 54, 62, 89, 90, 102, 107, 108, 115] (fun pc => chkB 151 pc (blk 151 pc)) = true
  simp only [List.all_cons, List.all_nil, ckb151_0, ckb151_17, ckb151_21, ckb151_28, ckb151_54, ckb151_62, ckb151_89, ckb151_90, ckb151_102, ckb151_107, ckb151_108, ckb151_115, Bool.and_true]
theorem ckb153_0 : chkB 153 0 (blk 153 0) = true := by decide +kernel
theorem ckb153_9 : chkB 153 9 (blk 153 9) = true := by decide +kernel
theorem ckb153_10 : chkB 153 10 (blk 153 10) = true := by decide +kernel
theorem ckb153_15 : chkB 153 15 (blk 153 15) = true := by decide +kernel
theorem ckb153_76 : chkB 153 76 (blk 153 76) = true := by decide +kernel
theorem ckm153 : chkM 153 = true := by
  show List.all [0, 9, 10, 15, 76] (fun pc => chkB 153 pc (blk 153 pc)) = true
  simp only [List.all_cons, List.all_nil, ckb153_0, ckb153_9, ckb153_10, ckb153_15, ckb153_76, Bool.and_true]
theorem ckb154_0 : chkB 154 0 (blk 154 0) = true := by decide +kernel
theorem ckb154_67 : chkB 154 67 (blk 154 67) = true := by decide +kernel
theorem ckb154_68 : chkB 154 68 (blk 154 68) = true := by decide +kernel
theorem ckb154_115 : chkB 154 115 (blk 154 115) = true := by decide +kernel
theorem ckb154_117 : chkB 154 117 (blk 154 117) = true := by decide +kernel
theorem ckb154_132 : chkB 154 132 (blk 154 132) = true := by decide +kernel
theorem ckb154_137 : chkB 154 137 (blk 154 137) = true := by decide +kernel
theorem ckb154_140 : chkB 154 140 (blk 154 140) = true := by decide +kernel
theorem ckm154 : chkM 154 = true := by
  show List.all [0, 67, 68, 115, 117, 132, 137, 140] (fun pc => chkB 154 pc (blk 154 pc)) = true
  simp only [List.all_cons, List.all_nil, ckb154_0, ckb154_67, ckb154_68, ckb154_115, ckb154_117, ckb154_132, ckb154_137, ckb154_140, Bool.and_true]
theorem ckb156_0 : chkB 156 0 (blk 156 0) = true := by decide +kernel
theorem ckb156_36 : chkB 156 36 (blk 156 36) = true := by decide +kernel
theorem ckb156_77 : chkB 156 77 (blk 156 77) = true := by decide +kernel
theorem ckb156_83 : chkB 156 83 (blk 156 83) = true := by decide +kernel
theorem ckb156_248 : chkB 156 248 (blk 156 248) = true := by decide +kernel
theorem ckb156_249 : chkB 156 249 (blk 156 249) = true := by decide +kernel
theorem ckb156_257 : chkB 156 257 (blk 156 257) = true := by decide +kernel
theorem ckm156 : chkM 156 = true := by
  show List.all [0, 36, 77, 83, 248, 249, 257] (fun pc => chkB 156 pc (blk 156 pc)) = true
  simp only [List.all_cons, List.all_nil, ckb156_0, ckb156_36, ckb156_77, ckb156_83, ckb156_248, ckb156_249, ckb156_257, Bool.and_true]
theorem ckb157_0 : chkB 157 0 (blk 157 0) = true := by decide +kernel
theorem ckb157_33 : chkB 157 33 (blk 157 33) = true := by decide +kernel
theorem ckb157_35 : chkB 157 35 (blk 157 35) = true := by decide +kernel
theorem ckb157_57 : chkB 157 57 (blk 157 57) = true := by decide +kernel
theorem ckb157_117 : chkB 157 117 (blk 157 117) = true := by decide +kernel
theorem ckb157_121 : chkB 157 121 (blk 157 121) = true := by decide +kernel
theorem ckb157_122 : chkB 157 122 (blk 157 122) = true := by decide +kernel
theorem ckb157_148 : chkB 157 148 (blk 157 148) = true := by decide +kernel
theorem ckb157_152 : chkB 157 152 (blk 157 152) = true := by decide +kernel
theorem ckb157_171 : chkB 157 171 (blk 157 171) = true := by decide +kernel
theorem ckb157_172 : chkB 157 172 (blk 157 172) = true := by decide +kernel
theorem ckb157_180 : chkB 157 180 (blk 157 180) = true := by decide +kernel
theorem ckb157_233 : chkB 157 233 (blk 157 233) = true := by decide +kernel
theorem ckb157_234 : chkB 157 234 (blk 157 234) = true := by decide +kernel
theorem ckm157 : chkM 157 = true := by
  show List.all [0, 33, 35, 57, 117, 121, 122, 148, 152, 171, 172, 180, 233, 234] (fun pc => chkB 157 pc (blk 157 pc)) = true
  simp only [List.all_cons, List.all_nil, ckb157_0, ckb157_33, ckb157_35, ckb157_57, ckb157_117, ckb157_121, ckb157_122, ckb157_148, ckb157_152, ckb157_171, ckb157_172, ckb157_180, ckb157_233, ckb157_234, Bool.and_true]
theorem ckb158_0 : chkB 158 0 (blk 158 0) = true := by decide +kernel
theorem ckb158_11 : chkB 158 11 (blk 158 11) = true := by decide +kernel
theorem ckb158_15 : chkB 158 15 (blk 158 15) = true := by decide +kernel
theorem ckb158_16 : chkB 158 16 (blk 158 16) = true := by decide +kernel
theorem ckb158_28 : chkB 158 28 (blk 158 28) = true := by decide +kernel
theorem ckb158_29 : chkB 158 29 (blk 158 29) = true := by decide +kernel
theorem ckb158_42 : chkB 158 42 (blk 158 42) = true := by decide +kernel
theorem ckb158_43 : chkB 158 43 (blk 158 43) = true := by decide +kernel
theorem ckb158_128 : chkB 158 128 (blk 158 128) = true := by decide +kernel
theorem ckb158_129 : chkB 158 129 (blk 158 129) = true := by decide +kernel
theorem ckm158 : chkM 158 = true := by
  show List.all [0, 11, 15, 16, 28, 29, 42, 43, 128, 129] (fun pc => chkB 158 pc (blk 158 pc)) = true
  simp only [List.all_cons, List.all_nil, ckb158_0, ckb158_11, ckb158_15, ckb158_16, ckb158_28, ckb158_29, ckb158_42, ckb158_43, ckb158_128, ckb158_129, Bool.and_true]
theorem ckb163_0 : chkB 163 0 (blk 163 0) = true := by decide +kernel
theorem ckb163_9 : chkB 163 9 (blk 163 9) = true := by decide +kernel
theorem ckb163_17 : chkB 163 17 (blk 163 17) = true := by decide +kernel
theorem ckb163_43 : chkB 163 43 (blk 163 43) = true := by decide +kernel
theorem ckb163_47 : chkB 163 47 (blk 163 47) = true := by decide +kernel
theorem ckb163_48 : chkB 163 48 (blk 163 48) = true := by decide +kernel
theorem ckb163_59 : chkB 163 59 (blk 163 59) = true := by decide +kernel
theorem ckb163_77 : chkB 163 77 (blk 163 77) = true := by decide +kernel
theorem ckb163_88 : chkB 163 88 (blk 163 88) = true := by decide +kernel
theorem ckb163_89 : chkB 163 89 (blk 163 89) = true := by decide +kernel
theorem ckb163_100 : chkB 163 100 (blk 163 100) = true := by decide +kernel
theorem ckb163_102 : chkB 163 102 (blk 163 102) = true := by decide +kernel
theorem ckb163_110 : chkB 163 110 (blk 163 110) = true := by decide +kernel
theorem ckb163_193 : chkB 163 193 (blk 163 193) = true := by decide +kernel
theorem ckb163_195 : chkB 163 195 (blk 163 195) = true := by decide +kernel
theorem ckb163_203 : chkB 163 203 (blk 163 203) = true := by decide +kernel
theorem ckb163_224 : chkB 163 224 (blk 163 224) = true := by decide +kernel
theorem ckb163_228 : chkB 163 228 (blk 163 228) = true := by decide +kernel
theorem ckb163_229 : chkB 163 229 (blk 163 229) = true := by decide +kernel
theorem ckb163_253 : chkB 163 253 (blk 163 253) = true := by decide +kernel
theorem ckb163_254 : chkB 163 254 (blk 163 254) = true := by decide +kernel
theorem ckb163_282 : chkB 163 282 (blk 163 282) = true := by decide +kernel
theorem ckb163_284 : chkB 163 284 (blk 163 284) = true := by decide +kernel
theorem ckb163_291 : chkB 163 291 (blk 163 291) = true := by decide +kernel
theorem ckb163_297 : chkB 163 297 (blk 163 297) = true := by decide +kernel
theorem ckm163 : chkM 163 = true := by
  show List.all [0, 9, 17, 43, 47, 48, 59, 77, 88, 89, 100, 102, 110, 193, 195, 203, 224, 228, 229, 253, 254, 282, 284, 291, 297] (fun pc => chkB 163 pc (blk 163 pc)) = true
  simp only [List.all_cons, List.all_nil, ckb163_0, ckb163_9, ckb163_17, ckb163_43, ckb163_47, ckb163_48, ckb163_59, ckb163_77, ckb163_88, ckb163_89, ckb163_100, ckb163_102, ckb163_110, ckb163_193, ckb163_195, ckb163_203, ckb163_224, ckb163_228, ckb163_229, ckb163_253, ckb163_254, ckb163_282, ckb163_284, ckb163_291, ckb163_297, Bool.and_true]
theorem ckb164_0 : chkB 164 0 (blk 164 0) = true := by decide +kernel
theorem ckb164_9 : chkB 164 9 (blk 164 9) = true := by decide +kernel
theorem ckb164_24 : chkB 164 24 (blk 164 24) = true := by decide +kernel
theorem ckb164_35 : chkB 164 35 (blk 164 35) = true := by decide +kernel
theorem ckb164_40 : chkB 164 40 (blk 164 40) = true := by decide +kernel
theorem ckb164_68 : chkB 164 68 (blk 164 68) = true := by decide +kernel
theorem ckb164_69 : chkB 164 69 (blk 164 69) = true := by decide +kernel
theorem ckb164_76 : chkB 164 76 (blk 164 76) = true := by decide +kernel
theorem ckb164_77 : chkB 164 77 (blk 164 77) = true := by decide +kernel
theorem ckb164_85 : chkB 164 85 (blk 164 85) = true := by decide +kernel
theorem ckb164_148 : chkB 164 148 (blk 164 148) = true := by decide +kernel
theorem ckb164_157 : chkB 164 157 (blk 164 157) = true := by decide +kernel
theorem ckb164_169 : chkB 164 169 (blk 164 169) = true := by decide +kernel
theorem ckb164_170 : chkB 164 170 (blk 164 170) = true := by decide +kernel
theorem ckb164_171 : chkB 164 171 (blk 164 171) = true := by decide +kernel
theorem ckb164_177 : chkB 164 177 (blk 164 177) = true := by decide +kernel
theorem ckb164_196 : chkB 164 196 (blk 164 196) = true := by decide +kernel
theorem ckb164_199 : chkB 164 199 (blk 164 199) = true := by decide +kernel
theorem ckb164_213 : chkB 164 213 (blk 164 213) = true := by decide +kernel
theorem ckb164_227 : chkB 164 227 (blk 164 227) = true := by decide +kernel
theorem ckm164 : chkM 164 = true := by
  show List.all [0, 9, 24, 35, 40, 68, 69, 76, 77, 85, 148, 157, 169, 170, 171, 177, 196, 199, 213, 227] (fun pc => chkB 164 pc (blk 164 pc)) = true
  simp only [List.all_cons, List.all_nil, ckb164_0, ckb164_9, ckb164_24, ckb164_35, ckb164_40, ckb164_68, ckb164_69, ckb164_76, ckb164_77, ckb164_85, ckb164_148, ckb164_157, ckb164_169, ckb164_170, ckb164_171, ckb164_177, ckb164_196, ckb164_199, ckb164_213, ckb164_227, Bool.and_true]
theorem ckb165_0 : chkB 165 0 (blk 165 0) = true := by decide +kernel
theorem ckb165_33 : chkB 165 33 (blk 165 33) = true := by decide +kernel
theorem ckb165_61 : chkB 165 61 (blk 165 61) = true := by decide +kernel
theorem ckb165_112 : chkB 165 112 (blk 165 112) = true := by decide +kernel
theorem ckb165_113 : chkB 165 113 (blk 165 113) = true := by decide +kernel
theorem ckb165_120 : chkB 165 120 (blk 165 120) = true := by decide +kernel
theorem ckb165_152 : chkB 165 152 (blk 165 152) = true := by decide +kernel
theorem ckb165_155 : chkB 165 155 (blk 165 155) = true := by decide +kernel
theorem ckb165_189 : chkB 165 189 (blk 165 189) = true := by decide +kernel
theorem ckb165_190 : chkB 165 190 (blk 165 190) = true := by decide +kernel
theorem ckb165_197 : chkB 165 197 (blk 165 197) = true := by decide +kernel
theorem ckb165_203 : chkB 165 203 (blk 165 203) = true := by decide +kernel
theorem ckm165 : chkM 165 = true := by
  show List.all [0, 33, 61, 112, 113, 120, 152, 155, 189, 190, 197, 203] (fun pc => chkB 165 pc (blk 165 pc)) = true
  simp only [List.all_cons, List.all_nil, ckb165_0, ckb165_33, ckb165_61, ckb165_112, ckb165_113, ckb165_120, ckb165_152, ckb165_155, ckb165_189, ckb165_190, ckb165_197, ckb165_203, Bool.and_true]
theorem ckb173_0 : chkB 173 0 (blk 173 0) = true := by decide +kernel
theorem ckb173_9 : chkB 173 9 (blk 173 9) = true := by decide +kernel
theorem ckb173_20 : chkB 173 20 (blk 173 20) = true := by decide +kernel
theorem ckb173_41 : chkB 173 41 (blk 173 41) = true := by decide +kernel
theorem ckb173_52 : chkB 173 52 (blk 173 52) = true := by decide +kernel
theorem ckb173_86 : chkB 173 86 (blk 173 86) = true := by decide +kernel
theorem ckb173_87 : chkB 173 87 (blk 173 87) = true := by decide +kernel
theorem ckb173_96 : chkB 173 96 (blk 173 96) = true := by decide +kernel
theorem ckb173_119 : chkB 173 119 (blk 173 119) = true := by decide +kernel
theorem ckb173_120 : chkB 173 120 (blk 173 120) = true := by decide +kernel
theorem ckb173_127 : chkB 173 127 (blk 173 127) = true := by decide +kernel
theorem ckm173 : chkM 173 = true := by
  show List.all [0, 9, 20, 41, 52, 86, 87, 96, 119, 120, 127] (fun pc => chkB 173 pc (blk 173 pc)) = true
  simp only [List.all_cons, List.all_nil, ckb173_0, ckb173_9, ckb173_20, ckb173_41, ckb173_52, ckb173_86, ckb173_87, ckb173_96, ckb173_119, ckb173_120, ckb173_127, Bool.and_true]
theorem ckb174_0 : chkB 174 0 (blk 174 0) = true := by decide +kernel
theorem ckb174_12 : chkB 174 12 (blk 174 12) = true := by decide +kernel
theorem ckb174_23 : chkB 174 23 (blk 174 23) = true := by decide +kernel
theorem ckb174_36 : chkB 174 36 (blk 174 36) = true := by decide +kernel
theorem ckb174_52 : chkB 174 52 (blk 174 52) = true := by decide +kernel
theorem ckb174_86 : chkB 174 86 (blk 174 86) = true := by decide +kernel
theorem ckb174_87 : chkB 174 87 (blk 174 87) = true := by decide +kernel
theorem ckb174_96 : chkB 174 96 (blk 174 96) = true := by decide +kernel
theorem ckb174_106 : chkB 174 106 (blk 174 106) = true := by decide +kernel
theorem ckm174 : chkM 174 = true := by
  show List.all [0, 12, 23, 36, 52, 86, 87, 96, 106] (fun pc => chkB 174 pc (blk 174 pc)) = true
  simp only [List.all_cons, List.all_nil, ckb174_0, ckb174_12, ckb174_23, ckb174_36, ckb174_52, ckb174_86, ckb174_87, ckb174_96, ckb174_106, Bool.and_true]
theorem ckb175_0 : chkB 175 0 (blk 175 0) = true := by decide +kernel
theorem ckb175_3 : chkB 175 3 (blk 175 3) = true := by decide +kernel
theorem ckb175_35 : chkB 175 35 (blk 175 35) = true := by decide +kernel
theorem ckb175_427 : chkB 175 427 (blk 175 427) = true := by decide +kernel
theorem ckb175_428 : chkB 175 428 (blk 175 428) = true := by decide +kernel
theorem ckb175_483 : chkB 175 483 (blk 175 483) = true := by decide +kernel
theorem ckb175_484 : chkB 175 484 (blk 175 484) = true := by decide +kernel
theorem ckb175_489 : chkB 175 489 (blk 175 489) = true := by decide +kernel
theorem ckb175_652 : chkB 175 652 (blk 175 652) = true := by decide +kernel
theorem ckb175_653 : chkB 175 653 (blk 175 653) = true := by decide +kernel
theorem ckb175_661 : chkB 175 661 (blk 175 661) = true := by decide +kernel
theorem ckm175 : chkM 175 = true := by
  show List.all [0, 3, 35, 427, 428, 483, 484, 489, 652, 653, 661] (fun pc => chkB 175 pc (blk 175 pc)) = true
  simp only [List.all_cons, List.all_nil, ckb175_0, ckb175_3, ckb175_35, ckb175_427, ckb175_428, ckb175_483, ckb175_484, ckb175_489, ckb175_652, ckb175_653, ckb175_661, Bool.and_true]
theorem ckb179_0 : chkB 179 0 (blk 179 0) = true := by decide +kernel
theorem ckb179_14 : chkB 179 14 (blk 179 14) = true := by decide +kernel
theorem ckb179_16 : chkB 179 16 (blk 179 16) = true := by decide +kernel
theorem ckb179_32 : chkB 179 32 (blk 179 32) = true := by decide +kernel
theorem ckb179_35 : chkB 179 35 (blk 179 35) = true := by decide +kernel
theorem ckb179_40 : chkB 179 40 (blk 179 40) = true := by decide +kernel
theorem ckb179_97 : chkB 179 97 (blk 179 97) = true := by decide +kernel
theorem ckb179_98 : chkB 179 98 (blk 179 98) = true := by decide +kernel
theorem ckb179_106 : chkB 179 106 (blk 179 106) = true := by decide +kernel
theorem ckm179 : chkM 179 = true := by
  show List.all [0, 14, 16, 32, 35, 40, 97, 98, 106] (fun pc => chkB 179 pc (blk 179 pc)) = true
  simp only [List.all_cons, List.all_nil, ckb179_0, ckb179_14, ckb179_16, ckb179_32, ckb179_35, ckb179_40, ckb179_97, ckb179_98, ckb179_106, Bool.and_true]
theorem ckb181_0 : chkB 181 0 (blk 181 0) = true := by decide +kernel
theorem ckb181_12 : chkB 181 12 (blk 181 12) = true := by decide +kernel
theorem ckb181_21 : chkB 181 21 (blk 181 21) = true := by decide +kernel
theorem ckb181_67 : chkB 181 67 (blk 181 67) = true := by decide +kernel
theorem ckb181_69 : chkB 181 69 (blk 181 69) = true := by decide +kernel
theorem ckb181_96 : chkB 181 96 (blk 181 96) = true := by decide +kernel
theorem ckm181 : chkM 181 = true := by
  show List.all [0, 12, 21, 67, 69, 96] (fun pc => chkB 181 pc (blk 181 pc)) = true
  simp only [List.all_cons, List.all_nil, ckb181_0, ckb181_12, ckb181_21, ckb181_67, ckb181_69, ckb181_96, Bool.and_true]
theorem ckb182_0 : chkB 182 0 (blk 182 0) = true := by decide +kernel
theorem ckb182_12 : chkB 182 12 (blk 182 12) = true := by decide +kernel
theorem ckb182_24 : chkB 182 24 (blk 182 24) = true := by decide +kernel
theorem ckb182_26 : chkB 182 26 (blk 182 26) = true := by decide +kernel
theorem ckb182_72 : chkB 182 72 (blk 182 72) = true := by decide +kernel
theorem ckb182_74 : chkB 182 74 (blk 182 74) = true := by decide +kernel
theorem ckb182_101 : chkB 182 101 (blk 182 101) = true := by decide +kernel
theorem ckm182 : chkM 182 = true := by
  show List.all [0, 12, 24, 26, 72, 74, 101] (fun pc => chkB 182 pc (blk 182 pc)) = true
  simp only [List.all_cons, List.all_nil, ckb182_0, ckb182_12, ckb182_24, ckb182_26, ckb182_72, ckb182_74, ckb182_101, Bool.and_true]
end
section
theorem ckb184_0 : chkB 184 0 (blk 184 0) = true := by decide +kernel
theorem ckb184_18 : chkB 184 18 (blk 184 18) = true := by decide +kernel
theorem ckb184_172 : chkB 184 172 (blk 184 172) = true := by decide +kernel
theorem ckb184_235 : chkB 184 235 (blk 184 235) = true := by decide +kernel
theorem ckb184_248 : chkB 184 248 (blk 184 248) = true := by decide +kernel
theorem ckb184_261 : chkB 184 261 (blk 184 261) = true := by decide +kernel
theorem ckb184_284 : chkB 184 284 (blk 184 284) = true := by decide +kernel
theorem ckb184_327 : chkB 184 327 (blk 184 327) = true := by decide +kernel
theorem ckb184_380 : chkB 184 380 (blk 184 380) = true := by decide +kernel
theorem ckb184_433 : chkB 184 433 (blk 184 433) = true := by decide +kernel
theorem ckb184_466 : chkB 184 466 (blk 184 466) = true := by decide +kernel
theorem ckb184_499 : chkB 184 499 (blk 184 499) = true := by decide +kernel
theorem ckb184_542 : chkB 184 542 (blk 184 542) = true := by decide +kernel
theorem ckb184_565 : chkB 184 565 (blk 184 565) = true := by decide +kernel
theorem ckb184_598 : chkB 184 598 (blk 184 598) = true := by decide +kernel
theorem ckb184_641 : chkB 184 641 (blk 184 641) = true := by decide +kernel
theorem ckb184_674 : chkB 184 674 (blk 184 674) = true := by decide +kernel
theorem ckb184_717 : chkB 184 717 (blk 184 717) = true := by decide +kernel
theorem ckb184_750 : chkB 184 750 (blk 184 750) = true := by decide +kernel
theorem ckb184_784 : chkB 184 784 (blk 184 784) = true := by decide +kernel
theorem ckb184_817 : chkB 184 817 (blk 184 817) = true := by decide +kernel
theorem ckb184_860 : chkB 184 860 (blk 184 860) = true := by decide +kernel
theorem ckb184_903 : chkB 184 903 (blk 184 903) = true := by decide +kernel
theorem ckb184_936 : chkB 184 936 (blk 184 936) = true := by decide +kernel
theorem ckb184_959 : chkB 184 959 (blk 184 959) = true := by decide +kernel
theorem ckb184_1002 : chkB 184 1002 (blk 184 1002) = true := by decide +kernel
theorem ckb184_1025 : chkB 184 1025 (blk 184 1025) = true := by decide +kernel
theorem ckb184_1068 : chkB 184 1068 (blk 184 1068) = true := by decide +kernel
theorem ckb184_1101 : chkB 184 1101 (blk 184 1101) = true := by decide +kernel
theorem ckb184_1134 : chkB 184 1134 (blk 184 1134) = true := by decide +kernel
theorem ckb184_1167 : chkB 184 1167 (blk 184 1167) = true := by decide +kernel
theorem ckb184_1190 : chkB 184 1190 (blk 184 1190) = true := by decide +kernel
theorem ckb184_1213 : chkB 184 1213 (blk 184 1213) = true := by decide +kernel
theorem ckb184_1236 : chkB 184 1236 (blk 184 1236) = true := by decide +kernel
theorem ckb184_1242 : chkB 184 1242 (blk 184 1242) = true := by decide +kernel
theorem ckm184 : chkM 184 = true := by
  show List.all [0, 18, 172, 235, 248, 261, 284, 327, 380, 433, 466, 499, 542, 565, 598, 641, 674, 717, 750, 784, 817, 860, 903, 936, 959, 1002, 1025, 1068, 1101, 1134, 1167, 1190, 1213, 1236, 1242] (fun pc => chkB 184 pc (blk 184 pc)) = true
  simp only [List.all_cons, List.all_nil, ckb184_0, ckb184_18, ckb184_172, ckb184_235, ckb184_248, ckb184_261, ckb184_284, ckb184_327, ckb184_380, ckb184_433, ckb184_466, ckb184_499, ckb184_542, ckb184_565, ckb184_598, ckb184_641, ckb184_674, ckb184_717, ckb184_750, ckb184_784, ckb184_817, ckb184_860, ckb184_903, ckb184_936, ckb184_959, ckb184_1002, ckb184_1025, ckb184_1068, ckb184_1101, ckb184_1134, ckb184_1167, ckb184_1190, ckb184_1213, ckb184_1236, ckb184_1242, Bool.and_true]
theorem ck_all : ∀ {k : Nat}, k < 189 → chkM k = true
  | 0, _ => ckm0
  | 1, _ => ckm1
  | 2, _ => ckm2
  | 3, _ => ckm3
  | 4, _ => ckm4
  | 5, _ => ckm5
  | 6, _ => ckm6
  | 7, _ => ckm7
  | 8, _ => ckm8
  | 9, _ => ckm9
  | 10, _ => ckm10
  | 11, _ => ckm11
  | 12, _ => ckm12
  | 13, _ => ckm13
  | 14, _ => ckm14
  | 15, _ => ckm15
  | 16, _ => ckm16
  | 17, _ => ckm17
  | 18, _ => ckm18
  | 19, _ => ckm19
  | 20, _ => ckm20
  | 21, _ => ckm21
  | 22, _ => ckm22
  | 23, _ => ckm23
  | 24, _ => ckm24
  | 25, _ => ckm25
  | 26, _ => ckm26
  | 27, _ => ckm27
  | 28, _ => ckm28
  | 29, _ => ckm29
  | 30, _ => ckm30
  | 31, _ => ckm31
  | 32, _ => ckm32
  | 33, _ => ckm33
  | 34, _ => ckm34
  | 35, _ => ckm35
  | 36, _ => ckm36
  | 37, _ => ckm37
  | 38, _ => ckm38
  | 39, _ => ckm39
  | 40, _ => ckm40
  | 41, _ => ckm41
  | 42, _ => ckm42
  | 43, _ => ckm43
  | 44, _ => ckm44
  | 45, _ => ckm45
  | 46, _ => ckm46
  | 47, _ => ckm47
  | 48, _ => ckm48
  | 49, _ => ckm49
  | 50, _ => ckm50
  | 51, _ => ckm51
  | 52, _ => ckm52
  | 53, _ => ckm53
  | 54, _ => ckm54
  | 55, _ => ckm55
  | 56, _ => ckm56
  | 57, _ => ckm57
  | 58, _ => ckm58
  | 59, _ => ckm59
  | 60, _ => ckm60
  | 61, _ => ckm61
  | 62, _ => ckm62
  | 63, _ => ckm63
  | 64, _ => ckm64
  | 65, _ => ckm65
  | 66, _ => ckm66
  | 67, _ => ckm67
  | 68, _ => ckm68
  | 69, _ => ckm69
  | 70, _ => ckm70
  | 71, _ => ckm71
  | 72, _ => ckm72
  | 73, _ => ckm73
  | 74, _ => ckm74
  | 75, _ => ckm75
  | 76, _ => ckm76
  | 77, _ => ckm77
  | 78, _ => ckm78
  | 79, _ => ckm79
  | 80, _ => ckm80
  | 81, _ => ckm81
  | 82, _ => ckm82
  | 83, _ => ckm83
  | 84, _ => ckm84
  | 85, _ => ckm85
  | 86, _ => ckm86
  | 87, _ => ckm87
  | 88, _ => ckm88
  | 89, _ => ckm89
  | 90, _ => ckm90
  | 91, _ => ckm91
  | 92, _ => ckm92
  | 93, _ => ckm93
  | 94, _ => ckm94
  | 95, _ => ckm95
  | 96, _ => ckm96
  | 97, _ => ckm97
  | 98, _ => ckm98
  | 99, _ => ckm99
  | 100, _ => ckm100
  | 101, _ => ckm101
  | 102, _ => ckm102
  | 103, _ => ckm103
  | 104, _ => ckm104
  | 105, _ => ckm105
  | 106, _ => ckm106
  | 107, _ => ckm107
  | 108, _ => ckm108
  | 109, _ => ckm109
  | 110, _ => ckm110
  | 111, _ => ckm111
  | 112, _ => ckm112
  | 113, _ => ckm113
  | 114, _ => ckm114
  | 115, _ => ckm115
  | 116, _ => ckm116
  | 117, _ => ckm117
  | 118, _ => ckm118
  | 119, _ => ckm119
  | 120, _ => ckm120
  | 121, _ => ckm121
  | 122, _ => ckm122
  | 123, _ => ckm123
  | 124, _ => ckm124
  | 125, _ => ckm125
  | 126, _ => ckm126
  | 127, _ => ckm127
  | 128, _ => ckm128
  | 129, _ => ckm129
  | 130, _ => ckm130
  | 131, _ => ckm131
  | 132, _ => ckm132
  | 133, _ => ckm133
  | 134, _ => ckm134
  | 135, _ => ckm135
  | 136, _ => ckm136
  | 137, _ => ckm137
  | 138, _ => ckm138
  | 139, _ => ckm139
  | 140, _ => ckm140
  | 141, _ => ckm141
  | 142, _ => ckm142
  | 143, _ => ckm143
  | 144, _ => ckm144
  | 145, _ => ckm145
  | 146, _ => ckm146
  | 147, _ => ckm147
  | 148, _ => ckm148
  | 149, _ => ckm149
  | 150, _ => ckm150
  | 151, _ => ckm151
  | 152, _ => ckm152
  | 153, _ => ckm153
  | 154, _ => ckm154
  | 155, _ => ckm155
  | 156, _ => ckm156
  | 157, _ => ckm157
  | 158, _ => ckm158
  | 159, _ => ckm159
  | 160, _ => ckm160
  | 161, _ => ckm161
  | 162, _ => ckm162
  | 163, _ => ckm163
  | 164, _ => ckm164
  | 165, _ => ckm165
  | 166, _ => ckm166
  | 167, _ => ckm167
  | 168, _ => ckm168
  | 169, _ => ckm169
  | 170, _ => ckm170
  | 171, _ => ckm171
  | 172, _ => ckm172
  | 173, _ => ckm173
  | 174, _ => ckm174
  | 175, _ => ckm175
  | 176, _ => ckm176
  | 177, _ => ckm177
  | 178, _ => ckm178
  | 179, _ => ckm179
  | 180, _ => ckm180
  | 181, _ => ckm181
  | 182, _ => ckm182
  | 183, _ => ckm183
  | 184, _ => ckm184
  | 185, _ => ckm185
  | 186, _ => ckm186
  | 187, _ => ckm187
  | 188, _ => ckm188
  | k + 189, h => absurd h (by omega)
end
section
/-! A small machine of my own over abstract heaps (cells by their number), and its rules as equivalences. Pure: nothing of the real machine here. -/
abbrev fE : Type := (Nat × vp_A) ⊕ (Nat × List Value)
/-- how many cells, how many slots, what each cell holds -/
abbrev fH : Type := Nat × Nat × (Nat → fE)
def jk : Value := .retAddr 0
def f_get (h : fH) (a : Nat) : fE := h.2.2 a
def f_up (f : Nat → fE) (k : Nat) (e : fE) : Nat → fE := fun j => if j = k then e else f j
def f_st (h : fH) (a : Nat) (e : fE) : fH := (h.1, h.2.1, f_up h.2.2 a e)
def f_new (h : fH) (n : Nat) (e : fE) : fH := (h.1 + 1, h.2.1 + n, f_up h.2.2 h.1 e)
def isL : Value → Bool
  | .long _ => true
  | .double _ => true
  | _ => false
def sto : List Value → Nat → Value → Option (List Value)
  | [], _, _ => none
  | _ :: t, 0, v => some (v :: t)
  | a :: t, i + 1, v => (sto t i v).map (fun r => (if i = 0 ∧ isL a = true then jk else a) :: r)
def sto2 : List Value → Nat → Value → Option (List Value)
  | [], _, _ => none
  | _ :: t, 0, v => (sto t 0 jk).map (fun r => v :: r)
  | a :: t, i + 1, v => (sto2 t i v).map (fun r => (if i = 0 ∧ isL a = true then jk else a) :: r)
def cmpC (c : Jvm.ClassFile.Cond) (x y : Int32) : Bool := match c with
  | .eq => decide (x = y)
  | .ne => decide (¬ x = y)
  | .lt => decide (x < y)
  | .ge => decide (y ≤ x)
  | .gt => decide (y < x)
  | .le => decide (x ≤ y)
/-- 0 int, 1 reference: the kind of field n (class number times 32 and slot) -/
def fkT : List (List Nat) := [[1, 1, 1, 0], [1], [1, 1, 0], [1, 1, 0], [1, 0], [1, 1, 1, 1, 1, 1, 1, 1], [1, 0, 1, 1, 0, 1, 1, 1, 1, 1, 1, 1, 0, 1, 1, 1, 1, 1, 1, 0, 0, 0, 0, 0, 1, 1, 1, 1]]
def fk (n : Nat) : Nat := ((fkT.getD (n / 32) []).getD (n % 32) 2)
def fit (k : Nat) (v : Value) : Bool := match v with
  | .int _ => k == 0
  | .ref _ => k == 1
  | _ => false
def gF (e : fE) (n : Nat) : Option Value := match e with
  | .inr (ci, fs) => if ci = n / 32 then fs[n % 32]? else none
  | _ => none
def pF (e : fE) (n : Nat) (v : Value) : Option fE := match e with
  | .inr (ci, fs) => if ci = n / 32 ∧ n % 32 < fs.length ∧ fit (fk n) v = true then some (.inr (ci, fs.set (n % 32) v)) else none
  | _ => none
def ldI (e : fE) (i : Int32) : Option Int32 := match e with
  | .inl (0, n, .inl f) => if i < 0 ∨ n ≤ i.toNatClampNeg then none else some (f i.toNatClampNeg)
  | .inl (9, n, .inl f) => if i < 0 ∨ n ≤ i.toNatClampNeg then none else some (f i.toNatClampNeg)
  | _ => none
def ldZ (e : fE) (i : Int32) : Option Int32 := match e with
  | .inl (2, n, .inl f) => if i < 0 ∨ n ≤ i.toNatClampNeg then none else some (f i.toNatClampNeg)
  | _ => none
def ldL (e : fE) (i : Int32) : Option Int64 := match e with
  | .inl (1, n, .inr (.inl f)) => if i < 0 ∨ n ≤ i.toNatClampNeg then none else some (f i.toNatClampNeg)
  | _ => none
def ldQ (e : fE) (i : Int32) : Option Nat := match e with
  | .inl (3, n, .inr (.inr (.inr (.inr f)))) => if i < 0 ∨ n ≤ i.toNatClampNeg then none else f i.toNatClampNeg
  | _ => none
def stI (e : fE) (i x : Int32) : Option fE := match e with
  | .inl (0, n, .inl f) => if i < 0 ∨ n ≤ i.toNatClampNeg then none else some (.inl (0, n, .inl (upd f i.toNatClampNeg x)))
  | _ => none
def stZ (e : fE) (i x : Int32) : Option fE := match e with
  | .inl (2, n, .inl f) => if i < 0 ∨ n ≤ i.toNatClampNeg ∨ ¬ (x = 0 ∨ x = 1) then none else some (.inl (2, n, .inl (upd f i.toNatClampNeg x)))
  | _ => none
def stL (e : fE) (i : Int32) (x : Int64) : Option fE := match e with
  | .inl (1, n, .inr (.inl f)) => if i < 0 ∨ n ≤ i.toNatClampNeg then none else some (.inl (1, n, .inr (.inl (vp_updL f i.toNatClampNeg x))))
  | _ => none
def stQ (e : fE) (i : Int32) (x : Nat) : Option fE := match e with
  | .inl (3, n, .inr (.inr (.inr (.inr f)))) => if i < 0 ∨ n ≤ i.toNatClampNeg then none else some (.inl (3, n, .inr (.inr (.inr (.inr (va_up f i.toNatClampNeg (some x)))))))
  | _ => none
def lenA (e : fE) : Option Int32 := match e with
  | .inl (9, n, .inl _) => some (Int32.ofNat n)
  | _ => none
def isO (e : fE) (ci : Nat) : Bool := match e with
  | .inr (c, _) => c == ci
  | _ => false
def newO (ci : Nat) : Option (Nat × fE) := match ci with
  | 0 => some (4, .inr (0, [.null, .null, .null, .int 0]))
  | 1 => some (1, .inr (1, [.null]))
  | 2 => some (3, .inr (2, [.null, .null, .int 0]))
  | 3 => some (3, .inr (3, [.null, .null, .int 0]))
  | 4 => some (2, .inr (4, [.null, .int 0]))
  | 5 => some (8, .inr (5, [.null, .null, .null, .null, .null, .null, .null, .null]))
  | 6 => some (28, .inr (6, [.null, .int 0, .null, .null, .int 0, .null, .null, .null, .null, .null, .null, .null, .int 0, .null, .null, .null, .null, .null, .null, .int 0, .int 0, .int 0, .int 0, .int 0, .null, .null, .null, .null]))
  | _ => none
def newA (t : Jvm.ClassFile.ArrayType) (n : Int32) : Option fE := if n < 0 ∨ 1000 < n.toNatClampNeg then none else match t with
  | .int => some (.inl (0, n.toNatClampNeg, .inl (fun _ => 0)))
  | .long => some (.inl (1, n.toNatClampNeg, .inr (.inl (fun _ => 0))))
  | .boolean => some (.inl (2, n.toNatClampNeg, .inl (fun _ => 0)))
  | _ => none
abbrev fS : Type := List Instr × List Value × List Value × fH
abbrev fC : Type := Nat × List Value × List Value
/-- one instruction: goes on, calls, or returns -/
def stp (mid : Nat) (ins : Instr) (is : List Instr) (lv st : List Value) (hp : fH) : Option (fS ⊕ (fC ⊕ Option Value)) := match ins with
  | .iconst i => some (.inl (is, lv, .int (Int32.ofInt i) :: st, hp))
  | .goto_w i => some (.inl (is, lv, .long (Int64.ofInt i) :: st, hp))
  | .iload i => match lv[i]? with
    | some (.int x) => some (.inl (is, lv, .int x :: st, hp))
    | _ => none
  | .lload i => match lv[i]? with
    | some (.long x) => some (.inl (is, lv, .long x :: st, hp))
    | _ => none
  | .aload i => match lv[i]? with
    | some (.ref x) => some (.inl (is, lv, .ref x :: st, hp))
    | _ => none
  | .istore i => match st with
    | .int x :: st => (sto lv i (.int x)).map (fun lv => .inl (is, lv, st, hp))
    | _ => none
  | .astore i => match st with
    | .ref x :: st => (sto lv i (.ref x)).map (fun lv => .inl (is, lv, st, hp))
    | _ => none
  | .lstore i => match st with
    | .long x :: st => (sto2 lv i (.long x)).map (fun lv => .inl (is, lv, st, hp))
    | _ => none
  | .iinc i c => match lv[i]? with
    | some (.int x) => (sto lv i (.int (x + Int32.ofInt c))).map (fun lv => .inl (is, lv, st, hp))
    | _ => none
  | .iadd => match st with
    | .int y :: .int x :: st => some (.inl (is, lv, .int (x + y) :: st, hp))
    | _ => none
  | .isub => match st with
    | .int y :: .int x :: st => some (.inl (is, lv, .int (x - y) :: st, hp))
    | _ => none
  | .imul => match st with
    | .int y :: .int x :: st => some (.inl (is, lv, .int (x * y) :: st, hp))
    | _ => none
  | .idiv => match st with
    | .int y :: .int x :: st => if y = 0 then none else some (.inl (is, lv, .int (x / y) :: st, hp))
    | _ => none
  | .irem => match st with
    | .int y :: .int x :: st => if y = 0 then none else some (.inl (is, lv, .int (x - x / y * y) :: st, hp))
    | _ => none
  | .ineg => match st with
    | .int x :: st => some (.inl (is, lv, .int (-x) :: st, hp))
    | _ => none
  | .iand => match st with
    | .int y :: .int x :: st => some (.inl (is, lv, .int (x &&& y) :: st, hp))
    | _ => none
  | .ior => match st with
    | .int y :: .int x :: st => some (.inl (is, lv, .int (x ||| y) :: st, hp))
    | _ => none
  | .ishl => match st with
    | .int y :: .int x :: st => some (.inl (is, lv, .int (x <<< (y &&& 31)) :: st, hp))
    | _ => none
  | .ishr => match st with
    | .int y :: .int x :: st => some (.inl (is, lv, .int (x >>> (y &&& 31)) :: st, hp))
    | _ => none
  | .iushr => match st with
    | .int y :: .int x :: st => some (.inl (is, lv, .int (x.toUInt32 >>> (y.toUInt32 &&& Int32.toUInt32 31)).toInt32 :: st, hp))
    | _ => none
  | .ladd => match st with
    | .long y :: .long x :: st => some (.inl (is, lv, .long (x + y) :: st, hp))
    | _ => none
  | .lsub => match st with
    | .long y :: .long x :: st => some (.inl (is, lv, .long (x - y) :: st, hp))
    | _ => none
  | .lmul => match st with
    | .long y :: .long x :: st => some (.inl (is, lv, .long (x * y) :: st, hp))
    | _ => none
  | .ldiv => match st with
    | .long y :: .long x :: st => if y = 0 then none else some (.inl (is, lv, .long (x / y) :: st, hp))
    | _ => none
  | .land => match st with
    | .long y :: .long x :: st => some (.inl (is, lv, .long (x &&& y) :: st, hp))
    | _ => none
  | .lor => match st with
    | .long y :: .long x :: st => some (.inl (is, lv, .long (x ||| y) :: st, hp))
    | _ => none
  | .lshl => match st with
    | .int y :: .long x :: st => some (.inl (is, lv, .long (x <<< (y.toInt64 &&& 63)) :: st, hp))
    | _ => none
  | .lshr => match st with
    | .int y :: .long x :: st => some (.inl (is, lv, .long (x >>> (y.toInt64 &&& 63)) :: st, hp))
    | _ => none
  | .lcmp => match st with
    | .long y :: .long x :: st => some (.inl (is, lv, .int (lg_cmp x y) :: st, hp))
    | _ => none
  | .i2l => match st with
    | .int x :: st => some (.inl (is, lv, .long x.toInt64 :: st, hp))
    | _ => none
  | .l2i => match st with
    | .long x :: st => some (.inl (is, lv, .int x.toInt32 :: st, hp))
    | _ => none
  | .dup => match st with
    | .int x :: st => some (.inl (is, lv, .int x :: .int x :: st, hp))
    | .ref x :: st => some (.inl (is, lv, .ref x :: .ref x :: st, hp))
    | _ => none
  | .pop => match st with
    | .int _ :: st => some (.inl (is, lv, st, hp))
    | _ => none
  | .dup2 => match st with
    | .int y :: .ref x :: st => some (.inl (is, lv, .int y :: .ref x :: .int y :: .ref x :: st, hp))
    | _ => none
  | .fneg => match st with
    | .int x :: st => if st.length ≤ 3 then some (.inl (is, lv, .int (if 0 ≤ x then x else 0 - x) :: st, hp)) else none
    | _ => none
  | .fadd => match st with
    | .int y :: .int x :: st => if st.length ≤ 3 then some (.inl (is, lv, .int (if x < y then y else x) :: st, hp)) else none
    | _ => none
  | .fsub => match st with
    | .int y :: .int x :: st => if st.length ≤ 3 then some (.inl (is, lv, .int (if y < x then y else x) :: st, hp)) else none
    | _ => none
  | .ifCond c t => match st with
    | .int x :: st => some (.inl (if cmpC c x 0 = true then blk mid t.toNat else is, lv, st, hp))
    | _ => none
  | .if_icmp c t => match st with
    | .int y :: .int x :: st => some (.inl (if cmpC c x y = true then blk mid t.toNat else is, lv, st, hp))
    | _ => none
  | .goto t => some (.inl (blk mid t.toNat, lv, st, hp))
  | .jsr t => some (.inl (blk mid t.toNat, lv, st, hp))
  | .tableswitch d lo hi offs => match st with
    | .int x :: st => some (.inl (blk mid (if x.toInt < lo ∨ hi < x.toInt then d.toNat else (offs.getD (x.toInt - lo).toNat d).toNat), lv, st, hp))
    | _ => none
  | .getfield n => match st with
    | .ref a :: st => (gF (f_get hp a) n).map (fun v => .inl (is, lv, v :: st, hp))
    | _ => none
  | .putfield n => match st with
    | v :: .ref a :: st => (pF (f_get hp a) n v).map (fun e => .inl (is, lv, st, f_st hp a e))
    | _ => none
  | .iaload => match st with
    | .int i :: .ref a :: st => (ldI (f_get hp a) i).map (fun v => .inl (is, lv, .int v :: st, hp))
    | _ => none
  | .baload => match st with
    | .int i :: .ref a :: st => (ldZ (f_get hp a) i).map (fun v => .inl (is, lv, .int v :: st, hp))
    | _ => none
  | .laload => match st with
    | .int i :: .ref a :: st => (ldL (f_get hp a) i).map (fun v => .inl (is, lv, .long v :: st, hp))
    | _ => none
  | .aaload => match st with
    | .int i :: .ref a :: st => (ldQ (f_get hp a) i).map (fun v => .inl (is, lv, .ref v :: st, hp))
    | _ => none
  | .iastore => match st with
    | .int x :: .int i :: .ref a :: st => (stI (f_get hp a) i x).map (fun e => .inl (is, lv, st, f_st hp a e))
    | _ => none
  | .bastore => match st with
    | .int x :: .int i :: .ref a :: st => (stZ (f_get hp a) i x).map (fun e => .inl (is, lv, st, f_st hp a e))
    | _ => none
  | .lastore => match st with
    | .long x :: .int i :: .ref a :: st => (stL (f_get hp a) i x).map (fun e => .inl (is, lv, st, f_st hp a e))
    | _ => none
  | .aastore => match st with
    | .ref x :: .int i :: .ref a :: st => if isO (f_get hp x) 2 = true then (stQ (f_get hp a) i x).map (fun e => .inl (is, lv, st, f_st hp a e)) else none
    | _ => none
  | .arraylength => match st with
    | .ref a :: st => (lenA (f_get hp a)).map (fun v => .inl (is, lv, .int v :: st, hp))
    | _ => none
  | .new ci => (newO ci).map (fun e => .inl (is, lv, .ref hp.1 :: st, f_new hp e.1 e.2))
  | .newarray t => match st with
    | .int n :: st => (newA t n).map (fun e => .inl (is, lv, .ref hp.1 :: st, f_new hp n.toNatClampNeg e))
    | _ => none
  | .anewarray _ => match st with
    | .int n :: st => if n < 0 ∨ 1000 < n.toNatClampNeg then none else some (.inl (is, lv, .ref hp.1 :: st, f_new hp n.toNatClampNeg (.inl (3, n.toNatClampNeg, .inr (.inr (.inr (.inr (fun _ => none))))))))
    | _ => none
  | .monitorenter => match st with
    | .ref _ :: st => if st.length ≤ 4 then some (.inl (is, lv, st, hp)) else none
    | _ => none
  | .invokeinterface k n => if n ≤ st.length ∧ (st.drop n).length ≤ 4 then some (.inr (.inl (k, (st.take n).reverse, st.drop n))) else none
  | .ireturn => match st with
    | [.int v] => some (.inr (.inr (some (.int v))))
    | _ => none
  | .freturn => match st with
    | [.int v] => if v = 0 ∨ v = 1 then some (.inr (.inr (some (.int v)))) else none
    | _ => none
  | .lreturn => match st with
    | [.long v] => some (.inr (.inr (some (.long v))))
    | _ => none
  | .return_ => match st with
    | [] => some (.inr (.inr none))
    | _ => none
  | _ => none
/-- the arguments as locals, filled up -/
def entL : List Value → List Value
  | [] => []
  | v :: t => if isL v = true then v :: jk :: entL t else v :: entL t
def ent (k : Nat) (as : List Value) : List Value := entL as ++ List.replicate (mlT.getD k 0 - (entL as).length) jk
/-- the receiver is an object of the method's class -/
def vOK (k : Nat) (as : List Value) (hp : fH) : Bool := decide ((entL as).length ≤ mlT.getD k 0) && if kdT.getD k 0 = 0 then true else match as with
  | .ref a :: _ => isO (f_get hp a) (clT.getD k 99)
  | _ => false
def run : Nat → Nat → List Instr → List Value → List Value → fH → Option (Option Value × fH)
  | 0, _, _, _, _, _ => none
  | _ + 1, _, [], _, _, _ => none
  | n + 1, mid, ins :: is, lv, st, hp => match stp mid ins is lv st hp with
    | none => none
    | some (.inl (is', lv', st', hp')) => run n mid is' lv' st' hp'
    | some (.inr (.inl (k, as, rest))) => if vOK k as hp = true ∧ as.length = naT.getD k 99 then (match run n k (blk k 0) (ent k as) [] hp with
      | none => none
      | some (v, hp') => run n mid is lv (v.toList ++ rest) hp') else none
    | some (.inr (.inr v)) => some (v, hp)
def Go (mid : Nat) (is : List Instr) (lv st : List Value) (hp : fH) (Q : Option Value → fH → Prop) : Prop := ∃ n v h, run n mid is lv st hp = some (v, h) ∧ Q v h
def Call (k : Nat) (as : List Value) (hp : fH) (Q : Option Value → fH → Prop) : Prop := vOK k as hp = true ∧ as.length = naT.getD k 99 ∧ Go k (blk k 0) (ent k as) [] hp Q
theorem run_mono : ∀ (n mid : Nat) (is : List Instr) (lv st : List Value) (hp : fH) (r : Option Value × fH), run n mid is lv st hp = some r → run (n + 1) mid is lv st hp = some r := by
  intro n
  induction n with
  | zero => intro mid is lv st hp r h; simp [run] at h
  | succ n ih =>
    intro mid is lv st hp r h
    cases is with
    | nil => simp [run] at h
    | cons ins is =>
      rw [run] at h ⊢
      split at h
      · cases h
      · exact ih _ _ _ _ _ _ h
      · split at h
        · rename_i hv
          rw [if_pos hv]
          split at h
          · cases h
          · rename_i v hp' he
            rw [ih _ _ _ _ _ _ he]
            exact ih _ _ _ _ _ _ h
        · cases h
      · exact h
theorem run_le {n m : Nat} (hnm : n ≤ m) {mid : Nat} {is : List Instr} {lv st : List Value} {hp : fH} {r : Option Value × fH} (h : run n mid is lv st hp = some r) : run m mid is lv st hp = some r := by
  induction hnm with
  | refl => exact h
  | step _ ih => exact run_mono _ _ _ _ _ _ _ ih
theorem run_det {n m : Nat} {mid : Nat} {is : List Instr} {lv st : List Value} {hp : fH} {r r' : Option Value × fH} (h : run n mid is lv st hp = some r) (h' : run m mid is lv st hp = some r') : r = r' := by
  have h1 := run_le (Nat.le_max_left n m) h
  have h2 := run_le (Nat.le_max_right n m) h'
  exact Option.some.inj (h1.symm.trans h2)
theorem Go.mono {mid : Nat} {is : List Instr} {lv st : List Value} {hp : fH} {Q Q' : Option Value → fH → Prop} (h : Go mid is lv st hp Q) (hq : ∀ v h, Q v h → Q' v h) : Go mid is lv st hp Q' := by
  obtain ⟨n, v, h1, h2, h3⟩ := h
  exact ⟨n, v, h1, h2, hq _ _ h3⟩
theorem Call.mono {k : Nat} {as : List Value} {hp : fH} {Q Q' : Option Value → fH → Prop} (h : Call k as hp Q) (hq : ∀ v h, Q v h → Q' v h) : Call k as hp Q' := ⟨h.1, h.2.1, h.2.2.mono hq⟩
/-- a call with a known end, as an equivalence -/
theorem Call.iff {k : Nat} {as : List Value} {hp : fH} {v : Option Value} {h' : fH} (h : Call k as hp (fun v2 h2 => v2 = v ∧ h2 = h')) (Q : Option Value → fH → Prop) : Call k as hp Q ↔ Q v h' := by
  obtain ⟨h0, hl, n, v2, h2, hr, rfl, rfl⟩ := h
  constructor
  · rintro ⟨-, -, m, v3, h3, hr3, hq⟩
    cases run_det hr hr3
    exact hq
  · intro hq
    exact ⟨h0, hl, n, _, _, hr, hq⟩
theorem go_next {mid : Nat} {ins : Instr} {is is' : List Instr} {lv st lv' st' : List Value} {hp hp' : fH} {Q : Option Value → fH → Prop} (h : stp mid ins is lv st hp = some (.inl (is', lv', st', hp'))) : Go mid (ins :: is) lv st hp Q ↔ Go mid is' lv' st' hp' Q := by
  constructor
  · rintro ⟨n, v, h1, h2, h3⟩
    cases n with
    | zero => simp [run] at h2
    | succ n => rw [run, h] at h2; exact ⟨n, v, h1, h2, h3⟩
  · rintro ⟨n, v, h1, h2, h3⟩
    exact ⟨n + 1, v, h1, by rw [run, h]; exact h2, h3⟩
theorem go_none {mid : Nat} {ins : Instr} {is : List Instr} {lv st : List Value} {hp : fH} {Q : Option Value → fH → Prop} (h : stp mid ins is lv st hp = none) : ¬ Go mid (ins :: is) lv st hp Q := by
  rintro ⟨n, v, h1, h2, h3⟩
  cases n with
  | zero => simp [run] at h2
  | succ n => rw [run, h] at h2; cases h2
theorem go_end {mid : Nat} {ins : Instr} {is : List Instr} {lv st : List Value} {hp : fH} {v : Option Value} {Q : Option Value → fH → Prop} (h : stp mid ins is lv st hp = some (.inr (.inr v))) : Go mid (ins :: is) lv st hp Q ↔ Q v hp := by
  constructor
  · rintro ⟨n, v, h1, h2, h3⟩
    cases n with
    | zero => simp [run] at h2
    | succ n => rw [run, h] at h2; cases h2; exact h3
  · intro hq
    exact ⟨1, v, hp, by rw [run, h], hq⟩
theorem go_call {mid : Nat} {ins : Instr} {is : List Instr} {lv st : List Value} {hp : fH} {k : Nat} {as rest : List Value} {Q : Option Value → fH → Prop} (h : stp mid ins is lv st hp = some (.inr (.inl (k, as, rest)))) : Go mid (ins :: is) lv st hp Q ↔ Call k as hp (fun v h => Go mid is lv (v.toList ++ rest) h Q) := by
  constructor
  · rintro ⟨n, v, h1, h2, h3⟩
    cases n with
    | zero => simp [run] at h2
    | succ n =>
      rw [run, h] at h2
      simp only at h2
      split at h2
      · rename_i hv
        split at h2
        · cases h2
        · rename_i v' hp' he
          exact ⟨hv.1, hv.2, n, v', hp', he, n, v, h1, h2, h3⟩
      · cases h2
  · rintro ⟨hv, hl, n, v', hp', he, m, v, h1, h2, h3⟩
    refine ⟨max n m + 1, v, h1, ?_, h3⟩
    rw [run, h]
    simp only
    rw [if_pos ⟨hv, hl⟩, run_le (Nat.le_max_left n m) he]
    exact run_le (Nat.le_max_right n m) h2
def oB {α : Type} (o : Option α) (K : α → Prop) : Prop := ∃ v, o = some v ∧ K v
theorem oB_some {α : Type} (v : α) (K : α → Prop) : oB (some v) K ↔ K v := ⟨fun ⟨_, h, k⟩ => Option.some.inj h ▸ k, fun k => ⟨v, rfl, k⟩⟩
theorem oB_none {α : Type} (K : α → Prop) : oB none K ↔ False := ⟨fun ⟨_, h, _⟩ => (nomatch h), fun h => False.elim h⟩
theorem oB_ite {α : Type} (c : Prop) [Decidable c] (o : Option α) (K : α → Prop) : oB (if c then none else o) K ↔ ¬ c ∧ oB o K := by
  by_cases h : c <;> simp [h, oB_none]
theorem oB_ite2 {α : Type} (c : Prop) [Decidable c] (o : Option α) (K : α → Prop) : oB (if c then o else none) K ↔ c ∧ oB o K := by
  by_cases h : c <;> simp [h, oB_none]
theorem go_opt {α : Type} {mid : Nat} {ins : Instr} {is : List Instr} {lv st : List Value} {hp : fH} {Q : Option Value → fH → Prop} (o : Option α) (f : α → fS) (h : stp mid ins is lv st hp = o.map (fun x => .inl (f x))) : Go mid (ins :: is) lv st hp Q ↔ oB o (fun x => Go mid (f x).1 (f x).2.1 (f x).2.2.1 (f x).2.2.2 Q) := by
  cases o with
  | none =>
    rw [oB_none]
    exact ⟨fun g => go_none (by rw [h]; rfl) g, fun g => g.elim⟩
  | some x =>
    rw [oB_some]
    exact go_next (by rw [h]; rfl)
end
section
theorem g_iconst {mid : Nat} {is : List Instr} {lv st : List Value} {hp : fH} {Q : Option Value → fH → Prop} {i : Int} : Go mid (.iconst i :: is) lv (st) hp Q ↔ Go mid is lv (.int (Int32.ofInt i) :: st) hp Q := go_next rfl
theorem g_lconst {mid : Nat} {is : List Instr} {lv st : List Value} {hp : fH} {Q : Option Value → fH → Prop} {i : Int} : Go mid (.goto_w i :: is) lv (st) hp Q ↔ Go mid is lv (.long (Int64.ofInt i) :: st) hp Q := go_next rfl
theorem g_iadd {mid : Nat} {is : List Instr} {lv st : List Value} {hp : fH} {Q : Option Value → fH → Prop} {x y : Int32} : Go mid (.iadd :: is) lv (.int y :: .int x :: st) hp Q ↔ Go mid is lv (.int (x + y) :: st) hp Q := go_next rfl
theorem g_isub {mid : Nat} {is : List Instr} {lv st : List Value} {hp : fH} {Q : Option Value → fH → Prop} {x y : Int32} : Go mid (.isub :: is) lv (.int y :: .int x :: st) hp Q ↔ Go mid is lv (.int (x - y) :: st) hp Q := go_next rfl
theorem g_imul {mid : Nat} {is : List Instr} {lv st : List Value} {hp : fH} {Q : Option Value → fH → Prop} {x y : Int32} : Go mid (.imul :: is) lv (.int y :: .int x :: st) hp Q ↔ Go mid is lv (.int (x * y) :: st) hp Q := go_next rfl
theorem g_iand {mid : Nat} {is : List Instr} {lv st : List Value} {hp : fH} {Q : Option Value → fH → Prop} {x y : Int32} : Go mid (.iand :: is) lv (.int y :: .int x :: st) hp Q ↔ Go mid is lv (.int (x &&& y) :: st) hp Q := go_next rfl
theorem g_ior {mid : Nat} {is : List Instr} {lv st : List Value} {hp : fH} {Q : Option Value → fH → Prop} {x y : Int32} : Go mid (.ior :: is) lv (.int y :: .int x :: st) hp Q ↔ Go mid is lv (.int (x ||| y) :: st) hp Q := go_next rfl
theorem g_ishl {mid : Nat} {is : List Instr} {lv st : List Value} {hp : fH} {Q : Option Value → fH → Prop} {x y : Int32} : Go mid (.ishl :: is) lv (.int y :: .int x :: st) hp Q ↔ Go mid is lv (.int (x <<< (y &&& 31)) :: st) hp Q := go_next rfl
theorem g_ishr {mid : Nat} {is : List Instr} {lv st : List Value} {hp : fH} {Q : Option Value → fH → Prop} {x y : Int32} : Go mid (.ishr :: is) lv (.int y :: .int x :: st) hp Q ↔ Go mid is lv (.int (x >>> (y &&& 31)) :: st) hp Q := go_next rfl
theorem g_iushr {mid : Nat} {is : List Instr} {lv st : List Value} {hp : fH} {Q : Option Value → fH → Prop} {x y : Int32} : Go mid (.iushr :: is) lv (.int y :: .int x :: st) hp Q ↔ Go mid is lv (.int ((x.toUInt32 >>> (y.toUInt32 &&& Int32.toUInt32 31)).toInt32) :: st) hp Q := go_next rfl
theorem g_ladd {mid : Nat} {is : List Instr} {lv st : List Value} {hp : fH} {Q : Option Value → fH → Prop} {x y : Int64} : Go mid (.ladd :: is) lv (.long y :: .long x :: st) hp Q ↔ Go mid is lv (.long (x + y) :: st) hp Q := go_next rfl
theorem g_lsub {mid : Nat} {is : List Instr} {lv st : List Value} {hp : fH} {Q : Option Value → fH → Prop} {x y : Int64} : Go mid (.lsub :: is) lv (.long y :: .long x :: st) hp Q ↔ Go mid is lv (.long (x - y) :: st) hp Q := go_next rfl
theorem g_lmul {mid : Nat} {is : List Instr} {lv st : List Value} {hp : fH} {Q : Option Value → fH → Prop} {x y : Int64} : Go mid (.lmul :: is) lv (.long y :: .long x :: st) hp Q ↔ Go mid is lv (.long (x * y) :: st) hp Q := go_next rfl
theorem g_land {mid : Nat} {is : List Instr} {lv st : List Value} {hp : fH} {Q : Option Value → fH → Prop} {x y : Int64} : Go mid (.land :: is) lv (.long y :: .long x :: st) hp Q ↔ Go mid is lv (.long (x &&& y) :: st) hp Q := go_next rfl
theorem g_lor {mid : Nat} {is : List Instr} {lv st : List Value} {hp : fH} {Q : Option Value → fH → Prop} {x y : Int64} : Go mid (.lor :: is) lv (.long y :: .long x :: st) hp Q ↔ Go mid is lv (.long (x ||| y) :: st) hp Q := go_next rfl
theorem g_lcmp {mid : Nat} {is : List Instr} {lv st : List Value} {hp : fH} {Q : Option Value → fH → Prop} {x y : Int64} : Go mid (.lcmp :: is) lv (.long y :: .long x :: st) hp Q ↔ Go mid is lv (.int (lg_cmp x y) :: st) hp Q := go_next rfl
theorem g_ineg {mid : Nat} {is : List Instr} {lv st : List Value} {hp : fH} {Q : Option Value → fH → Prop} {x : Int32} : Go mid (.ineg :: is) lv (.int x :: st) hp Q ↔ Go mid is lv (.int (-x) :: st) hp Q := go_next rfl
theorem g_lshl {mid : Nat} {is : List Instr} {lv st : List Value} {hp : fH} {Q : Option Value → fH → Prop} {x : Int64} {y : Int32} : Go mid (.lshl :: is) lv (.int y :: .long x :: st) hp Q ↔ Go mid is lv (.long (x <<< (y.toInt64 &&& 63)) :: st) hp Q := go_next rfl
theorem g_lshr {mid : Nat} {is : List Instr} {lv st : List Value} {hp : fH} {Q : Option Value → fH → Prop} {x : Int64} {y : Int32} : Go mid (.lshr :: is) lv (.int y :: .long x :: st) hp Q ↔ Go mid is lv (.long (x >>> (y.toInt64 &&& 63)) :: st) hp Q := go_next rfl
theorem g_i2l {mid : Nat} {is : List Instr} {lv st : List Value} {hp : fH} {Q : Option Value → fH → Prop} {x : Int32} : Go mid (.i2l :: is) lv (.int x :: st) hp Q ↔ Go mid is lv (.long x.toInt64 :: st) hp Q := go_next rfl
theorem g_l2i {mid : Nat} {is : List Instr} {lv st : List Value} {hp : fH} {Q : Option Value → fH → Prop} {x : Int64} : Go mid (.l2i :: is) lv (.long x :: st) hp Q ↔ Go mid is lv (.int x.toInt32 :: st) hp Q := go_next rfl
theorem g_dupi {mid : Nat} {is : List Instr} {lv st : List Value} {hp : fH} {Q : Option Value → fH → Prop} {x : Int32} : Go mid (.dup :: is) lv (.int x :: st) hp Q ↔ Go mid is lv (.int x :: .int x :: st) hp Q := go_next rfl
theorem g_dupr {mid : Nat} {is : List Instr} {lv st : List Value} {hp : fH} {Q : Option Value → fH → Prop} {x : Nat} : Go mid (.dup :: is) lv (.ref x :: st) hp Q ↔ Go mid is lv (.ref x :: .ref x :: st) hp Q := go_next rfl
theorem g_pop {mid : Nat} {is : List Instr} {lv st : List Value} {hp : fH} {Q : Option Value → fH → Prop} {x : Int32} : Go mid (.pop :: is) lv (.int x :: st) hp Q ↔ Go mid is lv (st) hp Q := go_next rfl
theorem g_dup2 {mid : Nat} {is : List Instr} {lv st : List Value} {hp : fH} {Q : Option Value → fH → Prop} {x : Nat} {y : Int32} : Go mid (.dup2 :: is) lv (.int y :: .ref x :: st) hp Q ↔ Go mid is lv (.int y :: .ref x :: .int y :: .ref x :: st) hp Q := go_next rfl
theorem g_mabs {mid : Nat} {is : List Instr} {lv st : List Value} {hp : fH} {Q : Option Value → fH → Prop} {x : Int32} (h : st.length ≤ 3) : Go mid (.fneg :: is) lv (.int x :: st) hp Q ↔ Go mid is lv (.int (if 0 ≤ x then x else 0 - x) :: st) hp Q := go_next (by simp [stp, h])
theorem g_mmax {mid : Nat} {is : List Instr} {lv st : List Value} {hp : fH} {Q : Option Value → fH → Prop} {x y : Int32} (h : st.length ≤ 3) : Go mid (.fadd :: is) lv (.int y :: .int x :: st) hp Q ↔ Go mid is lv (.int (if x < y then y else x) :: st) hp Q := go_next (by simp [stp, h])
theorem g_mmin {mid : Nat} {is : List Instr} {lv st : List Value} {hp : fH} {Q : Option Value → fH → Prop} {x y : Int32} (h : st.length ≤ 3) : Go mid (.fsub :: is) lv (.int y :: .int x :: st) hp Q ↔ Go mid is lv (.int (if y < x then y else x) :: st) hp Q := go_next (by simp [stp, h])
theorem g_goto {mid : Nat} {is : List Instr} {lv st : List Value} {hp : fH} {Q : Option Value → fH → Prop} {t : Int} : Go mid (.goto t :: is) lv st hp Q ↔ Go mid (blk mid t.toNat) lv st hp Q := go_next rfl
theorem g_jsr {mid : Nat} {is : List Instr} {lv st : List Value} {hp : fH} {Q : Option Value → fH → Prop} {t : Int} : Go mid (.jsr t :: is) lv st hp Q ↔ Go mid (blk mid t.toNat) lv st hp Q := go_next rfl
theorem g_icmp_eq {mid : Nat} {is : List Instr} {lv st : List Value} {hp : fH} {Q : Option Value → fH → Prop} {x y : Int32} {t : Int} : Go mid (.if_icmp .eq t :: is) lv (.int y :: .int x :: st) hp Q ↔ if x = y then Go mid (blk mid t.toNat) lv st hp Q else Go mid is lv st hp Q := by
  by_cases h : x = y
  · rw [if_pos h]; exact go_next (by simp [stp, cmpC, h])
  · rw [if_neg h]; exact go_next (by simp [stp, cmpC, h])
theorem g_if_eq {mid : Nat} {is : List Instr} {lv st : List Value} {hp : fH} {Q : Option Value → fH → Prop} {x : Int32} {t : Int} : Go mid (.ifCond .eq t :: is) lv (.int x :: st) hp Q ↔ if x = 0 then Go mid (blk mid t.toNat) lv st hp Q else Go mid is lv st hp Q := by
  by_cases h : x = 0
  · rw [if_pos h]; exact go_next (by simp [stp, cmpC, h])
  · rw [if_neg h]; exact go_next (by simp [stp, cmpC, h])
theorem g_icmp_ne {mid : Nat} {is : List Instr} {lv st : List Value} {hp : fH} {Q : Option Value → fH → Prop} {x y : Int32} {t : Int} : Go mid (.if_icmp .ne t :: is) lv (.int y :: .int x :: st) hp Q ↔ if ¬ x = y then Go mid (blk mid t.toNat) lv st hp Q else Go mid is lv st hp Q := by
  by_cases h : ¬ x = y
  · rw [if_pos h]; exact go_next (by simp [stp, cmpC, h])
  · rw [if_neg h]; exact go_next (by simp [stp, cmpC, h])
theorem g_if_ne {mid : Nat} {is : List Instr} {lv st : List Value} {hp : fH} {Q : Option Value → fH → Prop} {x : Int32} {t : Int} : Go mid (.ifCond .ne t :: is) lv (.int x :: st) hp Q ↔ if ¬ x = 0 then Go mid (blk mid t.toNat) lv st hp Q else Go mid is lv st hp Q := by
  by_cases h : ¬ x = 0
  · rw [if_pos h]; exact go_next (by simp [stp, cmpC, h])
  · rw [if_neg h]; exact go_next (by simp [stp, cmpC, h])
theorem g_icmp_lt {mid : Nat} {is : List Instr} {lv st : List Value} {hp : fH} {Q : Option Value → fH → Prop} {x y : Int32} {t : Int} : Go mid (.if_icmp .lt t :: is) lv (.int y :: .int x :: st) hp Q ↔ if x < y then Go mid (blk mid t.toNat) lv st hp Q else Go mid is lv st hp Q := by
  by_cases h : x < y
  · rw [if_pos h]; exact go_next (by simp [stp, cmpC, h])
  · rw [if_neg h]; exact go_next (by simp [stp, cmpC, h])
theorem g_if_lt {mid : Nat} {is : List Instr} {lv st : List Value} {hp : fH} {Q : Option Value → fH → Prop} {x : Int32} {t : Int} : Go mid (.ifCond .lt t :: is) lv (.int x :: st) hp Q ↔ if x < 0 then Go mid (blk mid t.toNat) lv st hp Q else Go mid is lv st hp Q := by
  by_cases h : x < 0
  · rw [if_pos h]; exact go_next (by simp [stp, cmpC, h])
  · rw [if_neg h]; exact go_next (by simp [stp, cmpC, h])
theorem g_icmp_ge {mid : Nat} {is : List Instr} {lv st : List Value} {hp : fH} {Q : Option Value → fH → Prop} {x y : Int32} {t : Int} : Go mid (.if_icmp .ge t :: is) lv (.int y :: .int x :: st) hp Q ↔ if y ≤ x then Go mid (blk mid t.toNat) lv st hp Q else Go mid is lv st hp Q := by
  by_cases h : y ≤ x
  · rw [if_pos h]; exact go_next (by simp [stp, cmpC, h])
  · rw [if_neg h]; exact go_next (by simp [stp, cmpC, h])
theorem g_if_ge {mid : Nat} {is : List Instr} {lv st : List Value} {hp : fH} {Q : Option Value → fH → Prop} {x : Int32} {t : Int} : Go mid (.ifCond .ge t :: is) lv (.int x :: st) hp Q ↔ if 0 ≤ x then Go mid (blk mid t.toNat) lv st hp Q else Go mid is lv st hp Q := by
  by_cases h : 0 ≤ x
  · rw [if_pos h]; exact go_next (by simp [stp, cmpC, h])
  · rw [if_neg h]; exact go_next (by simp [stp, cmpC, h])
theorem g_icmp_gt {mid : Nat} {is : List Instr} {lv st : List Value} {hp : fH} {Q : Option Value → fH → Prop} {x y : Int32} {t : Int} : Go mid (.if_icmp .gt t :: is) lv (.int y :: .int x :: st) hp Q ↔ if y < x then Go mid (blk mid t.toNat) lv st hp Q else Go mid is lv st hp Q := by
  by_cases h : y < x
  · rw [if_pos h]; exact go_next (by simp [stp, cmpC, h])
  · rw [if_neg h]; exact go_next (by simp [stp, cmpC, h])
theorem g_if_gt {mid : Nat} {is : List Instr} {lv st : List Value} {hp : fH} {Q : Option Value → fH → Prop} {x : Int32} {t : Int} : Go mid (.ifCond .gt t :: is) lv (.int x :: st) hp Q ↔ if 0 < x then Go mid (blk mid t.toNat) lv st hp Q else Go mid is lv st hp Q := by
  by_cases h : 0 < x
  · rw [if_pos h]; exact go_next (by simp [stp, cmpC, h])
  · rw [if_neg h]; exact go_next (by simp [stp, cmpC, h])
theorem g_icmp_le {mid : Nat} {is : List Instr} {lv st : List Value} {hp : fH} {Q : Option Value → fH → Prop} {x y : Int32} {t : Int} : Go mid (.if_icmp .le t :: is) lv (.int y :: .int x :: st) hp Q ↔ if x ≤ y then Go mid (blk mid t.toNat) lv st hp Q else Go mid is lv st hp Q := by
  by_cases h : x ≤ y
  · rw [if_pos h]; exact go_next (by simp [stp, cmpC, h])
  · rw [if_neg h]; exact go_next (by simp [stp, cmpC, h])
theorem g_if_le {mid : Nat} {is : List Instr} {lv st : List Value} {hp : fH} {Q : Option Value → fH → Prop} {x : Int32} {t : Int} : Go mid (.ifCond .le t :: is) lv (.int x :: st) hp Q ↔ if x ≤ 0 then Go mid (blk mid t.toNat) lv st hp Q else Go mid is lv st hp Q := by
  by_cases h : x ≤ 0
  · rw [if_pos h]; exact go_next (by simp [stp, cmpC, h])
  · rw [if_neg h]; exact go_next (by simp [stp, cmpC, h])
theorem g_switch {mid : Nat} {is : List Instr} {lv st : List Value} {hp : fH} {Q : Option Value → fH → Prop} {x : Int32} {d lo hi : Int} {offs : Array Int} : Go mid (.tableswitch d lo hi offs :: is) lv (.int x :: st) hp Q ↔ Go mid (blk mid (if x.toInt < lo ∨ hi < x.toInt then d.toNat else (offs.getD (x.toInt - lo).toNat d).toNat)) lv st hp Q := go_next rfl
theorem g_idiv {mid : Nat} {is : List Instr} {lv st : List Value} {hp : fH} {Q : Option Value → fH → Prop} {x y : Int32} : Go mid (.idiv :: is) lv (.int y :: .int x :: st) hp Q ↔ ¬ y = 0 ∧ Go mid is lv (.int (x / y) :: st) hp Q := by
  by_cases h : y = 0
  · exact ⟨fun g => absurd g (go_none (by simp [stp, h])), fun g => absurd h g.1⟩
  · rw [go_next (is' := is) (lv' := lv) (st' := .int (x / y) :: st) (hp' := hp) (by simp [stp, h])]; exact ⟨fun g => ⟨h, g⟩, fun g => g.2⟩
theorem g_irem {mid : Nat} {is : List Instr} {lv st : List Value} {hp : fH} {Q : Option Value → fH → Prop} {x y : Int32} : Go mid (.irem :: is) lv (.int y :: .int x :: st) hp Q ↔ ¬ y = 0 ∧ Go mid is lv (.int (x - x / y * y) :: st) hp Q := by
  by_cases h : y = 0
  · exact ⟨fun g => absurd g (go_none (by simp [stp, h])), fun g => absurd h g.1⟩
  · rw [go_next (is' := is) (lv' := lv) (st' := .int (x - x / y * y) :: st) (hp' := hp) (by simp [stp, h])]; exact ⟨fun g => ⟨h, g⟩, fun g => g.2⟩
theorem g_ldiv {mid : Nat} {is : List Instr} {lv st : List Value} {hp : fH} {Q : Option Value → fH → Prop} {x y : Int64} : Go mid (.ldiv :: is) lv (.long y :: .long x :: st) hp Q ↔ ¬ y = 0 ∧ Go mid is lv (.long (x / y) :: st) hp Q := by
  by_cases h : y = 0
  · exact ⟨fun g => absurd g (go_none (by simp [stp, h])), fun g => absurd h g.1⟩
  · rw [go_next (is' := is) (lv' := lv) (st' := .long (x / y) :: st) (hp' := hp) (by simp [stp, h])]; exact ⟨fun g => ⟨h, g⟩, fun g => g.2⟩
def vI (o : Option Value) (K : Int32 → Prop) : Prop := ∃ x, o = some (.int x) ∧ K x
def vJ (o : Option Value) (K : Int64 → Prop) : Prop := ∃ x, o = some (.long x) ∧ K x
def vR (o : Option Value) (K : Nat → Prop) : Prop := ∃ x, o = some (.ref x) ∧ K x
theorem vI_i (x : Int32) (K : Int32 → Prop) : vI (some (.int x)) K ↔ K x := ⟨fun ⟨_, h, k⟩ => Value.int.inj (Option.some.inj h) ▸ k, fun k => ⟨x, rfl, k⟩⟩
theorem vJ_j (x : Int64) (K : Int64 → Prop) : vJ (some (.long x)) K ↔ K x := ⟨fun ⟨_, h, k⟩ => Value.long.inj (Option.some.inj h) ▸ k, fun k => ⟨x, rfl, k⟩⟩
theorem vR_r (x : Nat) (K : Nat → Prop) : vR (some (.ref x)) K ↔ K x := ⟨fun ⟨_, h, k⟩ => Value.ref.inj (Option.some.inj h) ▸ k, fun k => ⟨x, rfl, k⟩⟩
theorem g_iload {mid : Nat} {is : List Instr} {lv st : List Value} {hp : fH} {Q : Option Value → fH → Prop} {i : Nat} : Go mid (.iload i :: is) lv st hp Q ↔ vI (lv[i]?) (fun x => Go mid is lv (.int x :: st) hp Q) := by
  constructor
  · intro g
    cases h : lv[i]? with
    | none => exact absurd g (go_none (by simp [stp, h]))
    | some v =>
      cases v with
      | int x => exact ⟨x, rfl, (go_next (by simp [stp, h])).mp g⟩
      | _ => exact absurd g (go_none (by simp [stp, h]))
  · rintro ⟨x, h, g⟩
    exact (go_next (by simp [stp, h])).mpr g
theorem g_lload {mid : Nat} {is : List Instr} {lv st : List Value} {hp : fH} {Q : Option Value → fH → Prop} {i : Nat} : Go mid (.lload i :: is) lv st hp Q ↔ vJ (lv[i]?) (fun x => Go mid is lv (.long x :: st) hp Q) := by
  constructor
  · intro g
    cases h : lv[i]? with
    | none => exact absurd g (go_none (by simp [stp, h]))
    | some v =>
      cases v with
      | long x => exact ⟨x, rfl, (go_next (by simp [stp, h])).mp g⟩
      | _ => exact absurd g (go_none (by simp [stp, h]))
  · rintro ⟨x, h, g⟩
    exact (go_next (by simp [stp, h])).mpr g
theorem g_aload {mid : Nat} {is : List Instr} {lv st : List Value} {hp : fH} {Q : Option Value → fH → Prop} {i : Nat} : Go mid (.aload i :: is) lv st hp Q ↔ vR (lv[i]?) (fun x => Go mid is lv (.ref x :: st) hp Q) := by
  constructor
  · intro g
    cases h : lv[i]? with
    | none => exact absurd g (go_none (by simp [stp, h]))
    | some v =>
      cases v with
      | ref x => exact ⟨x, rfl, (go_next (by simp [stp, h])).mp g⟩
      | _ => exact absurd g (go_none (by simp [stp, h]))
  · rintro ⟨x, h, g⟩
    exact (go_next (by simp [stp, h])).mpr g
theorem g_istore {mid : Nat} {is : List Instr} {lv st : List Value} {hp : fH} {Q : Option Value → fH → Prop} {i : Nat} {x : Int32} : Go mid (.istore i :: is) lv (.int x :: st) hp Q ↔ oB (sto lv i (.int x)) (fun v => Go mid is v st hp Q) := go_opt (sto lv i (.int x)) (fun v => (is, v, st, hp)) rfl
theorem g_astore {mid : Nat} {is : List Instr} {lv st : List Value} {hp : fH} {Q : Option Value → fH → Prop} {i : Nat} {x : Nat} : Go mid (.astore i :: is) lv (.ref x :: st) hp Q ↔ oB (sto lv i (.ref x)) (fun v => Go mid is v st hp Q) := go_opt (sto lv i (.ref x)) (fun v => (is, v, st, hp)) rfl
theorem g_lstore {mid : Nat} {is : List Instr} {lv st : List Value} {hp : fH} {Q : Option Value → fH → Prop} {i : Nat} {x : Int64} : Go mid (.lstore i :: is) lv (.long x :: st) hp Q ↔ oB (sto2 lv i (.long x)) (fun v => Go mid is v st hp Q) := go_opt (sto2 lv i (.long x)) (fun v => (is, v, st, hp)) rfl
theorem g_iinc {mid : Nat} {is : List Instr} {lv st : List Value} {hp : fH} {Q : Option Value → fH → Prop} {i : Nat} {c : Int} : Go mid (.iinc i c :: is) lv st hp Q ↔ vI (lv[i]?) (fun x => oB (sto lv i (.int (x + Int32.ofInt c))) (fun v => Go mid is v st hp Q)) := by
  constructor
  · intro g
    cases h : lv[i]? with
    | none => exact absurd g (go_none (by simp [stp, h]))
    | some v =>
      cases v with
      | int x => exact ⟨x, rfl, (go_opt (sto lv i (.int (x + Int32.ofInt c))) (fun v => (is, v, st, hp)) (by simp [stp, h])).mp g⟩
      | _ => exact absurd g (go_none (by simp [stp, h]))
  · rintro ⟨x, h, g⟩
    exact (go_opt (sto lv i (.int (x + Int32.ofInt c))) (fun v => (is, v, st, hp)) (by simp [stp, h])).mpr g
theorem g_getfield {mid : Nat} {is : List Instr} {lv st : List Value} {hp : fH} {Q : Option Value → fH → Prop} {n a : Nat} : Go mid (.getfield n :: is) lv (.ref a :: st) hp Q ↔ oB (gF (f_get hp a) n) (fun v => Go mid is lv (v :: st) hp Q) := go_opt (gF (f_get hp a) n) (fun v => (is, lv, v :: st, hp)) rfl
theorem g_putfield {mid : Nat} {is : List Instr} {lv st : List Value} {hp : fH} {Q : Option Value → fH → Prop} {n a : Nat} {x : Value} : Go mid (.putfield n :: is) lv (x :: .ref a :: st) hp Q ↔ oB (pF (f_get hp a) n x) (fun v => Go mid is lv st (f_st hp a v) Q) := go_opt (pF (f_get hp a) n x) (fun v => (is, lv, st, f_st hp a v)) rfl
theorem g_iaload {mid : Nat} {is : List Instr} {lv st : List Value} {hp : fH} {Q : Option Value → fH → Prop} {a : Nat} {i : Int32} : Go mid (.iaload :: is) lv (.int i :: .ref a :: st) hp Q ↔ oB (ldI (f_get hp a) i) (fun v => Go mid is lv (.int v :: st) hp Q) := go_opt (ldI (f_get hp a) i) (fun v => (is, lv, .int v :: st, hp)) rfl
theorem g_baload {mid : Nat} {is : List Instr} {lv st : List Value} {hp : fH} {Q : Option Value → fH → Prop} {a : Nat} {i : Int32} : Go mid (.baload :: is) lv (.int i :: .ref a :: st) hp Q ↔ oB (ldZ (f_get hp a) i) (fun v => Go mid is lv (.int v :: st) hp Q) := go_opt (ldZ (f_get hp a) i) (fun v => (is, lv, .int v :: st, hp)) rfl
theorem g_laload {mid : Nat} {is : List Instr} {lv st : List Value} {hp : fH} {Q : Option Value → fH → Prop} {a : Nat} {i : Int32} : Go mid (.laload :: is) lv (.int i :: .ref a :: st) hp Q ↔ oB (ldL (f_get hp a) i) (fun v => Go mid is lv (.long v :: st) hp Q) := go_opt (ldL (f_get hp a) i) (fun v => (is, lv, .long v :: st, hp)) rfl
theorem g_aaload {mid : Nat} {is : List Instr} {lv st : List Value} {hp : fH} {Q : Option Value → fH → Prop} {a : Nat} {i : Int32} : Go mid (.aaload :: is) lv (.int i :: .ref a :: st) hp Q ↔ oB (ldQ (f_get hp a) i) (fun v => Go mid is lv (.ref v :: st) hp Q) := go_opt (ldQ (f_get hp a) i) (fun v => (is, lv, .ref v :: st, hp)) rfl
theorem g_iastore {mid : Nat} {is : List Instr} {lv st : List Value} {hp : fH} {Q : Option Value → fH → Prop} {a : Nat} {i : Int32} {x : Int32} : Go mid (.iastore :: is) lv (.int x :: .int i :: .ref a :: st) hp Q ↔ oB (stI (f_get hp a) i x) (fun v => Go mid is lv st (f_st hp a v) Q) := go_opt (stI (f_get hp a) i x) (fun v => (is, lv, st, f_st hp a v)) rfl
theorem g_bastore {mid : Nat} {is : List Instr} {lv st : List Value} {hp : fH} {Q : Option Value → fH → Prop} {a : Nat} {i : Int32} {x : Int32} : Go mid (.bastore :: is) lv (.int x :: .int i :: .ref a :: st) hp Q ↔ oB (stZ (f_get hp a) i x) (fun v => Go mid is lv st (f_st hp a v) Q) := go_opt (stZ (f_get hp a) i x) (fun v => (is, lv, st, f_st hp a v)) rfl
theorem g_lastore {mid : Nat} {is : List Instr} {lv st : List Value} {hp : fH} {Q : Option Value → fH → Prop} {a : Nat} {i : Int32} {x : Int64} : Go mid (.lastore :: is) lv (.long x :: .int i :: .ref a :: st) hp Q ↔ oB (stL (f_get hp a) i x) (fun v => Go mid is lv st (f_st hp a v) Q) := go_opt (stL (f_get hp a) i x) (fun v => (is, lv, st, f_st hp a v)) rfl
theorem g_arraylength {mid : Nat} {is : List Instr} {lv st : List Value} {hp : fH} {Q : Option Value → fH → Prop} {a : Nat} : Go mid (.arraylength :: is) lv (.ref a :: st) hp Q ↔ oB (lenA (f_get hp a)) (fun v => Go mid is lv (.int v :: st) hp Q) := go_opt (lenA (f_get hp a)) (fun v => (is, lv, .int v :: st, hp)) rfl
theorem g_call0 {mid : Nat} {is : List Instr} {lv st : List Value} {hp : fH} {Q : Option Value → fH → Prop} {k : Nat}  (h : st.length ≤ 4) : Go mid (.invokeinterface k 0 :: is) lv (st) hp Q ↔ Call k [] hp (fun v h => Go mid is lv (v.toList ++ st) h Q) := go_call (by simp [stp, h])
theorem g_call1 {mid : Nat} {is : List Instr} {lv st : List Value} {hp : fH} {Q : Option Value → fH → Prop} {k : Nat} {a0 : Value} (h : st.length ≤ 4) : Go mid (.invokeinterface k 1 :: is) lv (a0 :: st) hp Q ↔ Call k [a0] hp (fun v h => Go mid is lv (v.toList ++ st) h Q) := go_call (by simp [stp, h])
theorem g_call2 {mid : Nat} {is : List Instr} {lv st : List Value} {hp : fH} {Q : Option Value → fH → Prop} {k : Nat} {a0 a1 : Value} (h : st.length ≤ 4) : Go mid (.invokeinterface k 2 :: is) lv (a1 :: a0 :: st) hp Q ↔ Call k [a0, a1] hp (fun v h => Go mid is lv (v.toList ++ st) h Q) := go_call (by simp [stp, h])
theorem g_call3 {mid : Nat} {is : List Instr} {lv st : List Value} {hp : fH} {Q : Option Value → fH → Prop} {k : Nat} {a0 a1 a2 : Value} (h : st.length ≤ 4) : Go mid (.invokeinterface k 3 :: is) lv (a2 :: a1 :: a0 :: st) hp Q ↔ Call k [a0, a1, a2] hp (fun v h => Go mid is lv (v.toList ++ st) h Q) := go_call (by simp [stp, h])
theorem g_call4 {mid : Nat} {is : List Instr} {lv st : List Value} {hp : fH} {Q : Option Value → fH → Prop} {k : Nat} {a0 a1 a2 a3 : Value} (h : st.length ≤ 4) : Go mid (.invokeinterface k 4 :: is) lv (a3 :: a2 :: a1 :: a0 :: st) hp Q ↔ Call k [a0, a1, a2, a3] hp (fun v h => Go mid is lv (v.toList ++ st) h Q) := go_call (by simp [stp, h])
theorem g_call5 {mid : Nat} {is : List Instr} {lv st : List Value} {hp : fH} {Q : Option Value → fH → Prop} {k : Nat} {a0 a1 a2 a3 a4 : Value} (h : st.length ≤ 4) : Go mid (.invokeinterface k 5 :: is) lv (a4 :: a3 :: a2 :: a1 :: a0 :: st) hp Q ↔ Call k [a0, a1, a2, a3, a4] hp (fun v h => Go mid is lv (v.toList ++ st) h Q) := go_call (by simp [stp, h])
theorem g_call6 {mid : Nat} {is : List Instr} {lv st : List Value} {hp : fH} {Q : Option Value → fH → Prop} {k : Nat} {a0 a1 a2 a3 a4 a5 : Value} (h : st.length ≤ 4) : Go mid (.invokeinterface k 6 :: is) lv (a5 :: a4 :: a3 :: a2 :: a1 :: a0 :: st) hp Q ↔ Call k [a0, a1, a2, a3, a4, a5] hp (fun v h => Go mid is lv (v.toList ++ st) h Q) := go_call (by simp [stp, h])
theorem g_ireturn {mid : Nat} {is : List Instr} {lv : List Value} {hp : fH} {Q : Option Value → fH → Prop} {v : Int32} : Go mid (.ireturn :: is) lv [.int v] hp Q ↔ Q (some (.int v)) hp := go_end rfl
theorem g_lreturn {mid : Nat} {is : List Instr} {lv : List Value} {hp : fH} {Q : Option Value → fH → Prop} {v : Int64} : Go mid (.lreturn :: is) lv [.long v] hp Q ↔ Q (some (.long v)) hp := go_end rfl
theorem g_return {mid : Nat} {is : List Instr} {lv : List Value} {hp : fH} {Q : Option Value → fH → Prop} : Go mid (.return_ :: is) lv [] hp Q ↔ Q none hp := go_end rfl
theorem g_zreturn {mid : Nat} {is : List Instr} {lv : List Value} {hp : fH} {Q : Option Value → fH → Prop} {v : Int32} : Go mid (.freturn :: is) lv [.int v] hp Q ↔ (v = 0 ∨ v = 1) ∧ Q (some (.int v)) hp := by
  by_cases h : v = 0 ∨ v = 1
  · rw [go_end (v := some (.int v)) (by simp [stp, h])]; exact ⟨fun g => ⟨h, g⟩, fun g => g.2⟩
  · exact ⟨fun g => absurd g (go_none (by simp [stp, h])), fun g => absurd g.1 h⟩
theorem fg_st (h : fH) (a b : Nat) (e : fE) : f_get (f_st h a e) b = if b = a then e else f_get h b := rfl
theorem fg_st_s (h : fH) (a : Nat) (e : fE) : f_get (f_st h a e) a = e := by simp [fg_st]
theorem fg_st_n {h : fH} {a b : Nat} {e : fE} (hn : b ≠ a) : f_get (f_st h a e) b = f_get h b := by simp [fg_st, hn]
theorem sto_0 (a : Value) (t : List Value) (v : Value) : sto (a :: t) 0 v = some (v :: t) := rfl
theorem sto_s (a : Value) (t : List Value) (i : Nat) (v : Value) : sto (a :: t) (i + 1) v = (sto t i v).map (fun r => (if i = 0 ∧ isL a = true then jk else a) :: r) := rfl
theorem sto2_0 (a : Value) (t : List Value) (v : Value) : sto2 (a :: t) 0 v = (sto t 0 jk).map (fun r => v :: r) := rfl
theorem sto2_s (a : Value) (t : List Value) (i : Nat) (v : Value) : sto2 (a :: t) (i + 1) v = (sto2 t i v).map (fun r => (if i = 0 ∧ isL a = true then jk else a) :: r) := rfl
theorem isL_i (x : Int32) : isL (.int x) = false := rfl
theorem isL_r (x : Nat) : isL (.ref x) = false := rfl
theorem isL_l (x : Int64) : isL (.long x) = true := rfl
theorem isL_j : isL jk = false := rfl
theorem ldI_0 (n : Nat) (f : Nat → Int32) (i : Int32) (K : Int32 → Prop) : oB (ldI (.inl (0, n, .inl f)) i) K ↔ vp_in i n ∧ K (f i.toNatClampNeg) := by simp only [ldI, oB_ite, oB_some, vp_in]
theorem ldI_9 (n : Nat) (f : Nat → Int32) (i : Int32) (K : Int32 → Prop) : oB (ldI (.inl (9, n, .inl f)) i) K ↔ vp_in i n ∧ K (f i.toNatClampNeg) := by simp only [ldI, oB_ite, oB_some, vp_in]
theorem ldZ_2 (n : Nat) (f : Nat → Int32) (i : Int32) (K : Int32 → Prop) : oB (ldZ (.inl (2, n, .inl f)) i) K ↔ vp_in i n ∧ K (f i.toNatClampNeg) := by simp only [ldZ, oB_ite, oB_some, vp_in]
theorem ldL_1 (n : Nat) (f : Nat → Int64) (i : Int32) (K : Int64 → Prop) : oB (ldL (.inl (1, n, .inr (.inl f))) i) K ↔ vp_in i n ∧ K (f i.toNatClampNeg) := by simp only [ldL, oB_ite, oB_some, vp_in]
theorem ldQ_3 (n : Nat) (f : Nat → Option Nat) (i : Int32) (K : Nat → Prop) : oB (ldQ (.inl (3, n, .inr (.inr (.inr (.inr f))))) i) K ↔ vp_in i n ∧ oB (f i.toNatClampNeg) K := by simp only [ldQ, oB_ite, vp_in]
theorem stI_0 (n : Nat) (f : Nat → Int32) (i x : Int32) (K : fE → Prop) : oB (stI (.inl (0, n, .inl f)) i x) K ↔ vp_in i n ∧ K (.inl (0, n, .inl (upd f i.toNatClampNeg x))) := by simp only [stI, oB_ite, oB_some, vp_in]
theorem stL_1 (n : Nat) (f : Nat → Int64) (i : Int32) (x : Int64) (K : fE → Prop) : oB (stL (.inl (1, n, .inr (.inl f))) i x) K ↔ vp_in i n ∧ K (.inl (1, n, .inr (.inl (vp_updL f i.toNatClampNeg x)))) := by simp only [stL, oB_ite, oB_some, vp_in]
theorem stZ_2 (n : Nat) (f : Nat → Int32) (i x : Int32) (K : fE → Prop) : oB (stZ (.inl (2, n, .inl f)) i x) K ↔ vp_in i n ∧ (x = 0 ∨ x = 1) ∧ K (.inl (2, n, .inl (upd f i.toNatClampNeg x))) := by
  simp only [stZ, oB_ite, oB_some, vp_in]
  constructor
  · rintro ⟨h, k⟩
    exact ⟨fun q => h (q.elim Or.inl (fun q => Or.inr (Or.inl q))), Classical.byContradiction (fun q => h (Or.inr (Or.inr q))), k⟩
  · rintro ⟨h, h1, k⟩
    exact ⟨fun q => q.elim (fun q => h (Or.inl q)) (fun q => q.elim (fun q => h (Or.inr q)) (fun q => q h1)), k⟩
theorem gF_o (ci : Nat) (fs : List Value) (n : Nat) (K : Value → Prop) : oB (gF (.inr (ci, fs)) n) K ↔ ci = n / 32 ∧ oB (fs[n % 32]?) K := by simp only [gF, oB_ite2]
theorem pF_o (ci : Nat) (fs : List Value) (n : Nat) (x : Value) (K : fE → Prop) : oB (pF (.inr (ci, fs)) n x) K ↔ (ci = n / 32 ∧ n % 32 < fs.length ∧ fit (fk n) x = true) ∧ K (.inr (ci, fs.set (n % 32) x)) := by simp only [pF, oB_ite2, oB_some]
theorem lenA_9 (n : Nat) (f : Nat → Int32) (K : Int32 → Prop) : oB (lenA (.inl (9, n, .inl f))) K ↔ K (Int32.ofNat n) := by simp only [lenA, oB_some]
end
section
/-! The small machine's heap, locals and stack as the real machine's. -/
/-- the script's own cell has this number in the small machine -/
def SL : Nat := 1000000
def cvN (b sb k : Nat) : Nat := if k = SL then sb else b + k
def cv (b sb : Nat) (v : Value) : Value := match v with
  | .ref k => .ref (cvN b sb k)
  | v => v
def cvA (b sb : Nat) (a : vp_A) : vp_A := match a with
  | (n, .inr (.inr (.inr (.inr f)))) => (n, .inr (.inr (.inr (.inr (fun j => (f j).map (cvN b sb))))))
  | a => a
def cvE (dA : Nat → ClassId) (b sb : Nat) (e : fE) : va_E := match e with
  | .inl (k, a) => .inl (dA k, cvA b sb a)
  | .inr (ci, fs) => .inr (ci, fs.map (cv b sb))
def wsO (dA : Nat → ClassId) (b sb : Nat) (hp : fH) : va_W := (List.range hp.1).map (fun k => (b + k, cvE dA b sb (hp.2.2 k)))
def bad : fE := .inr (99, [])
theorem wsO_get {dA : Nat → ClassId} {b sb : Nat} {hp : fH} {k : Nat} (h : k < hp.1) : (wsO dA b sb hp)[k]? = some (b + k, cvE dA b sb (hp.2.2 k)) := by
  simp [wsO, h]
theorem wsO_at {dA : Nat → ClassId} {b sb : Nat} {hp : fH} {k : Nat} {q : Nat × va_E} (h : (wsO dA b sb hp)[k]? = some q) : k < hp.1 ∧ q = (b + k, cvE dA b sb (hp.2.2 k)) := by
  have hk : k < hp.1 := by
    have := (List.getElem?_eq_some_iff.mp h).1
    simpa [wsO] using this
  rw [wsO_get hk] at h
  exact ⟨hk, (Option.some.inj h).symm⟩
theorem wsO_set {dA : Nat → ClassId} {b sb : Nat} {hp : fH} {k : Nat} (e : fE) : (wsO dA b sb hp).set k (b + k, cvE dA b sb e) = wsO dA b sb (f_st hp k e) := by
  apply List.ext_getElem?
  intro i
  rw [List.getElem?_set]
  by_cases hi : i < hp.1
  · by_cases hk : k = i
    · subst hk
      rw [if_pos rfl, if_pos (by simpa [wsO] using hi), wsO_get (show k < (f_st hp k e).1 from hi)]
      simp [f_st, f_up]
    · rw [if_neg hk, wsO_get hi, wsO_get (show i < (f_st hp k e).1 from hi)]
      simp [f_st, f_up, Ne.symm hk]
  · have h1 : (wsO dA b sb hp)[i]? = none := by simp [wsO]; omega
    have h2 : (wsO dA b sb (f_st hp k e))[i]? = none := by simp [wsO, f_st]; omega
    rw [h1, h2]
    by_cases hk : k = i
    · subst hk
      rw [if_pos rfl, if_neg (by simpa [wsO] using hi)]
    · rw [if_neg hk]
theorem wsO_new {dA : Nat → ClassId} {b sb : Nat} {hp : fH} (n : Nat) (e : fE) : wsO dA b sb (f_new hp n e) = wsO dA b sb hp ++ [(b + hp.1, cvE dA b sb e)] := by
  simp only [wsO, f_new, List.range_succ, List.map_append, List.map_cons, List.map_nil]
  congr 1
  · apply List.map_congr_left
    intro k hk
    have : k < hp.1 := List.mem_range.mp hk
    simp [f_up, Nat.ne_of_lt this]
  · simp [f_up]
theorem wsO_D {dA : Nat → ClassId} {b sb : Nat} {hp : fH} : va_D (fun q => b ≤ q) (wsO dA b sb hp) := by
  refine ⟨fun i j x y hx hy hxy => ?_, fun k q hq => ?_⟩
  · obtain ⟨-, rfl⟩ := wsO_at hx
    obtain ⟨-, rfl⟩ := wsO_at hy
    dsimp only at hxy
    omega
  · obtain ⟨-, rfl⟩ := wsO_at hq
    exact Nat.le_add_right _ _
/-- the real heap holds the small machine's cells, from b on, and the script at sb -/
def RH (dC : Nat → ClassId) (dI : Nat → Nat → Nat) (dA : Nat → ClassId) (b sb : Nat) (U : State) (hp : fH) (H : Heap) : Prop :=
  va_P (dC, dI) vwCl (wsO dA b sb hp) H ∧ (∀ n f, hp.2.2 SL = .inl (9, n, .inl f) → va_X sb n f U H) ∧ (∀ k, hp.1 ≤ k → k ≠ SL → hp.2.2 k = bad) ∧ hp.1 ≤ SL ∧ (∀ k, k ≠ SL → ∀ n x, hp.2.2 k ≠ .inl (9, n, x)) ∧ (hp.2.2 SL = bad ∨ ∃ n f, hp.2.2 SL = .inl (9, n, .inl f))
theorem RH.moved {dC : Nat → ClassId} {dI : Nat → Nat → Nat} {dA : Nat → ClassId} {b sb : Nat} {u U : State} {hp : fH} {H : Heap} (hvm : u.vm.Alike U.vm) (h : RH dC dI dA b sb u hp H) : RH dC dI dA b sb U hp H :=
  ⟨h.1, fun n f e => va_X.moved hvm (h.2.1 n f e), h.2.2⟩
/-- a number of a cell that isn't bad is below the size, or the script's -/
theorem RH.lt {dC : Nat → ClassId} {dI : Nat → Nat → Nat} {dA : Nat → ClassId} {b sb : Nat} {U : State} {hp : fH} {H : Heap} (h : RH dC dI dA b sb U hp H) {k : Nat} (hb : hp.2.2 k ≠ bad) (h9 : k ≠ SL) : k < hp.1 := by
  rcases Nat.lt_or_ge k hp.1 with q | q
  · exact q
  · exact absurd (h.2.2.1 k q h9) hb
/-- a cell is written -/
theorem RH.put {dC : Nat → ClassId} {dI : Nat → Nat → Nat} {dA : Nat → ClassId} {b sb : Nat} {U : State} {hp : fH} {H H1 : Heap} (h : RH dC dI dA b sb U hp H) {k : Nat} {e : fE} (hk : k < hp.1) (he : ∀ n x, e ≠ .inl (9, n, x)) (ho : H1[sb]? = H[sb]?) (hP : va_P (dC, dI) vwCl (wsO dA b sb (f_st hp k e)) H1) : RH dC dI dA b sb U (f_st hp k e) H1 := by
  obtain ⟨a2, a3, a4, a5, a6, a7⟩ := h
  have hks : SL ≠ k := by omega
  have e0 : (f_st hp k e).2.2 SL = hp.2.2 SL := by simp [f_st, f_up, hks]
  refine ⟨hP, fun n f q => ?_, fun j hj h9 => ?_, a5, fun j hj n x => ?_, by rw [e0]; exact a7⟩
  · rw [e0] at q
    exact (a3 n f q).kept ho
  · have : j ≠ k := by have : (f_st hp k e).1 = hp.1 := rfl; omega
    show f_up hp.2.2 k e j = bad
    simp only [f_up, if_neg this]
    exact a4 j hj h9
  · show f_up hp.2.2 k e j ≠ _
    by_cases hjk : j = k
    · simp only [f_up, if_pos hjk]; exact he n x
    · simp only [f_up, if_neg hjk]; exact a6 j hj n x
theorem RH.new {dC : Nat → ClassId} {dI : Nat → Nat → Nat} {dA : Nat → ClassId} {b sb : Nat} {U : State} {hp : fH} {H H1 : Heap} (h : RH dC dI dA b sb U hp H) {n : Nat} {e : fE} (hk : hp.1 < SL) (he : ∀ n x, e ≠ .inl (9, n, x)) (ho : H1[sb]? = H[sb]?) (hP : va_P (dC, dI) vwCl (wsO dA b sb (f_new hp n e)) H1) : RH dC dI dA b sb U (f_new hp n e) H1 := by
  obtain ⟨a2, a3, a4, a5, a6, a7⟩ := h
  have hks : SL ≠ hp.1 := by omega
  have e0 : (f_new hp n e).2.2 SL = hp.2.2 SL := by simp [f_new, f_up, hks]
  have e1 : (f_new hp n e).1 = hp.1 + 1 := rfl
  refine ⟨hP, fun n f q => ?_, fun j hj h9 => ?_, by omega, fun j hj n x => ?_, by rw [e0]; exact a7⟩
  · rw [e0] at q
    exact (a3 n f q).kept ho
  · have : j ≠ hp.1 := by omega
    show f_up hp.2.2 hp.1 e j = bad
    simp only [f_up, if_neg this]
    exact a4 j (by omega) h9
  · show f_up hp.2.2 hp.1 e j ≠ _
    by_cases hjk : j = hp.1
    · simp only [f_up, if_pos hjk]; exact he n x
    · simp only [f_up, if_neg hjk]; exact a6 j hj n x
/-! locals -/
def isJk (v : Value) : Bool := match v with
  | .retAddr _ => true
  | _ => false
def lvA (b sb : Nat) : Nat → List Value → List (Nat × Value)
  | _, [] => []
  | i, v :: t => if isJk v = true then lvA b sb (i + 1) t else (i, cv b sb v) :: lvA b sb (i + 1) t
theorem lvA_mem {b sb : Nat} : ∀ (lv : List Value) (j i : Nat) (v : Value), lv[i]? = some v → isJk v = false → (j + i, cv b sb v) ∈ lvA b sb j lv
  | [], j, i, v, h, _ => by simp at h
  | a :: t, j, 0, v, h, hv => by
    simp at h
    subst h
    simp [lvA, hv]
  | a :: t, j, i + 1, v, h, hv => by
    have h1 := lvA_mem (b := b) (sb := sb) t (j + 1) i v (by simpa using h) hv
    rw [show j + 1 + i = j + (i + 1) by omega] at h1
    rw [lvA]
    split
    · exact h1
    · exact List.mem_cons_of_mem _ h1
theorem lvA_inv {b sb : Nat} : ∀ (lv : List Value) (j : Nat) (q : Nat × Value), q ∈ lvA b sb j lv → ∃ i v, lv[i]? = some v ∧ isJk v = false ∧ q = (j + i, cv b sb v)
  | [], j, q, h => by simp [lvA] at h
  | a :: t, j, q, h => by
    rw [lvA] at h
    split at h
    · obtain ⟨i, v, h1, h2, h3⟩ := lvA_inv t (j + 1) q h
      exact ⟨i + 1, v, by simpa using h1, h2, by rw [h3]; congr 1; omega⟩
    · rename_i hj
      rcases List.mem_cons.mp h with h | h
      · exact ⟨0, a, by simp, by simpa using hj, by simpa using h⟩
      · obtain ⟨i, v, h1, h2, h3⟩ := lvA_inv t (j + 1) q h
        exact ⟨i + 1, v, by simpa using h1, h2, by rw [h3]; congr 1; omega⟩
theorem sto_get : ∀ (lv : List Value) (i : Nat) (v : Value) (lv' : List Value), sto lv i v = some lv' → i < lv.length ∧ lv'.length = lv.length ∧ ∀ j w, lv'[j]? = some w → isJk w = false → (j = i ∧ w = v) ∨ (j ≠ i ∧ lv[j]? = some w ∧ ¬ (j + 1 = i ∧ isL w = true))
  | [], i, v, lv', h => by simp [sto] at h
  | a :: t, 0, v, lv', h => by
    simp only [sto, Option.some.injEq] at h
    subst h
    refine ⟨by simp, by simp, fun j w hj hw => ?_⟩
    cases j with
    | zero => simp at hj; exact Or.inl ⟨rfl, hj.symm⟩
    | succ j => exact Or.inr ⟨by omega, by simpa using hj, by omega⟩
  | a :: t, i + 1, v, lv', h => by
    rw [sto, Option.map_eq_some_iff] at h
    obtain ⟨r, h1, rfl⟩ := h
    obtain ⟨g1, g2, g3⟩ := sto_get t i v r h1
    refine ⟨by simp; omega, by simp [g2], fun j w hj hw => ?_⟩
    cases j with
    | zero =>
      simp only [List.getElem?_cons_zero, Option.some.injEq] at hj
      by_cases hc : i = 0 ∧ isL a = true
      · rw [if_pos hc] at hj
        subst hj
        simp [isJk, jk] at hw
      · rw [if_neg hc] at hj
        subst hj
        refine Or.inr ⟨by omega, by simp, fun q => hc ⟨by omega, q.2⟩⟩
    | succ j =>
      rcases g3 j w (by simpa using hj) hw with ⟨q1, q2⟩ | ⟨q1, q2, q3⟩
      · exact Or.inl ⟨by omega, q2⟩
      · exact Or.inr ⟨by omega, by simpa using q2, fun q => q3 ⟨by omega, q.2⟩⟩
theorem sto2_get : ∀ (lv : List Value) (i : Nat) (v : Value) (lv' : List Value), sto2 lv i v = some lv' → i + 1 < lv.length ∧ lv'.length = lv.length ∧ ∀ j w, lv'[j]? = some w → isJk w = false → (j = i ∧ w = v) ∨ (j ≠ i ∧ j ≠ i + 1 ∧ lv[j]? = some w ∧ ¬ (j + 1 = i ∧ isL w = true))
  | [], i, v, lv', h => by simp [sto2] at h
  | a :: t, 0, v, lv', h => by
    rw [sto2, Option.map_eq_some_iff] at h
    obtain ⟨r, h1, rfl⟩ := h
    obtain ⟨g1, g2, g3⟩ := sto_get t 0 jk r h1
    refine ⟨by simp; omega, by simp [g2], fun j w hj hw => ?_⟩
    cases j with
    | zero => simp at hj; exact Or.inl ⟨rfl, hj.symm⟩
    | succ j =>
      rcases g3 j w (by simpa using hj) hw with ⟨q1, q2⟩ | ⟨q1, q2, q3⟩
      · subst q2; simp [isJk, jk] at hw
      · exact Or.inr ⟨by omega, by omega, by simpa using q2, by omega⟩
  | a :: t, i + 1, v, lv', h => by
    rw [sto2, Option.map_eq_some_iff] at h
    obtain ⟨r, h1, rfl⟩ := h
    obtain ⟨g1, g2, g3⟩ := sto2_get t i v r h1
    refine ⟨by simp; omega, by simp [g2], fun j w hj hw => ?_⟩
    cases j with
    | zero =>
      simp only [List.getElem?_cons_zero, Option.some.injEq] at hj
      by_cases hc : i = 0 ∧ isL a = true
      · rw [if_pos hc] at hj
        subst hj
        simp [isJk, jk] at hw
      · rw [if_neg hc] at hj
        subst hj
        refine Or.inr ⟨by omega, by omega, by simp, fun q => hc ⟨by omega, q.2⟩⟩
    | succ j =>
      rcases g3 j w (by simpa using hj) hw with ⟨q1, q2⟩ | ⟨q1, q2, q3, q4⟩
      · exact Or.inl ⟨by omega, q2⟩
      · exact Or.inr ⟨by omega, by omega, by simpa using q3, fun q => q4 ⟨by omega, q.2⟩⟩
def LV (b sb nL : Nat) (lv : List Value) (ls : Array Slot) : Prop := lv.length = nL ∧ lv_has ls nL (lvA b sb 0 lv)
theorem LV.at {b sb nL : Nat} {lv : List Value} {ls : Array Slot} (h : LV b sb nL lv ls) {i : Nat} {v : Value} (hi : lv[i]? = some v) (hv : isJk v = false) : ls[i]? = some (.val (cv b sb v)) := by
  have h1 := lvA_mem (b := b) (sb := sb) lv 0 i v hi hv
  rw [Nat.zero_add] at h1
  exact h.2.2.2 _ h1
theorem cv_cat (b sb : Nat) (v : Value) : (cv b sb v).category = 2 → isL v = true := by
  cases v <;> simp [cv, Value.category, isL]
theorem LV.sto1 {b sb nL : Nat} {lv lv' : List Value} {ls ls' : Array Slot} {i : Nat} {v : Value} (h : LV b sb nL lv ls) (hs : sto lv i v = some lv')
    (hl : lv_has ls' nL ((i, cv b sb v) :: (lvA b sb 0 lv).filter (fun q => !(q.1 == i) && !(q.1 + 1 == i && q.2.category == 2)))) : LV b sb nL lv' ls' := by
  obtain ⟨g1, g2, g3⟩ := sto_get lv i v lv' hs
  refine ⟨g2.trans h.1, hl.1, hl.2.1, fun q hq => ?_⟩
  obtain ⟨j, w, q1, q2, rfl⟩ := lvA_inv lv' 0 q hq
  rw [Nat.zero_add] at hq ⊢
  rcases g3 j w q1 q2 with ⟨rfl, rfl⟩ | ⟨r1, r2, r3⟩
  · exact hl.2.2 _ List.mem_cons_self
  · have hm := lvA_mem (b := b) (sb := sb) lv 0 j w r2 q2
    rw [Nat.zero_add] at hm
    refine hl.2.2 (j, cv b sb w) (List.mem_cons_of_mem _ (List.mem_filter.mpr ⟨hm, ?_⟩))
    by_cases hc : j + 1 = i ∧ (cv b sb w).category = 2
    · exact absurd ⟨hc.1, cv_cat b sb w hc.2⟩ r3
    · simp only [Bool.and_eq_true, Bool.not_eq_true', beq_eq_false_iff_ne, ne_eq, r1, not_false_eq_true, true_and, Bool.and_eq_false_iff]
      by_cases hj : j + 1 = i
      · exact Or.inr (fun q => hc ⟨hj, q⟩)
      · exact Or.inl hj
theorem LV.sto2 {b sb nL : Nat} {lv lv' : List Value} {ls ls' : Array Slot} {i : Nat} {v : Value} (h : LV b sb nL lv ls) (hs : sto2 lv i v = some lv')
    (hl : lv_has ls' nL ((i, cv b sb v) :: (lvA b sb 0 lv).filter (fun q => !(q.1 == i) && (!(q.1 == i + 1) && !(q.1 + 1 == i && q.2.category == 2))))) : LV b sb nL lv' ls' := by
  obtain ⟨g1, g2, g3⟩ := sto2_get lv i v lv' hs
  refine ⟨g2.trans h.1, hl.1, hl.2.1, fun q hq => ?_⟩
  obtain ⟨j, w, q1, q2, rfl⟩ := lvA_inv lv' 0 q hq
  rw [Nat.zero_add] at hq ⊢
  rcases g3 j w q1 q2 with ⟨rfl, rfl⟩ | ⟨r1, r0, r2, r3⟩
  · exact hl.2.2 _ List.mem_cons_self
  · have hm := lvA_mem (b := b) (sb := sb) lv 0 j w r2 q2
    rw [Nat.zero_add] at hm
    refine hl.2.2 (j, cv b sb w) (List.mem_cons_of_mem _ (List.mem_filter.mpr ⟨hm, ?_⟩))
    by_cases hc : j + 1 = i ∧ (cv b sb w).category = 2
    · exact absurd ⟨hc.1, cv_cat b sb w hc.2⟩ r3
    · simp only [Bool.and_eq_true, Bool.not_eq_true', beq_eq_false_iff_ne, ne_eq, r1, r0, not_false_eq_true, true_and, Bool.and_eq_false_iff]
      by_cases hj : j + 1 = i
      · exact Or.inr (fun q => hc ⟨hj, q⟩)
      · exact Or.inl hj
end
section
/-! The words of the tables that the small machine's links need, found by the kernel. -/
def AW : List Cond := lw_tbl.filter goodWord
theorem aw_of {w : Cond} (h : (decide (w ∈ tables_1) && goodWord w) = true) : w ∈ AW := by
  simp only [Bool.and_eq_true, decide_eq_true_eq] at h
  exact List.mem_filter.mpr ⟨List.mem_append_right _ h.1, h.2⟩
theorem aw_of2 {w : Cond} (h : (decide (w ∈ lw_tbl) && goodWord w) = true) : w ∈ AW := by
  simp only [Bool.and_eq_true, decide_eq_true_eq] at h
  exact List.mem_filter.mpr h
def wOK (w : Cond) : Bool := decide (w ∈ tables_1) && goodWord w
theorem wOK_in {w : Cond} (h : wOK w = true) : w ∈ AW := aw_of h
theorem aw_good : GoodIn AW AW := fun w hw => ⟨hw, good_of_word (List.mem_filter.mp hw).2⟩
theorem aw_tbl {args : Array Value} {s : State} (h : ∀ w ∈ lw_tbl, w.before args s = true) : ∀ w ∈ AW, w.before args s = true := fun w hw => h w (List.mem_filter.mp hw).1
def fldOK (q : Nat × Nat × Nat) : Bool := match vwCl[q.2.2 / 32]? with
  | some (_, T, N) => decide (q.2.2 % 32 < N) && wOK (.fieldLink (ownS q.1) q.2.1 (T (q.2.2 % 32)).1 (T (q.2.2 % 32)).2.1 (T (q.2.2 % 32)).2.2.1)
  | none => false
theorem fld_all : fldL.all fldOK = true := by decide +kernel
theorem u0 : (u_ws RX0 TX0 4).all wOK = true := by decide +kernel
theorem u1 : (u_ws RX1 TX1 1).all wOK = true := by decide +kernel
theorem u2 : (u_ws RX2 TX2 3).all wOK = true := by decide +kernel
theorem u3 : (u_ws RX3 TX3 3).all wOK = true := by decide +kernel
theorem u4 : (u_ws RX4 TX4 2).all wOK = true := by decide +kernel
theorem u5 : (u_ws RX5 TX5 8).all wOK = true := by decide +kernel
theorem u6 : (u_ws RX6 TX6 28).all wOK = true := by decide +kernel
def tyL (ci : Nat) : Nat → FieldType := match ci with
  | 0 => tyX0
  | 1 => tyX1
  | 2 => tyX2
  | 3 => tyX3
  | 4 => tyX4
  | 5 => tyX5
  | _ => tyX6
/-- what the tables say of class number ci -/
theorem cls_ok {ci : Nat} {C : String} {T : u_T} {N : Nat} (h : vwCl[ci]? = some (C, T, N)) : (∀ w ∈ u_ws C T N, w ∈ AW) ∧ (∀ k, k < N → parseFieldDescriptor (T k).2.2.1 = some (tyL ci k)) ∧ (∀ a, a < N → ∀ b, b < N → a ≠ b → (T a).2.1 ≠ (T b).2.1) ∧ ci < 7 := by
  match ci, h with
  | 0, h => cases h; exact ⟨fun w hw => wOK_in (List.all_eq_true.mp u0 w hw), tyX0_ok, nmX0, by decide⟩
  | 1, h => cases h; exact ⟨fun w hw => wOK_in (List.all_eq_true.mp u1 w hw), tyX1_ok, nmX1, by decide⟩
  | 2, h => cases h; exact ⟨fun w hw => wOK_in (List.all_eq_true.mp u2 w hw), tyX2_ok, nmX2, by decide⟩
  | 3, h => cases h; exact ⟨fun w hw => wOK_in (List.all_eq_true.mp u3 w hw), tyX3_ok, nmX3, by decide⟩
  | 4, h => cases h; exact ⟨fun w hw => wOK_in (List.all_eq_true.mp u4 w hw), tyX4_ok, nmX4, by decide⟩
  | 5, h => cases h; exact ⟨fun w hw => wOK_in (List.all_eq_true.mp u5 w hw), tyX5_ok, nmX5, by decide⟩
  | 6, h => cases h; exact ⟨fun w hw => wOK_in (List.all_eq_true.mp u6 w hw), tyX6_ok, nmX6, by decide⟩
  | k + 7, h => simp [vwCl] at h
theorem fld_ok {cn x n : Nat} (h : lk fldL cn x = some n) : ∃ C T N, vwCl[n / 32]? = some (C, T, N) ∧ n % 32 < N ∧ Cond.fieldLink (ownS cn) x (T (n % 32)).1 (T (n % 32)).2.1 (T (n % 32)).2.2.1 ∈ AW := by
  have h1 := List.all_eq_true.mp fld_all _ (lk_mem h)
  unfold fldOK at h1
  dsimp only at h1
  split at h1
  · rename_i C T N hv
    simp only [Bool.and_eq_true, decide_eq_true_eq] at h1
    exact ⟨C, T, N, hv, h1.1, wOK_in h1.2⟩
  · cases h1
def ldcOK (q : Nat × Nat × Int) : Bool := wOK (.constant (ownS q.1) q.2.1 (Int32.ofInt q.2.2))
theorem ldc_all : ldcL.all ldcOK = true := by decide +kernel
def ldc2OK (q : Nat × Nat × Int) : Bool := wOK (.constantLong (ownS q.1) q.2.1 (Int64.ofInt q.2.2))
theorem ldc2_all : ldc2L.all ldc2OK = true := by decide +kernel
def newOK (q : Nat × Nat × Nat) : Bool := match vwCl[q.2.2]? with
  | some (C, _, N) => wOK (.classLink (ownS q.1) q.2.1 C) && wOK (.instantiable C N) && wOK (.initialized C)
  | none => false
theorem new_all : newL.all newOK = true := by decide +kernel
theorem new_ok {cn x n : Nat} (h : lk newL cn x = some n) : ∃ C T N, vwCl[n]? = some (C, T, N) ∧ Cond.classLink (ownS cn) x C ∈ AW ∧ Cond.instantiable C N ∈ AW ∧ Cond.initialized C ∈ AW := by
  have h1 := List.all_eq_true.mp new_all _ (lk_mem h)
  unfold newOK at h1
  dsimp only at h1
  split at h1
  · rename_i C T N hv
    simp only [Bool.and_eq_true] at h1
    exact ⟨C, T, N, hv, wOK_in h1.1.1, wOK_in h1.1.2, wOK_in h1.2⟩
  · cases h1
theorem ac_i : Cond.arrayClass .int ∈ AW := wOK_in (by decide +kernel)
theorem ac_l : Cond.arrayClass .long ∈ AW := wOK_in (by decide +kernel)
theorem ac_z : Cond.arrayClass .boolean ∈ AW := wOK_in (by decide +kernel)
theorem ob_1 : Cond.instanceMethod Lib.objectInit ∈ AW := wOK_in (by decide +kernel)
theorem ob_2 : Cond.code Lib.objectInit ⟨#[0xb1]⟩ 1 none ∈ AW := wOK_in (by decide +kernel)
theorem am {w : Cond} (i : Nat) (h : tables_1[i]? = some w) (g : goodWord w = true) : w ∈ AW := List.mem_filter.mpr ⟨List.mem_append_right _ (List.mem_of_getElem? h), g⟩
theorem am2 {w : Cond} (i : Nat) (h : lw_tbl[i]? = some w) (g : goodWord w = true) : w ∈ AW := List.mem_filter.mpr ⟨List.mem_of_getElem? h, g⟩
/-- a method's own words -/
def Mw (k : Nat) : Prop := Cond.code (yM k) (cM k) (mlT.getD k 0) (rtF k) ∈ AW ∧ Cond.initialized (yM k).cls ∈ AW ∧ plainName (yM k).cls = true ∧ ((yM k).cls ≠ "java/lang/invoke/MethodHandle" ∧ (yM k).cls ≠ "java/lang/invoke/VarHandle") ∧ (yM k).cls = ownS (clT.getD k 99) ∧
  (kdT.getD k 0 = 0 → Cond.static (yM k) ∈ AW ∧ (parseMethodDescriptor (yM k).desc).map (fun d => d.parameters.length) = some (naT.getD k 99)) ∧
  (kdT.getD k 0 = 1 → Cond.instanceMethod (yM k) ∈ AW ∧ Cond.selects (yM k).cls (yM k) (yM k) ∈ AW ∧ (parseMethodDescriptor (yM k).desc).map (fun d => d.parameters.length + 1) = some (naT.getD k 99)) ∧
  (kdT.getD k 0 = 2 → Cond.instanceMethod (yM k) ∈ AW ∧ (yM k).name = "<init>" ∧ rtF k = none ∧ (parseMethodDescriptor (yM k).desc).map (fun d => d.parameters.length + 1) = some (naT.getD k 99))
set_option maxRecDepth 100000 in
theorem mw0 : Mw 0 := ⟨am 82 rfl rfl, am 5 rfl rfl, by decide +kernel, ⟨by decide +kernel, by decide +kernel⟩, by decide +kernel, fun h => absurd h (by decide), fun h => absurd h (by decide), fun _ => ⟨am 81 rfl rfl, by decide +kernel, by decide +kernel, by decide +kernel⟩⟩
set_option maxRecDepth 100000 in
theorem mw1 : Mw 1 := ⟨am 366 rfl rfl, am 5 rfl rfl, by decide +kernel, ⟨by decide +kernel, by decide +kernel⟩, by decide +kernel, fun h => absurd h (by decide), fun _ => ⟨am 364 rfl rfl, am 365 rfl rfl, by decide +kernel⟩, fun h => absurd h (by decide)⟩
set_option maxRecDepth 100000 in
theorem mw2 : Mw 2 := ⟨am 374 rfl rfl, am 5 rfl rfl, by decide +kernel, ⟨by decide +kernel, by decide +kernel⟩, by decide +kernel, fun h => absurd h (by decide), fun _ => ⟨am 373 rfl rfl, am2 9 rfl rfl, by decide +kernel⟩, fun h => absurd h (by decide)⟩
set_option maxRecDepth 100000 in
theorem mw3 : Mw 3 := ⟨am 386 rfl rfl, am 5 rfl rfl, by decide +kernel, ⟨by decide +kernel, by decide +kernel⟩, by decide +kernel, fun h => absurd h (by decide), fun _ => ⟨am 385 rfl rfl, am2 11 rfl rfl, by decide +kernel⟩, fun h => absurd h (by decide)⟩
set_option maxRecDepth 100000 in
theorem mw4 : Mw 4 := ⟨am 378 rfl rfl, am 5 rfl rfl, by decide +kernel, ⟨by decide +kernel, by decide +kernel⟩, by decide +kernel, fun h => absurd h (by decide), fun _ => ⟨am 377 rfl rfl, am2 10 rfl rfl, by decide +kernel⟩, fun h => absurd h (by decide)⟩
set_option maxRecDepth 100000 in
theorem mw5 : Mw 5 := ⟨am 389 rfl rfl, am 5 rfl rfl, by decide +kernel, ⟨by decide +kernel, by decide +kernel⟩, by decide +kernel, fun _ => ⟨am 388 rfl rfl, by decide +kernel⟩, fun h => absurd h (by decide), fun h => absurd h (by decide)⟩
set_option maxRecDepth 100000 in
theorem mw6 : Mw 6 := ⟨am 397 rfl rfl, am 5 rfl rfl, by decide +kernel, ⟨by decide +kernel, by decide +kernel⟩, by decide +kernel, fun h => absurd h (by decide), fun _ => ⟨am 396 rfl rfl, am2 12 rfl rfl, by decide +kernel⟩, fun h => absurd h (by decide)⟩
set_option maxRecDepth 100000 in
theorem mw7 : Mw 7 := ⟨am 393 rfl rfl, am 5 rfl rfl, by decide +kernel, ⟨by decide +kernel, by decide +kernel⟩, by decide +kernel, fun h => absurd h (by decide), fun _ => ⟨am 391 rfl rfl, am 392 rfl rfl, by decide +kernel⟩, fun h => absurd h (by decide)⟩
set_option maxRecDepth 100000 in
theorem mw8 : Mw 8 := ⟨am 401 rfl rfl, am 5 rfl rfl, by decide +kernel, ⟨by decide +kernel, by decide +kernel⟩, by decide +kernel, fun h => absurd h (by decide), fun _ => ⟨am 399 rfl rfl, am 400 rfl rfl, by decide +kernel⟩, fun h => absurd h (by decide)⟩
set_option maxRecDepth 100000 in
theorem mw9 : Mw 9 := ⟨am 487 rfl rfl, am 5 rfl rfl, by decide +kernel, ⟨by decide +kernel, by decide +kernel⟩, by decide +kernel, fun h => absurd h (by decide), fun _ => ⟨am 485 rfl rfl, am 486 rfl rfl, by decide +kernel⟩, fun h => absurd h (by decide)⟩
set_option maxRecDepth 100000 in
theorem mw10 : Mw 10 := ⟨am 102 rfl rfl, am 6 rfl rfl, by decide +kernel, ⟨by decide +kernel, by decide +kernel⟩, by decide +kernel, fun h => absurd h (by decide), fun h => absurd h (by decide), fun _ => ⟨am 101 rfl rfl, by decide +kernel, by decide +kernel, by decide +kernel⟩⟩
set_option maxRecDepth 100000 in
theorem mw11 : Mw 11 := ⟨am 536 rfl rfl, am 6 rfl rfl, by decide +kernel, ⟨by decide +kernel, by decide +kernel⟩, by decide +kernel, fun h => absurd h (by decide), fun _ => ⟨am 534 rfl rfl, am 535 rfl rfl, by decide +kernel⟩, fun h => absurd h (by decide)⟩
set_option maxRecDepth 100000 in
theorem mw12 : Mw 12 := ⟨am 540 rfl rfl, am 6 rfl rfl, by decide +kernel, ⟨by decide +kernel, by decide +kernel⟩, by decide +kernel, fun h => absurd h (by decide), fun _ => ⟨am 539 rfl rfl, am2 18 rfl rfl, by decide +kernel⟩, fun h => absurd h (by decide)⟩
set_option maxRecDepth 100000 in
theorem mw13 : Mw 13 := ⟨am 547 rfl rfl, am 6 rfl rfl, by decide +kernel, ⟨by decide +kernel, by decide +kernel⟩, by decide +kernel, fun h => absurd h (by decide), fun _ => ⟨am 546 rfl rfl, am2 19 rfl rfl, by decide +kernel⟩, fun h => absurd h (by decide)⟩
set_option maxRecDepth 100000 in
theorem mw14 : Mw 14 := ⟨am 551 rfl rfl, am 6 rfl rfl, by decide +kernel, ⟨by decide +kernel, by decide +kernel⟩, by decide +kernel, fun _ => ⟨am 550 rfl rfl, by decide +kernel⟩, fun h => absurd h (by decide), fun h => absurd h (by decide)⟩
set_option maxRecDepth 100000 in
theorem mw15 : Mw 15 := ⟨am 38 rfl rfl, am 3 rfl rfl, by decide +kernel, ⟨by decide +kernel, by decide +kernel⟩, by decide +kernel, fun h => absurd h (by decide), fun h => absurd h (by decide), fun _ => ⟨am 37 rfl rfl, by decide +kernel, by decide +kernel, by decide +kernel⟩⟩
set_option maxRecDepth 100000 in
theorem mw16 : Mw 16 := ⟨am 188 rfl rfl, am 3 rfl rfl, by decide +kernel, ⟨by decide +kernel, by decide +kernel⟩, by decide +kernel, fun h => absurd h (by decide), fun _ => ⟨am 186 rfl rfl, am 187 rfl rfl, by decide +kernel⟩, fun h => absurd h (by decide)⟩
set_option maxRecDepth 100000 in
theorem mw17 : Mw 17 := ⟨am 199 rfl rfl, am 3 rfl rfl, by decide +kernel, ⟨by decide +kernel, by decide +kernel⟩, by decide +kernel, fun h => absurd h (by decide), fun _ => ⟨am 197 rfl rfl, am 198 rfl rfl, by decide +kernel⟩, fun h => absurd h (by decide)⟩
set_option maxRecDepth 100000 in
theorem mw18 : Mw 18 := ⟨am 465 rfl rfl, am 3 rfl rfl, by decide +kernel, ⟨by decide +kernel, by decide +kernel⟩, by decide +kernel, fun h => absurd h (by decide), fun _ => ⟨am 463 rfl rfl, am 464 rfl rfl, by decide +kernel⟩, fun h => absurd h (by decide)⟩
set_option maxRecDepth 100000 in
theorem mw19 : Mw 19 := ⟨am 207 rfl rfl, am 3 rfl rfl, by decide +kernel, ⟨by decide +kernel, by decide +kernel⟩, by decide +kernel, fun h => absurd h (by decide), fun _ => ⟨am 205 rfl rfl, am 206 rfl rfl, by decide +kernel⟩, fun h => absurd h (by decide)⟩
set_option maxRecDepth 100000 in
theorem mw20 : Mw 20 := ⟨am 215 rfl rfl, am 3 rfl rfl, by decide +kernel, ⟨by decide +kernel, by decide +kernel⟩, by decide +kernel, fun h => absurd h (by decide), fun _ => ⟨am 213 rfl rfl, am 214 rfl rfl, by decide +kernel⟩, fun h => absurd h (by decide)⟩
set_option maxRecDepth 100000 in
theorem mw21 : Mw 21 := ⟨am 223 rfl rfl, am 3 rfl rfl, by decide +kernel, ⟨by decide +kernel, by decide +kernel⟩, by decide +kernel, fun h => absurd h (by decide), fun _ => ⟨am 221 rfl rfl, am 222 rfl rfl, by decide +kernel⟩, fun h => absurd h (by decide)⟩
set_option maxRecDepth 100000 in
theorem mw22 : Mw 22 := ⟨am 227 rfl rfl, am 3 rfl rfl, by decide +kernel, ⟨by decide +kernel, by decide +kernel⟩, by decide +kernel, fun h => absurd h (by decide), fun _ => ⟨am 225 rfl rfl, am 226 rfl rfl, by decide +kernel⟩, fun h => absurd h (by decide)⟩
set_option maxRecDepth 100000 in
theorem mw23 : Mw 23 := ⟨am 235 rfl rfl, am 3 rfl rfl, by decide +kernel, ⟨by decide +kernel, by decide +kernel⟩, by decide +kernel, fun h => absurd h (by decide), fun _ => ⟨am 233 rfl rfl, am 234 rfl rfl, by decide +kernel⟩, fun h => absurd h (by decide)⟩
set_option maxRecDepth 100000 in
theorem mw24 : Mw 24 := ⟨am 240 rfl rfl, am 3 rfl rfl, by decide +kernel, ⟨by decide +kernel, by decide +kernel⟩, by decide +kernel, fun h => absurd h (by decide), fun _ => ⟨am 238 rfl rfl, am 239 rfl rfl, by decide +kernel⟩, fun h => absurd h (by decide)⟩
set_option maxRecDepth 100000 in
theorem mw25 : Mw 25 := ⟨am 260 rfl rfl, am 3 rfl rfl, by decide +kernel, ⟨by decide +kernel, by decide +kernel⟩, by decide +kernel, fun h => absurd h (by decide), fun _ => ⟨am 258 rfl rfl, am 259 rfl rfl, by decide +kernel⟩, fun h => absurd h (by decide)⟩
set_option maxRecDepth 100000 in
theorem mw26 : Mw 26 := ⟨am 256 rfl rfl, am 3 rfl rfl, by decide +kernel, ⟨by decide +kernel, by decide +kernel⟩, by decide +kernel, fun h => absurd h (by decide), fun _ => ⟨am 254 rfl rfl, am 255 rfl rfl, by decide +kernel⟩, fun h => absurd h (by decide)⟩
set_option maxRecDepth 100000 in
theorem mw27 : Mw 27 := ⟨am 264 rfl rfl, am 3 rfl rfl, by decide +kernel, ⟨by decide +kernel, by decide +kernel⟩, by decide +kernel, fun h => absurd h (by decide), fun _ => ⟨am 262 rfl rfl, am 263 rfl rfl, by decide +kernel⟩, fun h => absurd h (by decide)⟩
set_option maxRecDepth 100000 in
theorem mw28 : Mw 28 := ⟨am 268 rfl rfl, am 3 rfl rfl, by decide +kernel, ⟨by decide +kernel, by decide +kernel⟩, by decide +kernel, fun h => absurd h (by decide), fun _ => ⟨am 266 rfl rfl, am 267 rfl rfl, by decide +kernel⟩, fun h => absurd h (by decide)⟩
set_option maxRecDepth 100000 in
theorem mw29 : Mw 29 := ⟨am 276 rfl rfl, am 3 rfl rfl, by decide +kernel, ⟨by decide +kernel, by decide +kernel⟩, by decide +kernel, fun h => absurd h (by decide), fun _ => ⟨am 274 rfl rfl, am 275 rfl rfl, by decide +kernel⟩, fun h => absurd h (by decide)⟩
set_option maxRecDepth 100000 in
theorem mw30 : Mw 30 := ⟨am 340 rfl rfl, am 3 rfl rfl, by decide +kernel, ⟨by decide +kernel, by decide +kernel⟩, by decide +kernel, fun h => absurd h (by decide), fun _ => ⟨am 338 rfl rfl, am 339 rfl rfl, by decide +kernel⟩, fun h => absurd h (by decide)⟩
set_option maxRecDepth 100000 in
theorem mw31 : Mw 31 := ⟨am 248 rfl rfl, am 3 rfl rfl, by decide +kernel, ⟨by decide +kernel, by decide +kernel⟩, by decide +kernel, fun h => absurd h (by decide), fun _ => ⟨am 246 rfl rfl, am 247 rfl rfl, by decide +kernel⟩, fun h => absurd h (by decide)⟩
set_option maxRecDepth 100000 in
theorem mw32 : Mw 32 := ⟨am 252 rfl rfl, am 3 rfl rfl, by decide +kernel, ⟨by decide +kernel, by decide +kernel⟩, by decide +kernel, fun h => absurd h (by decide), fun _ => ⟨am 251 rfl rfl, am2 3 rfl rfl, by decide +kernel⟩, fun h => absurd h (by decide)⟩
set_option maxRecDepth 100000 in
theorem mw33 : Mw 33 := ⟨am 272 rfl rfl, am 3 rfl rfl, by decide +kernel, ⟨by decide +kernel, by decide +kernel⟩, by decide +kernel, fun h => absurd h (by decide), fun _ => ⟨am 271 rfl rfl, am2 4 rfl rfl, by decide +kernel⟩, fun h => absurd h (by decide)⟩
set_option maxRecDepth 100000 in
theorem mw34 : Mw 34 := ⟨am 287 rfl rfl, am 3 rfl rfl, by decide +kernel, ⟨by decide +kernel, by decide +kernel⟩, by decide +kernel, fun h => absurd h (by decide), fun _ => ⟨am 285 rfl rfl, am 286 rfl rfl, by decide +kernel⟩, fun h => absurd h (by decide)⟩
set_option maxRecDepth 100000 in
theorem mw35 : Mw 35 := ⟨am 291 rfl rfl, am 3 rfl rfl, by decide +kernel, ⟨by decide +kernel, by decide +kernel⟩, by decide +kernel, fun h => absurd h (by decide), fun _ => ⟨am 289 rfl rfl, am 290 rfl rfl, by decide +kernel⟩, fun h => absurd h (by decide)⟩
set_option maxRecDepth 100000 in
theorem mw36 : Mw 36 := ⟨am 500 rfl rfl, am 3 rfl rfl, by decide +kernel, ⟨by decide +kernel, by decide +kernel⟩, by decide +kernel, fun h => absurd h (by decide), fun _ => ⟨am 498 rfl rfl, am 499 rfl rfl, by decide +kernel⟩, fun h => absurd h (by decide)⟩
set_option maxRecDepth 100000 in
theorem mw37 : Mw 37 := ⟨am 298 rfl rfl, am 3 rfl rfl, by decide +kernel, ⟨by decide +kernel, by decide +kernel⟩, by decide +kernel, fun h => absurd h (by decide), fun _ => ⟨am 296 rfl rfl, am 297 rfl rfl, by decide +kernel⟩, fun h => absurd h (by decide)⟩
set_option maxRecDepth 100000 in
theorem mw38 : Mw 38 := ⟨am 306 rfl rfl, am 3 rfl rfl, by decide +kernel, ⟨by decide +kernel, by decide +kernel⟩, by decide +kernel, fun h => absurd h (by decide), fun _ => ⟨am 304 rfl rfl, am 305 rfl rfl, by decide +kernel⟩, fun h => absurd h (by decide)⟩
set_option maxRecDepth 100000 in
theorem mw39 : Mw 39 := ⟨am 316 rfl rfl, am 3 rfl rfl, by decide +kernel, ⟨by decide +kernel, by decide +kernel⟩, by decide +kernel, fun h => absurd h (by decide), fun _ => ⟨am 314 rfl rfl, am 315 rfl rfl, by decide +kernel⟩, fun h => absurd h (by decide)⟩
set_option maxRecDepth 100000 in
theorem mw40 : Mw 40 := ⟨am 312 rfl rfl, am 3 rfl rfl, by decide +kernel, ⟨by decide +kernel, by decide +kernel⟩, by decide +kernel, fun h => absurd h (by decide), fun _ => ⟨am 310 rfl rfl, am 311 rfl rfl, by decide +kernel⟩, fun h => absurd h (by decide)⟩
set_option maxRecDepth 100000 in
theorem mw41 : Mw 41 := ⟨am 422 rfl rfl, am 3 rfl rfl, by decide +kernel, ⟨by decide +kernel, by decide +kernel⟩, by decide +kernel, fun h => absurd h (by decide), fun _ => ⟨am 420 rfl rfl, am 421 rfl rfl, by decide +kernel⟩, fun h => absurd h (by decide)⟩
set_option maxRecDepth 100000 in
theorem mw42 : Mw 42 := ⟨am 348 rfl rfl, am 3 rfl rfl, by decide +kernel, ⟨by decide +kernel, by decide +kernel⟩, by decide +kernel, fun h => absurd h (by decide), fun _ => ⟨am 346 rfl rfl, am 347 rfl rfl, by decide +kernel⟩, fun h => absurd h (by decide)⟩
set_option maxRecDepth 100000 in
theorem mw43 : Mw 43 := ⟨am 452 rfl rfl, am 3 rfl rfl, by decide +kernel, ⟨by decide +kernel, by decide +kernel⟩, by decide +kernel, fun h => absurd h (by decide), fun _ => ⟨am 450 rfl rfl, am 451 rfl rfl, by decide +kernel⟩, fun h => absurd h (by decide)⟩
set_option maxRecDepth 100000 in
theorem mw44 : Mw 44 := ⟨am 456 rfl rfl, am 3 rfl rfl, by decide +kernel, ⟨by decide +kernel, by decide +kernel⟩, by decide +kernel, fun h => absurd h (by decide), fun _ => ⟨am 454 rfl rfl, am 455 rfl rfl, by decide +kernel⟩, fun h => absurd h (by decide)⟩
set_option maxRecDepth 100000 in
theorem mw45 : Mw 45 := ⟨am 461 rfl rfl, am 3 rfl rfl, by decide +kernel, ⟨by decide +kernel, by decide +kernel⟩, by decide +kernel, fun h => absurd h (by decide), fun _ => ⟨am 460 rfl rfl, am2 13 rfl rfl, by decide +kernel⟩, fun h => absurd h (by decide)⟩
set_option maxRecDepth 100000 in
theorem mw46 : Mw 46 := ⟨am 352 rfl rfl, am 3 rfl rfl, by decide +kernel, ⟨by decide +kernel, by decide +kernel⟩, by decide +kernel, fun h => absurd h (by decide), fun _ => ⟨am 350 rfl rfl, am 351 rfl rfl, by decide +kernel⟩, fun h => absurd h (by decide)⟩
set_option maxRecDepth 100000 in
theorem mw47 : Mw 47 := ⟨am 328 rfl rfl, am 3 rfl rfl, by decide +kernel, ⟨by decide +kernel, by decide +kernel⟩, by decide +kernel, fun h => absurd h (by decide), fun _ => ⟨am 326 rfl rfl, am 327 rfl rfl, by decide +kernel⟩, fun h => absurd h (by decide)⟩
set_option maxRecDepth 100000 in
theorem mw48 : Mw 48 := ⟨am 332 rfl rfl, am 3 rfl rfl, by decide +kernel, ⟨by decide +kernel, by decide +kernel⟩, by decide +kernel, fun h => absurd h (by decide), fun _ => ⟨am 331 rfl rfl, am2 6 rfl rfl, by decide +kernel⟩, fun h => absurd h (by decide)⟩
set_option maxRecDepth 100000 in
theorem mw49 : Mw 49 := ⟨am 336 rfl rfl, am 3 rfl rfl, by decide +kernel, ⟨by decide +kernel, by decide +kernel⟩, by decide +kernel, fun h => absurd h (by decide), fun _ => ⟨am 335 rfl rfl, am2 7 rfl rfl, by decide +kernel⟩, fun h => absurd h (by decide)⟩
set_option maxRecDepth 100000 in
theorem mw50 : Mw 50 := ⟨am 344 rfl rfl, am 3 rfl rfl, by decide +kernel, ⟨by decide +kernel, by decide +kernel⟩, by decide +kernel, fun h => absurd h (by decide), fun _ => ⟨am 343 rfl rfl, am2 8 rfl rfl, by decide +kernel⟩, fun h => absurd h (by decide)⟩
set_option maxRecDepth 100000 in
theorem mw51 : Mw 51 := ⟨am 382 rfl rfl, am 3 rfl rfl, by decide +kernel, ⟨by decide +kernel, by decide +kernel⟩, by decide +kernel, fun h => absurd h (by decide), fun _ => ⟨am 380 rfl rfl, am 381 rfl rfl, by decide +kernel⟩, fun h => absurd h (by decide)⟩
set_option maxRecDepth 100000 in
theorem mw52 : Mw 52 := ⟨am 65 rfl rfl, am 4 rfl rfl, by decide +kernel, ⟨by decide +kernel, by decide +kernel⟩, by decide +kernel, fun h => absurd h (by decide), fun h => absurd h (by decide), fun _ => ⟨am 64 rfl rfl, by decide +kernel, by decide +kernel, by decide +kernel⟩⟩
set_option maxRecDepth 100000 in
theorem mw53 : Mw 53 := ⟨am 324 rfl rfl, am 4 rfl rfl, by decide +kernel, ⟨by decide +kernel, by decide +kernel⟩, by decide +kernel, fun h => absurd h (by decide), fun _ => ⟨am 322 rfl rfl, am 323 rfl rfl, by decide +kernel⟩, fun h => absurd h (by decide)⟩
set_option maxRecDepth 100000 in
theorem mw54 : Mw 54 := ⟨am 370 rfl rfl, am 4 rfl rfl, by decide +kernel, ⟨by decide +kernel, by decide +kernel⟩, by decide +kernel, fun h => absurd h (by decide), fun _ => ⟨am 368 rfl rfl, am 369 rfl rfl, by decide +kernel⟩, fun h => absurd h (by decide)⟩
set_option maxRecDepth 100000 in
theorem mw55 : Mw 55 := ⟨am 356 rfl rfl, am 4 rfl rfl, by decide +kernel, ⟨by decide +kernel, by decide +kernel⟩, by decide +kernel, fun h => absurd h (by decide), fun _ => ⟨am 354 rfl rfl, am 355 rfl rfl, by decide +kernel⟩, fun h => absurd h (by decide)⟩
set_option maxRecDepth 100000 in
theorem mw56 : Mw 56 := ⟨am 516 rfl rfl, am 4 rfl rfl, by decide +kernel, ⟨by decide +kernel, by decide +kernel⟩, by decide +kernel, fun h => absurd h (by decide), fun _ => ⟨am 515 rfl rfl, am2 16 rfl rfl, by decide +kernel⟩, fun h => absurd h (by decide)⟩
set_option maxRecDepth 100000 in
theorem mw57 : Mw 57 := ⟨am 512 rfl rfl, am 4 rfl rfl, by decide +kernel, ⟨by decide +kernel, by decide +kernel⟩, by decide +kernel, fun h => absurd h (by decide), fun _ => ⟨am 510 rfl rfl, am 511 rfl rfl, by decide +kernel⟩, fun h => absurd h (by decide)⟩
set_option maxRecDepth 100000 in
theorem mw58 : Mw 58 := ⟨am 524 rfl rfl, am 4 rfl rfl, by decide +kernel, ⟨by decide +kernel, by decide +kernel⟩, by decide +kernel, fun h => absurd h (by decide), fun _ => ⟨am 522 rfl rfl, am 523 rfl rfl, by decide +kernel⟩, fun h => absurd h (by decide)⟩
set_option maxRecDepth 100000 in
theorem mw59 : Mw 59 := ⟨am 22 rfl rfl, am 2 rfl rfl, by decide +kernel, ⟨by decide +kernel, by decide +kernel⟩, by decide +kernel, fun h => absurd h (by decide), fun h => absurd h (by decide), fun _ => ⟨am 21 rfl rfl, by decide +kernel, by decide +kernel, by decide +kernel⟩⟩
set_option maxRecDepth 100000 in
theorem mw60 : Mw 60 := ⟨am 142 rfl rfl, am 2 rfl rfl, by decide +kernel, ⟨by decide +kernel, by decide +kernel⟩, by decide +kernel, fun h => absurd h (by decide), fun _ => ⟨am 140 rfl rfl, am 141 rfl rfl, by decide +kernel⟩, fun h => absurd h (by decide)⟩
set_option maxRecDepth 100000 in
theorem mw61 : Mw 61 := ⟨am 154 rfl rfl, am 2 rfl rfl, by decide +kernel, ⟨by decide +kernel, by decide +kernel⟩, by decide +kernel, fun h => absurd h (by decide), fun _ => ⟨am 152 rfl rfl, am 153 rfl rfl, by decide +kernel⟩, fun h => absurd h (by decide)⟩
set_option maxRecDepth 100000 in
theorem mw62 : Mw 62 := ⟨am 158 rfl rfl, am 2 rfl rfl, by decide +kernel, ⟨by decide +kernel, by decide +kernel⟩, by decide +kernel, fun h => absurd h (by decide), fun _ => ⟨am 157 rfl rfl, am2 0 rfl rfl, by decide +kernel⟩, fun h => absurd h (by decide)⟩
set_option maxRecDepth 100000 in
theorem mw63 : Mw 63 := ⟨am 165 rfl rfl, am 2 rfl rfl, by decide +kernel, ⟨by decide +kernel, by decide +kernel⟩, by decide +kernel, fun h => absurd h (by decide), fun _ => ⟨am 164 rfl rfl, am2 1 rfl rfl, by decide +kernel⟩, fun h => absurd h (by decide)⟩
set_option maxRecDepth 100000 in
theorem mw64 : Mw 64 := ⟨am 161 rfl rfl, am 2 rfl rfl, by decide +kernel, ⟨by decide +kernel, by decide +kernel⟩, by decide +kernel, fun _ => ⟨am 160 rfl rfl, by decide +kernel⟩, fun h => absurd h (by decide), fun h => absurd h (by decide)⟩
set_option maxRecDepth 100000 in
theorem mw65 : Mw 65 := ⟨am 176 rfl rfl, am 2 rfl rfl, by decide +kernel, ⟨by decide +kernel, by decide +kernel⟩, by decide +kernel, fun h => absurd h (by decide), fun _ => ⟨am 174 rfl rfl, am 175 rfl rfl, by decide +kernel⟩, fun h => absurd h (by decide)⟩
set_option maxRecDepth 100000 in
theorem mw66 : Mw 66 := ⟨am 14 rfl rfl, am 1 rfl rfl, by decide +kernel, ⟨by decide +kernel, by decide +kernel⟩, by decide +kernel, fun h => absurd h (by decide), fun h => absurd h (by decide), fun _ => ⟨am 13 rfl rfl, by decide +kernel, by decide +kernel, by decide +kernel⟩⟩
set_option maxRecDepth 100000 in
theorem mw67 : Mw 67 := ⟨am 138 rfl rfl, am 1 rfl rfl, by decide +kernel, ⟨by decide +kernel, by decide +kernel⟩, by decide +kernel, fun h => absurd h (by decide), fun _ => ⟨am 136 rfl rfl, am 137 rfl rfl, by decide +kernel⟩, fun h => absurd h (by decide)⟩
set_option maxRecDepth 100000 in
theorem mw68 : Mw 68 := ⟨am 146 rfl rfl, am 1 rfl rfl, by decide +kernel, ⟨by decide +kernel, by decide +kernel⟩, by decide +kernel, fun h => absurd h (by decide), fun _ => ⟨am 144 rfl rfl, am 145 rfl rfl, by decide +kernel⟩, fun h => absurd h (by decide)⟩
set_option maxRecDepth 100000 in
theorem mw69 : Mw 69 := ⟨am 150 rfl rfl, am 1 rfl rfl, by decide +kernel, ⟨by decide +kernel, by decide +kernel⟩, by decide +kernel, fun h => absurd h (by decide), fun _ => ⟨am 148 rfl rfl, am 149 rfl rfl, by decide +kernel⟩, fun h => absurd h (by decide)⟩
set_option maxRecDepth 100000 in
theorem mw70 : Mw 70 := ⟨am 169 rfl rfl, am 1 rfl rfl, by decide +kernel, ⟨by decide +kernel, by decide +kernel⟩, by decide +kernel, fun h => absurd h (by decide), fun _ => ⟨am 167 rfl rfl, am 168 rfl rfl, by decide +kernel⟩, fun h => absurd h (by decide)⟩
set_option maxRecDepth 100000 in
theorem mw71 : Mw 71 := ⟨am 180 rfl rfl, am 1 rfl rfl, by decide +kernel, ⟨by decide +kernel, by decide +kernel⟩, by decide +kernel, fun h => absurd h (by decide), fun _ => ⟨am 178 rfl rfl, am 179 rfl rfl, by decide +kernel⟩, fun h => absurd h (by decide)⟩
set_option maxRecDepth 100000 in
theorem mw72 : Mw 72 := ⟨am 192 rfl rfl, am 1 rfl rfl, by decide +kernel, ⟨by decide +kernel, by decide +kernel⟩, by decide +kernel, fun h => absurd h (by decide), fun _ => ⟨am 190 rfl rfl, am 191 rfl rfl, by decide +kernel⟩, fun h => absurd h (by decide)⟩
set_option maxRecDepth 100000 in
theorem mw73 : Mw 73 := ⟨am 203 rfl rfl, am 1 rfl rfl, by decide +kernel, ⟨by decide +kernel, by decide +kernel⟩, by decide +kernel, fun h => absurd h (by decide), fun _ => ⟨am 201 rfl rfl, am 202 rfl rfl, by decide +kernel⟩, fun h => absurd h (by decide)⟩
set_option maxRecDepth 100000 in
theorem mw74 : Mw 74 := ⟨am 211 rfl rfl, am 1 rfl rfl, by decide +kernel, ⟨by decide +kernel, by decide +kernel⟩, by decide +kernel, fun h => absurd h (by decide), fun _ => ⟨am 209 rfl rfl, am 210 rfl rfl, by decide +kernel⟩, fun h => absurd h (by decide)⟩
set_option maxRecDepth 100000 in
theorem mw75 : Mw 75 := ⟨am 219 rfl rfl, am 1 rfl rfl, by decide +kernel, ⟨by decide +kernel, by decide +kernel⟩, by decide +kernel, fun h => absurd h (by decide), fun _ => ⟨am 217 rfl rfl, am 218 rfl rfl, by decide +kernel⟩, fun h => absurd h (by decide)⟩
set_option maxRecDepth 100000 in
theorem mw76 : Mw 76 := ⟨am 231 rfl rfl, am 1 rfl rfl, by decide +kernel, ⟨by decide +kernel, by decide +kernel⟩, by decide +kernel, fun h => absurd h (by decide), fun _ => ⟨am 229 rfl rfl, am 230 rfl rfl, by decide +kernel⟩, fun h => absurd h (by decide)⟩
set_option maxRecDepth 100000 in
theorem mw77 : Mw 77 := ⟨am 244 rfl rfl, am 1 rfl rfl, by decide +kernel, ⟨by decide +kernel, by decide +kernel⟩, by decide +kernel, fun h => absurd h (by decide), fun _ => ⟨am 242 rfl rfl, am 243 rfl rfl, by decide +kernel⟩, fun h => absurd h (by decide)⟩
set_option maxRecDepth 100000 in
theorem mw78 : Mw 78 := ⟨am 280 rfl rfl, am 1 rfl rfl, by decide +kernel, ⟨by decide +kernel, by decide +kernel⟩, by decide +kernel, fun h => absurd h (by decide), fun _ => ⟨am 278 rfl rfl, am 279 rfl rfl, by decide +kernel⟩, fun h => absurd h (by decide)⟩
set_option maxRecDepth 100000 in
theorem mw79 : Mw 79 := ⟨am 405 rfl rfl, am 1 rfl rfl, by decide +kernel, ⟨by decide +kernel, by decide +kernel⟩, by decide +kernel, fun h => absurd h (by decide), fun _ => ⟨am 403 rfl rfl, am 404 rfl rfl, by decide +kernel⟩, fun h => absurd h (by decide)⟩
set_option maxRecDepth 100000 in
theorem mw80 : Mw 80 := ⟨am 410 rfl rfl, am 1 rfl rfl, by decide +kernel, ⟨by decide +kernel, by decide +kernel⟩, by decide +kernel, fun h => absurd h (by decide), fun _ => ⟨am 408 rfl rfl, am 409 rfl rfl, by decide +kernel⟩, fun h => absurd h (by decide)⟩
set_option maxRecDepth 100000 in
theorem mw81 : Mw 81 := ⟨am 415 rfl rfl, am 1 rfl rfl, by decide +kernel, ⟨by decide +kernel, by decide +kernel⟩, by decide +kernel, fun h => absurd h (by decide), fun _ => ⟨am 413 rfl rfl, am 414 rfl rfl, by decide +kernel⟩, fun h => absurd h (by decide)⟩
set_option maxRecDepth 100000 in
theorem mw82 : Mw 82 := ⟨am 432 rfl rfl, am 1 rfl rfl, by decide +kernel, ⟨by decide +kernel, by decide +kernel⟩, by decide +kernel, fun h => absurd h (by decide), fun _ => ⟨am 430 rfl rfl, am 431 rfl rfl, by decide +kernel⟩, fun h => absurd h (by decide)⟩
set_option maxRecDepth 100000 in
theorem mw83 : Mw 83 := ⟨am 440 rfl rfl, am 1 rfl rfl, by decide +kernel, ⟨by decide +kernel, by decide +kernel⟩, by decide +kernel, fun h => absurd h (by decide), fun _ => ⟨am 438 rfl rfl, am 439 rfl rfl, by decide +kernel⟩, fun h => absurd h (by decide)⟩
set_option maxRecDepth 100000 in
theorem mw84 : Mw 84 := ⟨am 448 rfl rfl, am 1 rfl rfl, by decide +kernel, ⟨by decide +kernel, by decide +kernel⟩, by decide +kernel, fun h => absurd h (by decide), fun _ => ⟨am 446 rfl rfl, am 447 rfl rfl, by decide +kernel⟩, fun h => absurd h (by decide)⟩
set_option maxRecDepth 100000 in
theorem mw85 : Mw 85 := ⟨am 469 rfl rfl, am 1 rfl rfl, by decide +kernel, ⟨by decide +kernel, by decide +kernel⟩, by decide +kernel, fun h => absurd h (by decide), fun _ => ⟨am 467 rfl rfl, am 468 rfl rfl, by decide +kernel⟩, fun h => absurd h (by decide)⟩
set_option maxRecDepth 100000 in
theorem mw86 : Mw 86 := ⟨am 478 rfl rfl, am 1 rfl rfl, by decide +kernel, ⟨by decide +kernel, by decide +kernel⟩, by decide +kernel, fun h => absurd h (by decide), fun _ => ⟨am 476 rfl rfl, am 477 rfl rfl, by decide +kernel⟩, fun h => absurd h (by decide)⟩
set_option maxRecDepth 100000 in
theorem mw87 : Mw 87 := ⟨am 483 rfl rfl, am 1 rfl rfl, by decide +kernel, ⟨by decide +kernel, by decide +kernel⟩, by decide +kernel, fun h => absurd h (by decide), fun _ => ⟨am 481 rfl rfl, am 482 rfl rfl, by decide +kernel⟩, fun h => absurd h (by decide)⟩
set_option maxRecDepth 100000 in
theorem mw88 : Mw 88 := ⟨am 491 rfl rfl, am 1 rfl rfl, by decide +kernel, ⟨by decide +kernel, by decide +kernel⟩, by decide +kernel, fun h => absurd h (by decide), fun _ => ⟨am 489 rfl rfl, am 490 rfl rfl, by decide +kernel⟩, fun h => absurd h (by decide)⟩
set_option maxRecDepth 100000 in
theorem mw89 : Mw 89 := ⟨am 504 rfl rfl, am 1 rfl rfl, by decide +kernel, ⟨by decide +kernel, by decide +kernel⟩, by decide +kernel, fun h => absurd h (by decide), fun _ => ⟨am 502 rfl rfl, am 503 rfl rfl, by decide +kernel⟩, fun h => absurd h (by decide)⟩
set_option maxRecDepth 100000 in
theorem mw90 : Mw 90 := ⟨am 508 rfl rfl, am 1 rfl rfl, by decide +kernel, ⟨by decide +kernel, by decide +kernel⟩, by decide +kernel, fun h => absurd h (by decide), fun _ => ⟨am 506 rfl rfl, am 507 rfl rfl, by decide +kernel⟩, fun h => absurd h (by decide)⟩
set_option maxRecDepth 100000 in
theorem mw91 : Mw 91 := ⟨am 520 rfl rfl, am 1 rfl rfl, by decide +kernel, ⟨by decide +kernel, by decide +kernel⟩, by decide +kernel, fun h => absurd h (by decide), fun _ => ⟨am 518 rfl rfl, am 519 rfl rfl, by decide +kernel⟩, fun h => absurd h (by decide)⟩
set_option maxRecDepth 100000 in
theorem mw92 : Mw 92 := ⟨am 528 rfl rfl, am 1 rfl rfl, by decide +kernel, ⟨by decide +kernel, by decide +kernel⟩, by decide +kernel, fun h => absurd h (by decide), fun _ => ⟨am 526 rfl rfl, am 527 rfl rfl, by decide +kernel⟩, fun h => absurd h (by decide)⟩
set_option maxRecDepth 100000 in
theorem mw93 : Mw 93 := ⟨am 555 rfl rfl, am 1 rfl rfl, by decide +kernel, ⟨by decide +kernel, by decide +kernel⟩, by decide +kernel, fun h => absurd h (by decide), fun _ => ⟨am 553 rfl rfl, am 554 rfl rfl, by decide +kernel⟩, fun h => absurd h (by decide)⟩
set_option maxRecDepth 100000 in
theorem mw94 : Mw 94 := ⟨am 559 rfl rfl, am 1 rfl rfl, by decide +kernel, ⟨by decide +kernel, by decide +kernel⟩, by decide +kernel, fun h => absurd h (by decide), fun _ => ⟨am 557 rfl rfl, am 558 rfl rfl, by decide +kernel⟩, fun h => absurd h (by decide)⟩
set_option maxRecDepth 100000 in
theorem mw95 : Mw 95 := ⟨am 563 rfl rfl, am 1 rfl rfl, by decide +kernel, ⟨by decide +kernel, by decide +kernel⟩, by decide +kernel, fun h => absurd h (by decide), fun _ => ⟨am 561 rfl rfl, am 562 rfl rfl, by decide +kernel⟩, fun h => absurd h (by decide)⟩
set_option maxRecDepth 100000 in
theorem mw96 : Mw 96 := ⟨am 571 rfl rfl, am 1 rfl rfl, by decide +kernel, ⟨by decide +kernel, by decide +kernel⟩, by decide +kernel, fun h => absurd h (by decide), fun _ => ⟨am 569 rfl rfl, am 570 rfl rfl, by decide +kernel⟩, fun h => absurd h (by decide)⟩
set_option maxRecDepth 100000 in
theorem mw97 : Mw 97 := ⟨am 575 rfl rfl, am 1 rfl rfl, by decide +kernel, ⟨by decide +kernel, by decide +kernel⟩, by decide +kernel, fun h => absurd h (by decide), fun _ => ⟨am 573 rfl rfl, am 574 rfl rfl, by decide +kernel⟩, fun h => absurd h (by decide)⟩
set_option maxRecDepth 100000 in
theorem mw98 : Mw 98 := ⟨am 172 rfl rfl, am 1 rfl rfl, by decide +kernel, ⟨by decide +kernel, by decide +kernel⟩, by decide +kernel, fun _ => ⟨am 171 rfl rfl, by decide +kernel⟩, fun h => absurd h (by decide), fun h => absurd h (by decide)⟩
set_option maxRecDepth 100000 in
theorem mw99 : Mw 99 := ⟨am 195 rfl rfl, am 1 rfl rfl, by decide +kernel, ⟨by decide +kernel, by decide +kernel⟩, by decide +kernel, fun _ => ⟨am 194 rfl rfl, by decide +kernel⟩, fun h => absurd h (by decide), fun h => absurd h (by decide)⟩
set_option maxRecDepth 100000 in
theorem mw100 : Mw 100 := ⟨am 418 rfl rfl, am 1 rfl rfl, by decide +kernel, ⟨by decide +kernel, by decide +kernel⟩, by decide +kernel, fun _ => ⟨am 417 rfl rfl, by decide +kernel⟩, fun h => absurd h (by decide), fun h => absurd h (by decide)⟩
set_option maxRecDepth 100000 in
theorem mw101 : Mw 101 := ⟨am 184 rfl rfl, am 1 rfl rfl, by decide +kernel, ⟨by decide +kernel, by decide +kernel⟩, by decide +kernel, fun h => absurd h (by decide), fun _ => ⟨am 183 rfl rfl, am2 2 rfl rfl, by decide +kernel⟩, fun h => absurd h (by decide)⟩
set_option maxRecDepth 100000 in
theorem mw102 : Mw 102 := ⟨am 473 rfl rfl, am 1 rfl rfl, by decide +kernel, ⟨by decide +kernel, by decide +kernel⟩, by decide +kernel, fun h => absurd h (by decide), fun _ => ⟨am 472 rfl rfl, am2 14 rfl rfl, by decide +kernel⟩, fun h => absurd h (by decide)⟩
set_option maxRecDepth 100000 in
theorem mw103 : Mw 103 := ⟨am 532 rfl rfl, am 1 rfl rfl, by decide +kernel, ⟨by decide +kernel, by decide +kernel⟩, by decide +kernel, fun h => absurd h (by decide), fun _ => ⟨am 531 rfl rfl, am2 17 rfl rfl, by decide +kernel⟩, fun h => absurd h (by decide)⟩
set_option maxRecDepth 100000 in
theorem mw104 : Mw 104 := ⟨am 283 rfl rfl, am 1 rfl rfl, by decide +kernel, ⟨by decide +kernel, by decide +kernel⟩, by decide +kernel, fun _ => ⟨am 282 rfl rfl, by decide +kernel⟩, fun h => absurd h (by decide), fun h => absurd h (by decide)⟩
set_option maxRecDepth 100000 in
theorem mw105 : Mw 105 := ⟨am 320 rfl rfl, am 1 rfl rfl, by decide +kernel, ⟨by decide +kernel, by decide +kernel⟩, by decide +kernel, fun h => absurd h (by decide), fun _ => ⟨am 319 rfl rfl, am2 5 rfl rfl, by decide +kernel⟩, fun h => absurd h (by decide)⟩
set_option maxRecDepth 100000 in
theorem mw106 : Mw 106 := ⟨am 435 rfl rfl, am 1 rfl rfl, by decide +kernel, ⟨by decide +kernel, by decide +kernel⟩, by decide +kernel, fun _ => ⟨am 434 rfl rfl, by decide +kernel⟩, fun h => absurd h (by decide), fun h => absurd h (by decide)⟩
set_option maxRecDepth 100000 in
theorem mw107 : Mw 107 := ⟨am 495 rfl rfl, am 1 rfl rfl, by decide +kernel, ⟨by decide +kernel, by decide +kernel⟩, by decide +kernel, fun h => absurd h (by decide), fun _ => ⟨am 494 rfl rfl, am2 15 rfl rfl, by decide +kernel⟩, fun h => absurd h (by decide)⟩
set_option maxRecDepth 100000 in
theorem mw108 : Mw 108 := ⟨am 567 rfl rfl, am 1 rfl rfl, by decide +kernel, ⟨by decide +kernel, by decide +kernel⟩, by decide +kernel, fun h => absurd h (by decide), fun _ => ⟨am 566 rfl rfl, am2 20 rfl rfl, by decide +kernel⟩, fun h => absurd h (by decide)⟩
set_option maxRecDepth 100000 in
theorem mw109 : Mw 109 := ⟨am 579 rfl rfl, am 1 rfl rfl, by decide +kernel, ⟨by decide +kernel, by decide +kernel⟩, by decide +kernel, fun h => absurd h (by decide), fun _ => ⟨am 578 rfl rfl, am2 21 rfl rfl, by decide +kernel⟩, fun h => absurd h (by decide)⟩
set_option maxRecDepth 100000 in
theorem mw110 : Mw 110 := ⟨am 302 rfl rfl, am 1 rfl rfl, by decide +kernel, ⟨by decide +kernel, by decide +kernel⟩, by decide +kernel, fun _ => ⟨am 301 rfl rfl, by decide +kernel⟩, fun h => absurd h (by decide), fun h => absurd h (by decide)⟩
set_option maxRecDepth 100000 in
theorem mw111 : Mw 111 := ⟨am 584 rfl rfl, am 7 rfl rfl, by decide +kernel, ⟨by decide +kernel, by decide +kernel⟩, by decide +kernel, fun h => absurd h (by decide), fun h => absurd h (by decide), fun _ => ⟨am 583 rfl rfl, by decide +kernel, by decide +kernel, by decide +kernel⟩⟩
set_option maxRecDepth 100000 in
theorem mw112 : Mw 112 := ⟨am 678 rfl rfl, am 7 rfl rfl, by decide +kernel, ⟨by decide +kernel, by decide +kernel⟩, by decide +kernel, fun _ => ⟨am 677 rfl rfl, by decide +kernel⟩, fun h => absurd h (by decide), fun h => absurd h (by decide)⟩
set_option maxRecDepth 100000 in
theorem mw113 : Mw 113 := ⟨am 674 rfl rfl, am 7 rfl rfl, by decide +kernel, ⟨by decide +kernel, by decide +kernel⟩, by decide +kernel, fun h => absurd h (by decide), fun _ => ⟨am 672 rfl rfl, am 673 rfl rfl, by decide +kernel⟩, fun h => absurd h (by decide)⟩
set_option maxRecDepth 100000 in
theorem mw114 : Mw 114 := ⟨am 683 rfl rfl, am 7 rfl rfl, by decide +kernel, ⟨by decide +kernel, by decide +kernel⟩, by decide +kernel, fun h => absurd h (by decide), fun _ => ⟨am 681 rfl rfl, am 682 rfl rfl, by decide +kernel⟩, fun h => absurd h (by decide)⟩
set_option maxRecDepth 100000 in
theorem mw115 : Mw 115 := ⟨am 694 rfl rfl, am 7 rfl rfl, by decide +kernel, ⟨by decide +kernel, by decide +kernel⟩, by decide +kernel, fun _ => ⟨am 693 rfl rfl, by decide +kernel⟩, fun h => absurd h (by decide), fun h => absurd h (by decide)⟩
set_option maxRecDepth 100000 in
theorem mw116 : Mw 116 := ⟨am 702 rfl rfl, am 7 rfl rfl, by decide +kernel, ⟨by decide +kernel, by decide +kernel⟩, by decide +kernel, fun h => absurd h (by decide), fun _ => ⟨am 701 rfl rfl, am2 23 rfl rfl, by decide +kernel⟩, fun h => absurd h (by decide)⟩
set_option maxRecDepth 100000 in
theorem mw117 : Mw 117 := ⟨am 691 rfl rfl, am 7 rfl rfl, by decide +kernel, ⟨by decide +kernel, by decide +kernel⟩, by decide +kernel, fun h => absurd h (by decide), fun _ => ⟨am 690 rfl rfl, am2 22 rfl rfl, by decide +kernel⟩, fun h => absurd h (by decide)⟩
set_option maxRecDepth 100000 in
theorem mw118 : Mw 118 := ⟨am 687 rfl rfl, am 7 rfl rfl, by decide +kernel, ⟨by decide +kernel, by decide +kernel⟩, by decide +kernel, fun h => absurd h (by decide), fun _ => ⟨am 685 rfl rfl, am 686 rfl rfl, by decide +kernel⟩, fun h => absurd h (by decide)⟩
set_option maxRecDepth 100000 in
theorem mw119 : Mw 119 := ⟨am 709 rfl rfl, am 7 rfl rfl, by decide +kernel, ⟨by decide +kernel, by decide +kernel⟩, by decide +kernel, fun _ => ⟨am 708 rfl rfl, by decide +kernel⟩, fun h => absurd h (by decide), fun h => absurd h (by decide)⟩
set_option maxRecDepth 100000 in
theorem mw120 : Mw 120 := ⟨am 718 rfl rfl, am 7 rfl rfl, by decide +kernel, ⟨by decide +kernel, by decide +kernel⟩, by decide +kernel, fun h => absurd h (by decide), fun _ => ⟨am 717 rfl rfl, am2 24 rfl rfl, by decide +kernel⟩, fun h => absurd h (by decide)⟩
set_option maxRecDepth 100000 in
theorem mw121 : Mw 121 := ⟨am 725 rfl rfl, am 7 rfl rfl, by decide +kernel, ⟨by decide +kernel, by decide +kernel⟩, by decide +kernel, fun _ => ⟨am 724 rfl rfl, by decide +kernel⟩, fun h => absurd h (by decide), fun h => absurd h (by decide)⟩
set_option maxRecDepth 100000 in
theorem mw122 : Mw 122 := ⟨am 706 rfl rfl, am 7 rfl rfl, by decide +kernel, ⟨by decide +kernel, by decide +kernel⟩, by decide +kernel, fun h => absurd h (by decide), fun _ => ⟨am 704 rfl rfl, am 705 rfl rfl, by decide +kernel⟩, fun h => absurd h (by decide)⟩
set_option maxRecDepth 100000 in
theorem mw123 : Mw 123 := ⟨am 714 rfl rfl, am 7 rfl rfl, by decide +kernel, ⟨by decide +kernel, by decide +kernel⟩, by decide +kernel, fun h => absurd h (by decide), fun _ => ⟨am 712 rfl rfl, am 713 rfl rfl, by decide +kernel⟩, fun h => absurd h (by decide)⟩
set_option maxRecDepth 100000 in
theorem mw124 : Mw 124 := ⟨am 730 rfl rfl, am 7 rfl rfl, by decide +kernel, ⟨by decide +kernel, by decide +kernel⟩, by decide +kernel, fun h => absurd h (by decide), fun _ => ⟨am 729 rfl rfl, am2 25 rfl rfl, by decide +kernel⟩, fun h => absurd h (by decide)⟩
set_option maxRecDepth 100000 in
theorem mw125 : Mw 125 := ⟨am 722 rfl rfl, am 7 rfl rfl, by decide +kernel, ⟨by decide +kernel, by decide +kernel⟩, by decide +kernel, fun h => absurd h (by decide), fun _ => ⟨am 720 rfl rfl, am 721 rfl rfl, by decide +kernel⟩, fun h => absurd h (by decide)⟩
set_option maxRecDepth 100000 in
theorem mw126 : Mw 126 := ⟨am 734 rfl rfl, am 7 rfl rfl, by decide +kernel, ⟨by decide +kernel, by decide +kernel⟩, by decide +kernel, fun h => absurd h (by decide), fun _ => ⟨am 732 rfl rfl, am 733 rfl rfl, by decide +kernel⟩, fun h => absurd h (by decide)⟩
set_option maxRecDepth 100000 in
theorem mw127 : Mw 127 := ⟨am 738 rfl rfl, am 7 rfl rfl, by decide +kernel, ⟨by decide +kernel, by decide +kernel⟩, by decide +kernel, fun h => absurd h (by decide), fun _ => ⟨am 736 rfl rfl, am 737 rfl rfl, by decide +kernel⟩, fun h => absurd h (by decide)⟩
set_option maxRecDepth 100000 in
theorem mw128 : Mw 128 := ⟨am 742 rfl rfl, am 7 rfl rfl, by decide +kernel, ⟨by decide +kernel, by decide +kernel⟩, by decide +kernel, fun h => absurd h (by decide), fun _ => ⟨am 740 rfl rfl, am 741 rfl rfl, by decide +kernel⟩, fun h => absurd h (by decide)⟩
set_option maxRecDepth 100000 in
theorem mw129 : Mw 129 := ⟨am 747 rfl rfl, am 7 rfl rfl, by decide +kernel, ⟨by decide +kernel, by decide +kernel⟩, by decide +kernel, fun h => absurd h (by decide), fun _ => ⟨am 745 rfl rfl, am 746 rfl rfl, by decide +kernel⟩, fun h => absurd h (by decide)⟩
set_option maxRecDepth 100000 in
theorem mw130 : Mw 130 := ⟨am 760 rfl rfl, am 7 rfl rfl, by decide +kernel, ⟨by decide +kernel, by decide +kernel⟩, by decide +kernel, fun h => absurd h (by decide), fun _ => ⟨am 759 rfl rfl, am2 27 rfl rfl, by decide +kernel⟩, fun h => absurd h (by decide)⟩
set_option maxRecDepth 100000 in
theorem mw131 : Mw 131 := ⟨am 764 rfl rfl, am 7 rfl rfl, by decide +kernel, ⟨by decide +kernel, by decide +kernel⟩, by decide +kernel, fun h => absurd h (by decide), fun _ => ⟨am 763 rfl rfl, am2 28 rfl rfl, by decide +kernel⟩, fun h => absurd h (by decide)⟩
set_option maxRecDepth 100000 in
theorem mw132 : Mw 132 := ⟨am 775 rfl rfl, am 7 rfl rfl, by decide +kernel, ⟨by decide +kernel, by decide +kernel⟩, by decide +kernel, fun h => absurd h (by decide), fun _ => ⟨am 774 rfl rfl, am2 30 rfl rfl, by decide +kernel⟩, fun h => absurd h (by decide)⟩
set_option maxRecDepth 100000 in
theorem mw133 : Mw 133 := ⟨am 768 rfl rfl, am 7 rfl rfl, by decide +kernel, ⟨by decide +kernel, by decide +kernel⟩, by decide +kernel, fun h => absurd h (by decide), fun _ => ⟨am 767 rfl rfl, am2 29 rfl rfl, by decide +kernel⟩, fun h => absurd h (by decide)⟩
set_option maxRecDepth 100000 in
theorem mw134 : Mw 134 := ⟨am 771 rfl rfl, am 7 rfl rfl, by decide +kernel, ⟨by decide +kernel, by decide +kernel⟩, by decide +kernel, fun _ => ⟨am 770 rfl rfl, by decide +kernel⟩, fun h => absurd h (by decide), fun h => absurd h (by decide)⟩
set_option maxRecDepth 100000 in
theorem mw135 : Mw 135 := ⟨am 756 rfl rfl, am 7 rfl rfl, by decide +kernel, ⟨by decide +kernel, by decide +kernel⟩, by decide +kernel, fun h => absurd h (by decide), fun _ => ⟨am 755 rfl rfl, am2 26 rfl rfl, by decide +kernel⟩, fun h => absurd h (by decide)⟩
set_option maxRecDepth 100000 in
theorem mw136 : Mw 136 := ⟨am 752 rfl rfl, am 7 rfl rfl, by decide +kernel, ⟨by decide +kernel, by decide +kernel⟩, by decide +kernel, fun h => absurd h (by decide), fun _ => ⟨am 750 rfl rfl, am 751 rfl rfl, by decide +kernel⟩, fun h => absurd h (by decide)⟩
set_option maxRecDepth 100000 in
theorem mw137 : Mw 137 := ⟨am 799 rfl rfl, am 7 rfl rfl, by decide +kernel, ⟨by decide +kernel, by decide +kernel⟩, by decide +kernel, fun h => absurd h (by decide), fun _ => ⟨am 798 rfl rfl, am2 34 rfl rfl, by decide +kernel⟩, fun h => absurd h (by decide)⟩
set_option maxRecDepth 100000 in
theorem mw138 : Mw 138 := ⟨am 795 rfl rfl, am 7 rfl rfl, by decide +kernel, ⟨by decide +kernel, by decide +kernel⟩, by decide +kernel, fun h => absurd h (by decide), fun _ => ⟨am 794 rfl rfl, am2 33 rfl rfl, by decide +kernel⟩, fun h => absurd h (by decide)⟩
set_option maxRecDepth 100000 in
theorem mw139 : Mw 139 := ⟨am 821 rfl rfl, am 7 rfl rfl, by decide +kernel, ⟨by decide +kernel, by decide +kernel⟩, by decide +kernel, fun _ => ⟨am 820 rfl rfl, by decide +kernel⟩, fun h => absurd h (by decide), fun h => absurd h (by decide)⟩
set_option maxRecDepth 100000 in
theorem mw140 : Mw 140 := ⟨am 818 rfl rfl, am 7 rfl rfl, by decide +kernel, ⟨by decide +kernel, by decide +kernel⟩, by decide +kernel, fun _ => ⟨am 817 rfl rfl, by decide +kernel⟩, fun h => absurd h (by decide), fun h => absurd h (by decide)⟩
set_option maxRecDepth 100000 in
theorem mw141 : Mw 141 := ⟨am 832 rfl rfl, am 7 rfl rfl, by decide +kernel, ⟨by decide +kernel, by decide +kernel⟩, by decide +kernel, fun h => absurd h (by decide), fun _ => ⟨am 831 rfl rfl, am2 36 rfl rfl, by decide +kernel⟩, fun h => absurd h (by decide)⟩
set_option maxRecDepth 100000 in
theorem mw142 : Mw 142 := ⟨am 791 rfl rfl, am 7 rfl rfl, by decide +kernel, ⟨by decide +kernel, by decide +kernel⟩, by decide +kernel, fun h => absurd h (by decide), fun _ => ⟨am 790 rfl rfl, am2 32 rfl rfl, by decide +kernel⟩, fun h => absurd h (by decide)⟩
set_option maxRecDepth 100000 in
theorem mw143 : Mw 143 := ⟨am 783 rfl rfl, am 7 rfl rfl, by decide +kernel, ⟨by decide +kernel, by decide +kernel⟩, by decide +kernel, fun h => absurd h (by decide), fun _ => ⟨am 782 rfl rfl, am2 31 rfl rfl, by decide +kernel⟩, fun h => absurd h (by decide)⟩
set_option maxRecDepth 100000 in
theorem mw144 : Mw 144 := ⟨am 779 rfl rfl, am 7 rfl rfl, by decide +kernel, ⟨by decide +kernel, by decide +kernel⟩, by decide +kernel, fun h => absurd h (by decide), fun _ => ⟨am 777 rfl rfl, am 778 rfl rfl, by decide +kernel⟩, fun h => absurd h (by decide)⟩
set_option maxRecDepth 100000 in
theorem mw145 : Mw 145 := ⟨am 787 rfl rfl, am 7 rfl rfl, by decide +kernel, ⟨by decide +kernel, by decide +kernel⟩, by decide +kernel, fun h => absurd h (by decide), fun _ => ⟨am 785 rfl rfl, am 786 rfl rfl, by decide +kernel⟩, fun h => absurd h (by decide)⟩
set_option maxRecDepth 100000 in
theorem mw146 : Mw 146 := ⟨am 809 rfl rfl, am 7 rfl rfl, by decide +kernel, ⟨by decide +kernel, by decide +kernel⟩, by decide +kernel, fun h => absurd h (by decide), fun _ => ⟨am 808 rfl rfl, am2 35 rfl rfl, by decide +kernel⟩, fun h => absurd h (by decide)⟩
set_option maxRecDepth 100000 in
theorem mw147 : Mw 147 := ⟨am 803 rfl rfl, am 7 rfl rfl, by decide +kernel, ⟨by decide +kernel, by decide +kernel⟩, by decide +kernel, fun h => absurd h (by decide), fun _ => ⟨am 801 rfl rfl, am 802 rfl rfl, by decide +kernel⟩, fun h => absurd h (by decide)⟩
set_option maxRecDepth 100000 in
theorem mw148 : Mw 148 := ⟨am 813 rfl rfl, am 7 rfl rfl, by decide +kernel, ⟨by decide +kernel, by decide +kernel⟩, by decide +kernel, fun h => absurd h (by decide), fun _ => ⟨am 811 rfl rfl, am 812 rfl rfl, by decide +kernel⟩, fun h => absurd h (by decide)⟩
set_option maxRecDepth 100000 in
theorem mw149 : Mw 149 := ⟨am 825 rfl rfl, am 7 rfl rfl, by decide +kernel, ⟨by decide +kernel, by decide +kernel⟩, by decide +kernel, fun h => absurd h (by decide), fun _ => ⟨am 823 rfl rfl, am 824 rfl rfl, by decide +kernel⟩, fun h => absurd h (by decide)⟩
set_option maxRecDepth 100000 in
theorem mw150 : Mw 150 := ⟨am 837 rfl rfl, am 7 rfl rfl, by decide +kernel, ⟨by decide +kernel, by decide +kernel⟩, by decide +kernel, fun h => absurd h (by decide), fun _ => ⟨am 835 rfl rfl, am 836 rfl rfl, by decide +kernel⟩, fun h => absurd h (by decide)⟩
set_option maxRecDepth 100000 in
theorem mw151 : Mw 151 := ⟨am 841 rfl rfl, am 7 rfl rfl, by decide +kernel, ⟨by decide +kernel, by decide +kernel⟩, by decide +kernel, fun h => absurd h (by decide), fun _ => ⟨am 840 rfl rfl, am2 37 rfl rfl, by decide +kernel⟩, fun h => absurd h (by decide)⟩
set_option maxRecDepth 100000 in
theorem mw152 : Mw 152 := ⟨am 845 rfl rfl, am 7 rfl rfl, by decide +kernel, ⟨by decide +kernel, by decide +kernel⟩, by decide +kernel, fun h => absurd h (by decide), fun _ => ⟨am 844 rfl rfl, am2 38 rfl rfl, by decide +kernel⟩, fun h => absurd h (by decide)⟩
set_option maxRecDepth 100000 in
theorem mw153 : Mw 153 := ⟨am 861 rfl rfl, am 7 rfl rfl, by decide +kernel, ⟨by decide +kernel, by decide +kernel⟩, by decide +kernel, fun h => absurd h (by decide), fun _ => ⟨am 860 rfl rfl, am2 41 rfl rfl, by decide +kernel⟩, fun h => absurd h (by decide)⟩
set_option maxRecDepth 100000 in
theorem mw154 : Mw 154 := ⟨am 865 rfl rfl, am 7 rfl rfl, by decide +kernel, ⟨by decide +kernel, by decide +kernel⟩, by decide +kernel, fun h => absurd h (by decide), fun _ => ⟨am 864 rfl rfl, am2 42 rfl rfl, by decide +kernel⟩, fun h => absurd h (by decide)⟩
set_option maxRecDepth 100000 in
theorem mw155 : Mw 155 := ⟨am 869 rfl rfl, am 7 rfl rfl, by decide +kernel, ⟨by decide +kernel, by decide +kernel⟩, by decide +kernel, fun h => absurd h (by decide), fun _ => ⟨am 868 rfl rfl, am2 43 rfl rfl, by decide +kernel⟩, fun h => absurd h (by decide)⟩
set_option maxRecDepth 100000 in
theorem mw156 : Mw 156 := ⟨am 857 rfl rfl, am 7 rfl rfl, by decide +kernel, ⟨by decide +kernel, by decide +kernel⟩, by decide +kernel, fun h => absurd h (by decide), fun _ => ⟨am 856 rfl rfl, am2 40 rfl rfl, by decide +kernel⟩, fun h => absurd h (by decide)⟩
set_option maxRecDepth 100000 in
theorem mw157 : Mw 157 := ⟨am 877 rfl rfl, am 7 rfl rfl, by decide +kernel, ⟨by decide +kernel, by decide +kernel⟩, by decide +kernel, fun h => absurd h (by decide), fun _ => ⟨am 876 rfl rfl, am2 44 rfl rfl, by decide +kernel⟩, fun h => absurd h (by decide)⟩
set_option maxRecDepth 100000 in
theorem mw158 : Mw 158 := ⟨am 881 rfl rfl, am 7 rfl rfl, by decide +kernel, ⟨by decide +kernel, by decide +kernel⟩, by decide +kernel, fun h => absurd h (by decide), fun _ => ⟨am 880 rfl rfl, am2 45 rfl rfl, by decide +kernel⟩, fun h => absurd h (by decide)⟩
set_option maxRecDepth 100000 in
theorem mw159 : Mw 159 := ⟨am 853 rfl rfl, am 7 rfl rfl, by decide +kernel, ⟨by decide +kernel, by decide +kernel⟩, by decide +kernel, fun h => absurd h (by decide), fun _ => ⟨am 852 rfl rfl, am2 39 rfl rfl, by decide +kernel⟩, fun h => absurd h (by decide)⟩
set_option maxRecDepth 100000 in
theorem mw160 : Mw 160 := ⟨am 849 rfl rfl, am 7 rfl rfl, by decide +kernel, ⟨by decide +kernel, by decide +kernel⟩, by decide +kernel, fun h => absurd h (by decide), fun _ => ⟨am 847 rfl rfl, am 848 rfl rfl, by decide +kernel⟩, fun h => absurd h (by decide)⟩
set_option maxRecDepth 100000 in
theorem mw161 : Mw 161 := ⟨am 873 rfl rfl, am 7 rfl rfl, by decide +kernel, ⟨by decide +kernel, by decide +kernel⟩, by decide +kernel, fun h => absurd h (by decide), fun _ => ⟨am 871 rfl rfl, am 872 rfl rfl, by decide +kernel⟩, fun h => absurd h (by decide)⟩
set_option maxRecDepth 100000 in
theorem mw162 : Mw 162 := ⟨am 889 rfl rfl, am 7 rfl rfl, by decide +kernel, ⟨by decide +kernel, by decide +kernel⟩, by decide +kernel, fun h => absurd h (by decide), fun _ => ⟨am 888 rfl rfl, am2 46 rfl rfl, by decide +kernel⟩, fun h => absurd h (by decide)⟩
set_option maxRecDepth 100000 in
theorem mw163 : Mw 163 := ⟨am 893 rfl rfl, am 7 rfl rfl, by decide +kernel, ⟨by decide +kernel, by decide +kernel⟩, by decide +kernel, fun h => absurd h (by decide), fun _ => ⟨am 892 rfl rfl, am2 47 rfl rfl, by decide +kernel⟩, fun h => absurd h (by decide)⟩
set_option maxRecDepth 100000 in
theorem mw164 : Mw 164 := ⟨am 885 rfl rfl, am 7 rfl rfl, by decide +kernel, ⟨by decide +kernel, by decide +kernel⟩, by decide +kernel, fun h => absurd h (by decide), fun _ => ⟨am 883 rfl rfl, am 884 rfl rfl, by decide +kernel⟩, fun h => absurd h (by decide)⟩
set_option maxRecDepth 100000 in
theorem mw165 : Mw 165 := ⟨am 901 rfl rfl, am 7 rfl rfl, by decide +kernel, ⟨by decide +kernel, by decide +kernel⟩, by decide +kernel, fun h => absurd h (by decide), fun _ => ⟨am 900 rfl rfl, am2 48 rfl rfl, by decide +kernel⟩, fun h => absurd h (by decide)⟩
set_option maxRecDepth 100000 in
theorem mw166 : Mw 166 := ⟨am 904 rfl rfl, am 7 rfl rfl, by decide +kernel, ⟨by decide +kernel, by decide +kernel⟩, by decide +kernel, fun _ => ⟨am 903 rfl rfl, by decide +kernel⟩, fun h => absurd h (by decide), fun h => absurd h (by decide)⟩
set_option maxRecDepth 100000 in
theorem mw167 : Mw 167 := ⟨am 897 rfl rfl, am 7 rfl rfl, by decide +kernel, ⟨by decide +kernel, by decide +kernel⟩, by decide +kernel, fun h => absurd h (by decide), fun _ => ⟨am 895 rfl rfl, am 896 rfl rfl, by decide +kernel⟩, fun h => absurd h (by decide)⟩
set_option maxRecDepth 100000 in
theorem mw168 : Mw 168 := ⟨am 912 rfl rfl, am 7 rfl rfl, by decide +kernel, ⟨by decide +kernel, by decide +kernel⟩, by decide +kernel, fun h => absurd h (by decide), fun _ => ⟨am 911 rfl rfl, am2 49 rfl rfl, by decide +kernel⟩, fun h => absurd h (by decide)⟩
set_option maxRecDepth 100000 in
theorem mw169 : Mw 169 := ⟨am 908 rfl rfl, am 7 rfl rfl, by decide +kernel, ⟨by decide +kernel, by decide +kernel⟩, by decide +kernel, fun h => absurd h (by decide), fun _ => ⟨am 906 rfl rfl, am 907 rfl rfl, by decide +kernel⟩, fun h => absurd h (by decide)⟩
set_option maxRecDepth 100000 in
theorem mw170 : Mw 170 := ⟨am 916 rfl rfl, am 7 rfl rfl, by decide +kernel, ⟨by decide +kernel, by decide +kernel⟩, by decide +kernel, fun h => absurd h (by decide), fun _ => ⟨am 914 rfl rfl, am 915 rfl rfl, by decide +kernel⟩, fun h => absurd h (by decide)⟩
set_option maxRecDepth 100000 in
theorem mw171 : Mw 171 := ⟨am 924 rfl rfl, am 7 rfl rfl, by decide +kernel, ⟨by decide +kernel, by decide +kernel⟩, by decide +kernel, fun h => absurd h (by decide), fun _ => ⟨am 923 rfl rfl, am2 50 rfl rfl, by decide +kernel⟩, fun h => absurd h (by decide)⟩
set_option maxRecDepth 100000 in
theorem mw172 : Mw 172 := ⟨am 927 rfl rfl, am 7 rfl rfl, by decide +kernel, ⟨by decide +kernel, by decide +kernel⟩, by decide +kernel, fun _ => ⟨am 926 rfl rfl, by decide +kernel⟩, fun h => absurd h (by decide), fun h => absurd h (by decide)⟩
set_option maxRecDepth 100000 in
theorem mw173 : Mw 173 := ⟨am 920 rfl rfl, am 7 rfl rfl, by decide +kernel, ⟨by decide +kernel, by decide +kernel⟩, by decide +kernel, fun h => absurd h (by decide), fun _ => ⟨am 918 rfl rfl, am 919 rfl rfl, by decide +kernel⟩, fun h => absurd h (by decide)⟩
set_option maxRecDepth 100000 in
theorem mw174 : Mw 174 := ⟨am 931 rfl rfl, am 7 rfl rfl, by decide +kernel, ⟨by decide +kernel, by decide +kernel⟩, by decide +kernel, fun h => absurd h (by decide), fun _ => ⟨am 929 rfl rfl, am 930 rfl rfl, by decide +kernel⟩, fun h => absurd h (by decide)⟩
set_option maxRecDepth 100000 in
theorem mw175 : Mw 175 := ⟨am 943 rfl rfl, am 7 rfl rfl, by decide +kernel, ⟨by decide +kernel, by decide +kernel⟩, by decide +kernel, fun h => absurd h (by decide), fun _ => ⟨am 942 rfl rfl, am2 52 rfl rfl, by decide +kernel⟩, fun h => absurd h (by decide)⟩
set_option maxRecDepth 100000 in
theorem mw176 : Mw 176 := ⟨am 939 rfl rfl, am 7 rfl rfl, by decide +kernel, ⟨by decide +kernel, by decide +kernel⟩, by decide +kernel, fun h => absurd h (by decide), fun _ => ⟨am 938 rfl rfl, am2 51 rfl rfl, by decide +kernel⟩, fun h => absurd h (by decide)⟩
set_option maxRecDepth 100000 in
theorem mw177 : Mw 177 := ⟨am 935 rfl rfl, am 7 rfl rfl, by decide +kernel, ⟨by decide +kernel, by decide +kernel⟩, by decide +kernel, fun h => absurd h (by decide), fun _ => ⟨am 933 rfl rfl, am 934 rfl rfl, by decide +kernel⟩, fun h => absurd h (by decide)⟩
set_option maxRecDepth 100000 in
theorem mw178 : Mw 178 := ⟨am 947 rfl rfl, am 7 rfl rfl, by decide +kernel, ⟨by decide +kernel, by decide +kernel⟩, by decide +kernel, fun h => absurd h (by decide), fun _ => ⟨am 945 rfl rfl, am 946 rfl rfl, by decide +kernel⟩, fun h => absurd h (by decide)⟩
set_option maxRecDepth 100000 in
theorem mw179 : Mw 179 := ⟨am 951 rfl rfl, am 7 rfl rfl, by decide +kernel, ⟨by decide +kernel, by decide +kernel⟩, by decide +kernel, fun h => absurd h (by decide), fun _ => ⟨am 949 rfl rfl, am 950 rfl rfl, by decide +kernel⟩, fun h => absurd h (by decide)⟩
set_option maxRecDepth 100000 in
theorem mw180 : Mw 180 := ⟨am 959 rfl rfl, am 7 rfl rfl, by decide +kernel, ⟨by decide +kernel, by decide +kernel⟩, by decide +kernel, fun h => absurd h (by decide), fun _ => ⟨am 958 rfl rfl, am2 53 rfl rfl, by decide +kernel⟩, fun h => absurd h (by decide)⟩
set_option maxRecDepth 100000 in
theorem mw181 : Mw 181 := ⟨am 955 rfl rfl, am 7 rfl rfl, by decide +kernel, ⟨by decide +kernel, by decide +kernel⟩, by decide +kernel, fun h => absurd h (by decide), fun _ => ⟨am 953 rfl rfl, am 954 rfl rfl, by decide +kernel⟩, fun h => absurd h (by decide)⟩
set_option maxRecDepth 100000 in
theorem mw182 : Mw 182 := ⟨am 963 rfl rfl, am 7 rfl rfl, by decide +kernel, ⟨by decide +kernel, by decide +kernel⟩, by decide +kernel, fun h => absurd h (by decide), fun _ => ⟨am 961 rfl rfl, am 962 rfl rfl, by decide +kernel⟩, fun h => absurd h (by decide)⟩
set_option maxRecDepth 100000 in
theorem mw183 : Mw 183 := ⟨am 967 rfl rfl, am 7 rfl rfl, by decide +kernel, ⟨by decide +kernel, by decide +kernel⟩, by decide +kernel, fun h => absurd h (by decide), fun _ => ⟨am 965 rfl rfl, am 966 rfl rfl, by decide +kernel⟩, fun h => absurd h (by decide)⟩
set_option maxRecDepth 100000 in
theorem mw185 : Mw 185 := ⟨am 359 rfl rfl, am 9 rfl rfl, by decide +kernel, ⟨by decide +kernel, by decide +kernel⟩, by decide +kernel, fun _ => ⟨am 358 rfl rfl, by decide +kernel⟩, fun h => absurd h (by decide), fun h => absurd h (by decide)⟩
theorem m_all : ∀ {k : Nat}, k < 186 → k ≠ 184 → Mw k
  | 0, _, _ => mw0
  | 1, _, _ => mw1
  | 2, _, _ => mw2
  | 3, _, _ => mw3
  | 4, _, _ => mw4
  | 5, _, _ => mw5
  | 6, _, _ => mw6
  | 7, _, _ => mw7
  | 8, _, _ => mw8
  | 9, _, _ => mw9
  | 10, _, _ => mw10
  | 11, _, _ => mw11
  | 12, _, _ => mw12
  | 13, _, _ => mw13
  | 14, _, _ => mw14
  | 15, _, _ => mw15
  | 16, _, _ => mw16
  | 17, _, _ => mw17
  | 18, _, _ => mw18
  | 19, _, _ => mw19
  | 20, _, _ => mw20
  | 21, _, _ => mw21
  | 22, _, _ => mw22
  | 23, _, _ => mw23
  | 24, _, _ => mw24
  | 25, _, _ => mw25
  | 26, _, _ => mw26
  | 27, _, _ => mw27
  | 28, _, _ => mw28
  | 29, _, _ => mw29
  | 30, _, _ => mw30
  | 31, _, _ => mw31
  | 32, _, _ => mw32
  | 33, _, _ => mw33
  | 34, _, _ => mw34
  | 35, _, _ => mw35
  | 36, _, _ => mw36
  | 37, _, _ => mw37
  | 38, _, _ => mw38
  | 39, _, _ => mw39
  | 40, _, _ => mw40
  | 41, _, _ => mw41
  | 42, _, _ => mw42
  | 43, _, _ => mw43
  | 44, _, _ => mw44
  | 45, _, _ => mw45
  | 46, _, _ => mw46
  | 47, _, _ => mw47
  | 48, _, _ => mw48
  | 49, _, _ => mw49
  | 50, _, _ => mw50
  | 51, _, _ => mw51
  | 52, _, _ => mw52
  | 53, _, _ => mw53
  | 54, _, _ => mw54
  | 55, _, _ => mw55
  | 56, _, _ => mw56
  | 57, _, _ => mw57
  | 58, _, _ => mw58
  | 59, _, _ => mw59
  | 60, _, _ => mw60
  | 61, _, _ => mw61
  | 62, _, _ => mw62
  | 63, _, _ => mw63
  | 64, _, _ => mw64
  | 65, _, _ => mw65
  | 66, _, _ => mw66
  | 67, _, _ => mw67
  | 68, _, _ => mw68
  | 69, _, _ => mw69
  | 70, _, _ => mw70
  | 71, _, _ => mw71
  | 72, _, _ => mw72
  | 73, _, _ => mw73
  | 74, _, _ => mw74
  | 75, _, _ => mw75
  | 76, _, _ => mw76
  | 77, _, _ => mw77
  | 78, _, _ => mw78
  | 79, _, _ => mw79
  | 80, _, _ => mw80
  | 81, _, _ => mw81
  | 82, _, _ => mw82
  | 83, _, _ => mw83
  | 84, _, _ => mw84
  | 85, _, _ => mw85
  | 86, _, _ => mw86
  | 87, _, _ => mw87
  | 88, _, _ => mw88
  | 89, _, _ => mw89
  | 90, _, _ => mw90
  | 91, _, _ => mw91
  | 92, _, _ => mw92
  | 93, _, _ => mw93
  | 94, _, _ => mw94
  | 95, _, _ => mw95
  | 96, _, _ => mw96
  | 97, _, _ => mw97
  | 98, _, _ => mw98
  | 99, _, _ => mw99
  | 100, _, _ => mw100
  | 101, _, _ => mw101
  | 102, _, _ => mw102
  | 103, _, _ => mw103
  | 104, _, _ => mw104
  | 105, _, _ => mw105
  | 106, _, _ => mw106
  | 107, _, _ => mw107
  | 108, _, _ => mw108
  | 109, _, _ => mw109
  | 110, _, _ => mw110
  | 111, _, _ => mw111
  | 112, _, _ => mw112
  | 113, _, _ => mw113
  | 114, _, _ => mw114
  | 115, _, _ => mw115
  | 116, _, _ => mw116
  | 117, _, _ => mw117
  | 118, _, _ => mw118
  | 119, _, _ => mw119
  | 120, _, _ => mw120
  | 121, _, _ => mw121
  | 122, _, _ => mw122
  | 123, _, _ => mw123
  | 124, _, _ => mw124
  | 125, _, _ => mw125
  | 126, _, _ => mw126
  | 127, _, _ => mw127
  | 128, _, _ => mw128
  | 129, _, _ => mw129
  | 130, _, _ => mw130
  | 131, _, _ => mw131
  | 132, _, _ => mw132
  | 133, _, _ => mw133
  | 134, _, _ => mw134
  | 135, _, _ => mw135
  | 136, _, _ => mw136
  | 137, _, _ => mw137
  | 138, _, _ => mw138
  | 139, _, _ => mw139
  | 140, _, _ => mw140
  | 141, _, _ => mw141
  | 142, _, _ => mw142
  | 143, _, _ => mw143
  | 144, _, _ => mw144
  | 145, _, _ => mw145
  | 146, _, _ => mw146
  | 147, _, _ => mw147
  | 148, _, _ => mw148
  | 149, _, _ => mw149
  | 150, _, _ => mw150
  | 151, _, _ => mw151
  | 152, _, _ => mw152
  | 153, _, _ => mw153
  | 154, _, _ => mw154
  | 155, _, _ => mw155
  | 156, _, _ => mw156
  | 157, _, _ => mw157
  | 158, _, _ => mw158
  | 159, _, _ => mw159
  | 160, _, _ => mw160
  | 161, _, _ => mw161
  | 162, _, _ => mw162
  | 163, _, _ => mw163
  | 164, _, _ => mw164
  | 165, _, _ => mw165
  | 166, _, _ => mw166
  | 167, _, _ => mw167
  | 168, _, _ => mw168
  | 169, _, _ => mw169
  | 170, _, _ => mw170
  | 171, _, _ => mw171
  | 172, _, _ => mw172
  | 173, _, _ => mw173
  | 174, _, _ => mw174
  | 175, _, _ => mw175
  | 176, _, _ => mw176
  | 177, _, _ => mw177
  | 178, _, _ => mw178
  | 179, _, _ => mw179
  | 180, _, _ => mw180
  | 181, _, _ => mw181
  | 182, _, _ => mw182
  | 183, _, _ => mw183
  | 184, _, h => absurd rfl h
  | 185, _, _ => mw185
  | k + 186, h, _ => absurd h (by omega)
set_option maxRecDepth 100000 in
theorem mw_0 : Cond.initialized "java/lang/Math" ∈ AW := am 8 rfl rfl
def MtP (q : Nat × Nat × Nat × Nat × Nat) : Prop := match q.2.2.2.2 with
  | 0 => q.2.2.2.1 = naT.getD q.2.2.1 99 ∧ kdT.getD q.2.2.1 0 = 0 ∧ Cond.methodLink (ownS q.1) q.2.1 (yM q.2.2.1) ∈ AW
  | 1 => q.2.2.2.1 = naT.getD q.2.2.1 99 ∧ kdT.getD q.2.2.1 0 = 1 ∧ Cond.methodLink (ownS q.1) q.2.1 (yM q.2.2.1) ∈ AW
  | 2 => q.2.2.2.1 = naT.getD q.2.2.1 99 ∧ kdT.getD q.2.2.1 0 = 2 ∧ Cond.methodLink (ownS q.1) q.2.1 (yM q.2.2.1) ∈ AW
  | 3 => q.2.2.2.1 = naT.getD q.2.2.1 99 ∧ kdT.getD q.2.2.1 0 = 0 ∧ Cond.methodLinkNest (ownS q.1) q.2.1 (yM q.2.2.1) RX5 ∈ tables_1
  | 4 => q.2.2.2.1 = naT.getD q.2.2.1 99 ∧ kdT.getD q.2.2.1 0 = 2 ∧ Cond.methodLinkNest (ownS q.1) q.2.1 (yM q.2.2.1) RX5 ∈ tables_1
  | 5 => Cond.methodLink (ownS q.1) q.2.1 Lib.objectInit ∈ AW
  | 6 => Cond.methodLink (ownS q.1) q.2.1 Lib.Math.abs.name ∈ AW ∧ Cond.static Lib.Math.abs.name ∈ AW ∧ Cond.code Lib.Math.abs.name Lib.Math.abs.code 1 (some .int) ∈ AW
  | 7 => Cond.methodLink (ownS q.1) q.2.1 Lib.Math.max.name ∈ AW ∧ Cond.static Lib.Math.max.name ∈ AW ∧ Cond.code Lib.Math.max.name Lib.Math.max.code 2 (some .int) ∈ AW
  | 8 => Cond.methodLink (ownS q.1) q.2.1 Lib.Math.min.name ∈ AW ∧ Cond.static Lib.Math.min.name ∈ AW ∧ Cond.code Lib.Math.min.name Lib.Math.min.code 2 (some .int) ∈ AW
  | _ => False
set_option maxRecDepth 100000 in
theorem mms_abs : Cond.static Lib.Math.abs.name ∈ AW := am 293 rfl rfl
set_option maxRecDepth 100000 in
theorem mmc_abs : Cond.code Lib.Math.abs.name Lib.Math.abs.code 1 (some .int) ∈ AW := am 294 (by decide +kernel) rfl
set_option maxRecDepth 100000 in
theorem mms_max : Cond.static Lib.Math.max.name ∈ AW := am 427 rfl rfl
set_option maxRecDepth 100000 in
theorem mmc_max : Cond.code Lib.Math.max.name Lib.Math.max.code 2 (some .int) ∈ AW := am 428 (by decide +kernel) rfl
set_option maxRecDepth 100000 in
theorem mms_min : Cond.static Lib.Math.min.name ∈ AW := am 424 rfl rfl
set_option maxRecDepth 100000 in
theorem mmc_min : Cond.code Lib.Math.min.name Lib.Math.min.code 2 (some .int) ∈ AW := am 425 (by decide +kernel) rfl
set_option maxRecDepth 100000 in
theorem mtw0 : MtP (0, 3, 0, 0, 5) := am 83 rfl rfl
set_option maxRecDepth 100000 in
theorem mtw1 : MtP (0, 29, 54, 3, 1) := ⟨rfl, rfl, am 367 rfl rfl⟩
set_option maxRecDepth 100000 in
theorem mtw2 : MtP (0, 35, 2, 4, 1) := ⟨rfl, rfl, am 371 rfl rfl⟩
set_option maxRecDepth 100000 in
theorem mtw3 : MtP (0, 39, 51, 3, 1) := ⟨rfl, rfl, am 379 rfl rfl⟩
set_option maxRecDepth 100000 in
theorem mtw4 : MtP (0, 43, 3, 4, 1) := ⟨rfl, rfl, am 383 rfl rfl⟩
set_option maxRecDepth 100000 in
theorem mtw5 : MtP (0, 47, 4, 4, 1) := ⟨rfl, rfl, am 375 rfl rfl⟩
set_option maxRecDepth 100000 in
theorem mtw6 : MtP (0, 50, 5, 2, 0) := ⟨rfl, rfl, am 387 rfl rfl⟩
set_option maxRecDepth 100000 in
theorem mtw7 : MtP (0, 54, 6, 1, 1) := ⟨rfl, rfl, am 394 rfl rfl⟩
set_option maxRecDepth 100000 in
theorem mtw8 : MtP (1, 1, 0, 0, 5) := am 103 rfl rfl
set_option maxRecDepth 100000 in
theorem mtw9 : MtP (1, 9, 15, 1, 4) := ⟨rfl, rfl, List.mem_of_getElem? (i := 105) rfl⟩
set_option maxRecDepth 100000 in
theorem mtw10 : MtP (1, 20, 12, 4, 1) := ⟨rfl, rfl, am 537 rfl rfl⟩
set_option maxRecDepth 100000 in
theorem mtw11 : MtP (1, 24, 13, 3, 1) := ⟨rfl, rfl, am 544 rfl rfl⟩
set_option maxRecDepth 100000 in
theorem mtw12 : MtP (1, 35, 19, 4, 1) := ⟨rfl, rfl, am 541 rfl rfl⟩
set_option maxRecDepth 100000 in
theorem mtw13 : MtP (1, 39, 26, 2, 1) := ⟨rfl, rfl, am 542 rfl rfl⟩
set_option maxRecDepth 100000 in
theorem mtw14 : MtP (1, 43, 25, 2, 1) := ⟨rfl, rfl, am 543 rfl rfl⟩
set_option maxRecDepth 100000 in
theorem mtw15 : MtP (1, 46, 27, 4, 1) := ⟨rfl, rfl, am 548 rfl rfl⟩
set_option maxRecDepth 100000 in
theorem mtw16 : MtP (1, 50, 14, 3, 0) := ⟨rfl, rfl, am 549 rfl rfl⟩
set_option maxRecDepth 100000 in
theorem mtw17 : MtP (2, 3, 0, 0, 5) := am 39 rfl rfl
set_option maxRecDepth 100000 in
theorem mtw18 : MtP (2, 22, 99, 2, 3) := ⟨rfl, rfl, List.mem_of_getElem? (i := 236) rfl⟩
set_option maxRecDepth 100000 in
theorem mtw19 : MtP (2, 26, 27, 4, 1) := ⟨rfl, rfl, am 261 rfl rfl⟩
set_option maxRecDepth 100000 in
theorem mtw20 : MtP (2, 30, 28, 4, 1) := ⟨rfl, rfl, am 265 rfl rfl⟩
set_option maxRecDepth 100000 in
theorem mtw21 : MtP (2, 33, 32, 2, 1) := ⟨rfl, rfl, am 249 rfl rfl⟩
set_option maxRecDepth 100000 in
theorem mtw22 : MtP (2, 37, 25, 2, 1) := ⟨rfl, rfl, am 257 rfl rfl⟩
set_option maxRecDepth 100000 in
theorem mtw23 : MtP (2, 41, 33, 3, 1) := ⟨rfl, rfl, am 269 rfl rfl⟩
set_option maxRecDepth 100000 in
theorem mtw24 : MtP (2, 44, 26, 2, 1) := ⟨rfl, rfl, am 253 rfl rfl⟩
set_option maxRecDepth 100000 in
theorem mtw25 : MtP (2, 47, 29, 4, 1) := ⟨rfl, rfl, am 273 rfl rfl⟩
set_option maxRecDepth 100000 in
theorem mtw26 : MtP (2, 51, 35, 3, 1) := ⟨rfl, rfl, am 288 rfl rfl⟩
set_option maxRecDepth 100000 in
theorem mtw27 : MtP (2, 55, 0, 0, 8) := ⟨am 423 rfl rfl, mms_min, mmc_min⟩
set_option maxRecDepth 100000 in
theorem mtw28 : MtP (2, 60, 0, 0, 7) := ⟨am 426 rfl rfl, mms_max, mmc_max⟩
set_option maxRecDepth 100000 in
theorem mtw29 : MtP (2, 63, 34, 1, 1) := ⟨rfl, rfl, am 307 rfl rfl⟩
set_option maxRecDepth 100000 in
theorem mtw30 : MtP (2, 67, 0, 0, 6) := ⟨am 299 rfl rfl, mms_abs, mmc_abs⟩
set_option maxRecDepth 100000 in
theorem mtw31 : MtP (2, 70, 110, 2, 3) := ⟨rfl, rfl, List.mem_of_getElem? (i := 300) rfl⟩
set_option maxRecDepth 100000 in
theorem mtw32 : MtP (2, 73, 37, 1, 1) := ⟨rfl, rfl, am 308 rfl rfl⟩
set_option maxRecDepth 100000 in
theorem mtw33 : MtP (2, 76, 39, 2, 1) := ⟨rfl, rfl, am 313 rfl rfl⟩
set_option maxRecDepth 100000 in
theorem mtw34 : MtP (2, 79, 19, 4, 1) := ⟨rfl, rfl, am 457 rfl rfl⟩
set_option maxRecDepth 100000 in
theorem mtw35 : MtP (2, 83, 45, 2, 1) := ⟨rfl, rfl, am 458 rfl rfl⟩
set_option maxRecDepth 100000 in
theorem mtw36 : MtP (2, 86, 48, 3, 1) := ⟨rfl, rfl, am 329 rfl rfl⟩
set_option maxRecDepth 100000 in
theorem mtw37 : MtP (2, 89, 49, 3, 1) := ⟨rfl, rfl, am 333 rfl rfl⟩
set_option maxRecDepth 100000 in
theorem mtw38 : MtP (2, 92, 50, 3, 1) := ⟨rfl, rfl, am 341 rfl rfl⟩
set_option maxRecDepth 100000 in
theorem mtw39 : MtP (2, 95, 30, 5, 1) := ⟨rfl, rfl, am 337 rfl rfl⟩
set_option maxRecDepth 100000 in
theorem mtw40 : MtP (2, 99, 42, 3, 1) := ⟨rfl, rfl, am 345 rfl rfl⟩
set_option maxRecDepth 100000 in
theorem mtw41 : MtP (3, 3, 0, 0, 5) := am 66 rfl rfl
set_option maxRecDepth 100000 in
theorem mtw42 : MtP (3, 25, 47, 3, 1) := ⟨rfl, rfl, am 325 rfl rfl⟩
set_option maxRecDepth 100000 in
theorem mtw43 : MtP (3, 29, 46, 3, 1) := ⟨rfl, rfl, am 349 rfl rfl⟩
set_option maxRecDepth 100000 in
theorem mtw44 : MtP (3, 32, 185, 1, 0) := ⟨rfl, rfl, am 357 rfl rfl⟩
set_option maxRecDepth 100000 in
theorem mtw45 : MtP (3, 38, 56, 2, 1) := ⟨rfl, rfl, am 513 rfl rfl⟩
set_option maxRecDepth 100000 in
theorem mtw46 : MtP (4, 3, 0, 0, 5) := am 23 rfl rfl
set_option maxRecDepth 100000 in
theorem mtw47 : MtP (4, 19, 62, 2, 1) := ⟨rfl, rfl, am 155 rfl rfl⟩
set_option maxRecDepth 100000 in
theorem mtw48 : MtP (4, 23, 64, 1, 0) := ⟨rfl, rfl, am 159 rfl rfl⟩
set_option maxRecDepth 100000 in
theorem mtw49 : MtP (4, 27, 63, 2, 1) := ⟨rfl, rfl, am 162 rfl rfl⟩
set_option maxRecDepth 100000 in
theorem mtw50 : MtP (5, 1, 0, 0, 5) := am 15 rfl rfl
set_option maxRecDepth 100000 in
theorem mtw51 : MtP (5, 9, 59, 1, 4) := ⟨rfl, rfl, List.mem_of_getElem? (i := 20) rfl⟩
set_option maxRecDepth 100000 in
theorem mtw52 : MtP (5, 22, 15, 1, 4) := ⟨rfl, rfl, List.mem_of_getElem? (i := 36) rfl⟩
set_option maxRecDepth 100000 in
theorem mtw53 : MtP (5, 36, 52, 1, 4) := ⟨rfl, rfl, List.mem_of_getElem? (i := 63) rfl⟩
set_option maxRecDepth 100000 in
theorem mtw54 : MtP (5, 43, 0, 1, 4) := ⟨rfl, rfl, List.mem_of_getElem? (i := 80) rfl⟩
set_option maxRecDepth 100000 in
theorem mtw55 : MtP (5, 50, 10, 1, 4) := ⟨rfl, rfl, List.mem_of_getElem? (i := 100) rfl⟩
set_option maxRecDepth 100000 in
theorem mtw56 : MtP (5, 59, 60, 3, 1) := ⟨rfl, rfl, am 139 rfl rfl⟩
set_option maxRecDepth 100000 in
theorem mtw57 : MtP (5, 63, 61, 1, 1) := ⟨rfl, rfl, am 151 rfl rfl⟩
set_option maxRecDepth 100000 in
theorem mtw58 : MtP (5, 67, 98, 1, 0) := ⟨rfl, rfl, am 170 rfl rfl⟩
set_option maxRecDepth 100000 in
theorem mtw59 : MtP (5, 71, 65, 2, 1) := ⟨rfl, rfl, am 173 rfl rfl⟩
set_option maxRecDepth 100000 in
theorem mtw60 : MtP (5, 78, 101, 3, 1) := ⟨rfl, rfl, am 181 rfl rfl⟩
set_option maxRecDepth 100000 in
theorem mtw61 : MtP (5, 89, 99, 2, 0) := ⟨rfl, rfl, am 193 rfl rfl⟩
set_option maxRecDepth 100000 in
theorem mtw62 : MtP (5, 92, 17, 3, 1) := ⟨rfl, rfl, am 196 rfl rfl⟩
set_option maxRecDepth 100000 in
theorem mtw63 : MtP (5, 96, 19, 4, 1) := ⟨rfl, rfl, am 204 rfl rfl⟩
set_option maxRecDepth 100000 in
theorem mtw64 : MtP (5, 100, 20, 2, 1) := ⟨rfl, rfl, am 212 rfl rfl⟩
set_option maxRecDepth 100000 in
theorem mtw65 : MtP (5, 104, 21, 1, 1) := ⟨rfl, rfl, am 220 rfl rfl⟩
set_option maxRecDepth 100000 in
theorem mtw66 : MtP (5, 107, 22, 1, 1) := ⟨rfl, rfl, am 224 rfl rfl⟩
set_option maxRecDepth 100000 in
theorem mtw67 : MtP (5, 110, 23, 3, 1) := ⟨rfl, rfl, am 232 rfl rfl⟩
set_option maxRecDepth 100000 in
theorem mtw68 : MtP (5, 113, 24, 3, 1) := ⟨rfl, rfl, am 237 rfl rfl⟩
set_option maxRecDepth 100000 in
theorem mtw69 : MtP (5, 117, 31, 1, 1) := ⟨rfl, rfl, am 245 rfl rfl⟩
set_option maxRecDepth 100000 in
theorem mtw70 : MtP (5, 121, 104, 2, 0) := ⟨rfl, rfl, am 281 rfl rfl⟩
set_option maxRecDepth 100000 in
theorem mtw71 : MtP (5, 125, 105, 3, 1) := ⟨rfl, rfl, am 317 rfl rfl⟩
set_option maxRecDepth 100000 in
theorem mtw72 : MtP (5, 128, 42, 3, 1) := ⟨rfl, rfl, am 406 rfl rfl⟩
set_option maxRecDepth 100000 in
theorem mtw73 : MtP (5, 131, 39, 2, 1) := ⟨rfl, rfl, am 411 rfl rfl⟩
set_option maxRecDepth 100000 in
theorem mtw74 : MtP (5, 135, 100, 2, 0) := ⟨rfl, rfl, am 416 rfl rfl⟩
set_option maxRecDepth 100000 in
theorem mtw75 : MtP (5, 138, 41, 3, 1) := ⟨rfl, rfl, am 419 rfl rfl⟩
set_option maxRecDepth 100000 in
theorem mtw76 : MtP (5, 141, 106, 2, 0) := ⟨rfl, rfl, am 433 rfl rfl⟩
set_option maxRecDepth 100000 in
theorem mtw77 : MtP (5, 150, 34, 1, 1) := ⟨rfl, rfl, am 284 rfl rfl⟩
set_option maxRecDepth 100000 in
theorem mtw78 : MtP (5, 153, 0, 0, 6) := ⟨am 292 rfl rfl, mms_abs, mmc_abs⟩
set_option maxRecDepth 100000 in
theorem mtw79 : MtP (5, 158, 37, 1, 1) := ⟨rfl, rfl, am 295 rfl rfl⟩
set_option maxRecDepth 100000 in
theorem mtw80 : MtP (5, 163, 43, 1, 1) := ⟨rfl, rfl, am 449 rfl rfl⟩
set_option maxRecDepth 100000 in
theorem mtw81 : MtP (5, 166, 44, 2, 1) := ⟨rfl, rfl, am 453 rfl rfl⟩
set_option maxRecDepth 100000 in
theorem mtw82 : MtP (5, 169, 18, 2, 1) := ⟨rfl, rfl, am 462 rfl rfl⟩
set_option maxRecDepth 100000 in
theorem mtw83 : MtP (5, 172, 102, 4, 1) := ⟨rfl, rfl, am 470 rfl rfl⟩
set_option maxRecDepth 100000 in
theorem mtw84 : MtP (5, 176, 46, 3, 1) := ⟨rfl, rfl, am 474 rfl rfl⟩
set_option maxRecDepth 100000 in
theorem mtw85 : MtP (5, 179, 47, 3, 1) := ⟨rfl, rfl, am 479 rfl rfl⟩
set_option maxRecDepth 100000 in
theorem mtw86 : MtP (5, 182, 53, 2, 1) := ⟨rfl, rfl, am 321 rfl rfl⟩
set_option maxRecDepth 100000 in
theorem mtw87 : MtP (5, 185, 1, 3, 1) := ⟨rfl, rfl, am 363 rfl rfl⟩
set_option maxRecDepth 100000 in
theorem mtw88 : MtP (5, 189, 9, 2, 1) := ⟨rfl, rfl, am 484 rfl rfl⟩
set_option maxRecDepth 100000 in
theorem mtw89 : MtP (5, 192, 107, 2, 1) := ⟨rfl, rfl, am 492 rfl rfl⟩
set_option maxRecDepth 100000 in
theorem mtw90 : MtP (5, 196, 36, 3, 1) := ⟨rfl, rfl, am 497 rfl rfl⟩
set_option maxRecDepth 100000 in
theorem mtw91 : MtP (5, 199, 57, 1, 1) := ⟨rfl, rfl, am 509 rfl rfl⟩
set_option maxRecDepth 100000 in
theorem mtw92 : MtP (5, 202, 58, 3, 1) := ⟨rfl, rfl, am 521 rfl rfl⟩
set_option maxRecDepth 100000 in
theorem mtw93 : MtP (5, 205, 103, 3, 1) := ⟨rfl, rfl, am 529 rfl rfl⟩
set_option maxRecDepth 100000 in
theorem mtw94 : MtP (5, 208, 11, 4, 1) := ⟨rfl, rfl, am 533 rfl rfl⟩
set_option maxRecDepth 100000 in
theorem mtw95 : MtP (5, 212, 108, 1, 1) := ⟨rfl, rfl, am 564 rfl rfl⟩
set_option maxRecDepth 100000 in
theorem mtw96 : MtP (5, 215, 109, 1, 1) := ⟨rfl, rfl, am 576 rfl rfl⟩
set_option maxRecDepth 100000 in
theorem mtw97 : MtP (5, 218, 16, 2, 1) := ⟨rfl, rfl, am 185 rfl rfl⟩
set_option maxRecDepth 100000 in
theorem mtw98 : MtP (5, 221, 38, 1, 1) := ⟨rfl, rfl, am 303 rfl rfl⟩
set_option maxRecDepth 100000 in
theorem mtw99 : MtP (5, 224, 40, 2, 1) := ⟨rfl, rfl, am 309 rfl rfl⟩
set_option maxRecDepth 100000 in
theorem mtw100 : MtP (5, 227, 55, 1, 1) := ⟨rfl, rfl, am 353 rfl rfl⟩
set_option maxRecDepth 100000 in
theorem mtw101 : MtP (5, 230, 7, 1, 1) := ⟨rfl, rfl, am 390 rfl rfl⟩
set_option maxRecDepth 100000 in
theorem mtw102 : MtP (5, 233, 8, 1, 1) := ⟨rfl, rfl, am 398 rfl rfl⟩
set_option maxRecDepth 100000 in
theorem mtw103 : MtP (5, 236, 110, 2, 0) := ⟨rfl, rfl, am 436 rfl rfl⟩
set_option maxRecDepth 100000 in
theorem mtw104 : MtP (5, 239, 54, 3, 1) := ⟨rfl, rfl, am 496 rfl rfl⟩
set_option maxRecDepth 100000 in
theorem mtw105 : MtP (6, 1, 0, 0, 5) := am 585 rfl rfl
set_option maxRecDepth 100000 in
theorem mtw106 : MtP (6, 77, 112, 3, 0) := ⟨rfl, rfl, am 676 rfl rfl⟩
set_option maxRecDepth 100000 in
theorem mtw107 : MtP (6, 94, 115, 1, 0) := ⟨rfl, rfl, am 692 rfl rfl⟩
set_option maxRecDepth 100000 in
theorem mtw108 : MtP (6, 98, 116, 3, 1) := ⟨rfl, rfl, am 699 rfl rfl⟩
set_option maxRecDepth 100000 in
theorem mtw109 : MtP (6, 102, 117, 1, 1) := ⟨rfl, rfl, am 688 rfl rfl⟩
set_option maxRecDepth 100000 in
theorem mtw110 : MtP (6, 108, 119, 1, 0) := ⟨rfl, rfl, am 707 rfl rfl⟩
set_option maxRecDepth 100000 in
theorem mtw111 : MtP (6, 114, 120, 3, 1) := ⟨rfl, rfl, am 715 rfl rfl⟩
set_option maxRecDepth 100000 in
theorem mtw112 : MtP (6, 117, 121, 2, 0) := ⟨rfl, rfl, am 723 rfl rfl⟩
set_option maxRecDepth 100000 in
theorem mtw113 : MtP (6, 120, 124, 4, 1) := ⟨rfl, rfl, am 727 rfl rfl⟩
set_option maxRecDepth 100000 in
theorem mtw114 : MtP (6, 128, 131, 4, 1) := ⟨rfl, rfl, am 761 rfl rfl⟩
set_option maxRecDepth 100000 in
theorem mtw115 : MtP (6, 131, 134, 1, 0) := ⟨rfl, rfl, am 769 rfl rfl⟩
set_option maxRecDepth 100000 in
theorem mtw116 : MtP (6, 134, 132, 4, 1) := ⟨rfl, rfl, am 772 rfl rfl⟩
set_option maxRecDepth 100000 in
theorem mtw117 : MtP (6, 138, 130, 3, 1) := ⟨rfl, rfl, am 757 rfl rfl⟩
set_option maxRecDepth 100000 in
theorem mtw118 : MtP (6, 142, 133, 5, 1) := ⟨rfl, rfl, am 765 rfl rfl⟩
set_option maxRecDepth 100000 in
theorem mtw119 : MtP (6, 146, 135, 2, 1) := ⟨rfl, rfl, am 753 rfl rfl⟩
set_option maxRecDepth 100000 in
theorem mtw120 : MtP (6, 149, 137, 4, 1) := ⟨rfl, rfl, am 796 rfl rfl⟩
set_option maxRecDepth 100000 in
theorem mtw121 : MtP (6, 152, 139, 1, 0) := ⟨rfl, rfl, am 819 rfl rfl⟩
set_option maxRecDepth 100000 in
theorem mtw122 : MtP (6, 155, 140, 2, 0) := ⟨rfl, rfl, am 816 rfl rfl⟩
set_option maxRecDepth 100000 in
theorem mtw123 : MtP (6, 158, 138, 2, 1) := ⟨rfl, rfl, am 792 rfl rfl⟩
set_option maxRecDepth 100000 in
theorem mtw124 : MtP (6, 161, 143, 5, 1) := ⟨rfl, rfl, am 780 rfl rfl⟩
set_option maxRecDepth 100000 in
theorem mtw125 : MtP (6, 165, 142, 3, 1) := ⟨rfl, rfl, am 788 rfl rfl⟩
set_option maxRecDepth 100000 in
theorem mtw126 : MtP (6, 172, 146, 4, 1) := ⟨rfl, rfl, am 806 rfl rfl⟩
set_option maxRecDepth 100000 in
theorem mtw127 : MtP (6, 184, 141, 2, 1) := ⟨rfl, rfl, am 829 rfl rfl⟩
set_option maxRecDepth 100000 in
theorem mtw128 : MtP (6, 189, 151, 3, 1) := ⟨rfl, rfl, am 838 rfl rfl⟩
set_option maxRecDepth 100000 in
theorem mtw129 : MtP (6, 192, 152, 3, 1) := ⟨rfl, rfl, am 842 rfl rfl⟩
set_option maxRecDepth 100000 in
theorem mtw130 : MtP (6, 198, 155, 4, 1) := ⟨rfl, rfl, am 866 rfl rfl⟩
set_option maxRecDepth 100000 in
theorem mtw131 : MtP (6, 201, 153, 3, 1) := ⟨rfl, rfl, am 858 rfl rfl⟩
set_option maxRecDepth 100000 in
theorem mtw132 : MtP (6, 205, 154, 5, 1) := ⟨rfl, rfl, am 862 rfl rfl⟩
set_option maxRecDepth 100000 in
theorem mtw133 : MtP (6, 209, 158, 5, 1) := ⟨rfl, rfl, am 878 rfl rfl⟩
set_option maxRecDepth 100000 in
theorem mtw134 : MtP (6, 212, 159, 4, 1) := ⟨rfl, rfl, am 850 rfl rfl⟩
set_option maxRecDepth 100000 in
theorem mtw135 : MtP (6, 215, 156, 4, 1) := ⟨rfl, rfl, am 854 rfl rfl⟩
set_option maxRecDepth 100000 in
theorem mtw136 : MtP (6, 218, 157, 4, 1) := ⟨rfl, rfl, am 874 rfl rfl⟩
set_option maxRecDepth 100000 in
theorem mtw137 : MtP (6, 221, 162, 2, 1) := ⟨rfl, rfl, am 886 rfl rfl⟩
set_option maxRecDepth 100000 in
theorem mtw138 : MtP (6, 224, 163, 2, 1) := ⟨rfl, rfl, am 890 rfl rfl⟩
set_option maxRecDepth 100000 in
theorem mtw139 : MtP (6, 228, 166, 2, 0) := ⟨rfl, rfl, am 902 rfl rfl⟩
set_option maxRecDepth 100000 in
theorem mtw140 : MtP (6, 231, 165, 2, 1) := ⟨rfl, rfl, am 898 rfl rfl⟩
set_option maxRecDepth 100000 in
theorem mtw141 : MtP (6, 234, 168, 4, 1) := ⟨rfl, rfl, am 909 rfl rfl⟩
set_option maxRecDepth 100000 in
theorem mtw142 : MtP (6, 237, 171, 2, 1) := ⟨rfl, rfl, am 921 rfl rfl⟩
set_option maxRecDepth 100000 in
theorem mtw143 : MtP (6, 240, 172, 1, 0) := ⟨rfl, rfl, am 925 rfl rfl⟩
set_option maxRecDepth 100000 in
theorem mtw144 : MtP (6, 258, 175, 6, 1) := ⟨rfl, rfl, am 940 rfl rfl⟩
set_option maxRecDepth 100000 in
theorem mtw145 : MtP (6, 262, 176, 4, 1) := ⟨rfl, rfl, am 936 rfl rfl⟩
set_option maxRecDepth 100000 in
theorem mtw146 : MtP (6, 265, 180, 1, 1) := ⟨rfl, rfl, am 956 rfl rfl⟩
set_option maxRecDepth 100000 in
theorem mtw147 : MtP (7, 9, 66, 1, 2) := ⟨rfl, rfl, am 12 rfl rfl⟩
set_option maxRecDepth 100000 in
theorem mtw148 : MtP (7, 12, 111, 1, 2) := ⟨rfl, rfl, am 582 rfl rfl⟩
set_option maxRecDepth 100000 in
theorem mtw149 : MtP (7, 15, 67, 3, 1) := ⟨rfl, rfl, am 135 rfl rfl⟩
set_option maxRecDepth 100000 in
theorem mtw150 : MtP (7, 19, 113, 3, 1) := ⟨rfl, rfl, am 671 rfl rfl⟩
set_option maxRecDepth 100000 in
theorem mtw151 : MtP (7, 20, 68, 1, 1) := ⟨rfl, rfl, am 143 rfl rfl⟩
set_option maxRecDepth 100000 in
theorem mtw152 : MtP (7, 24, 114, 1, 1) := ⟨rfl, rfl, am 680 rfl rfl⟩
set_option maxRecDepth 100000 in
theorem mtw153 : MtP (7, 25, 69, 1, 1) := ⟨rfl, rfl, am 147 rfl rfl⟩
set_option maxRecDepth 100000 in
theorem mtw154 : MtP (7, 28, 118, 1, 1) := ⟨rfl, rfl, am 684 rfl rfl⟩
set_option maxRecDepth 100000 in
theorem mtw155 : MtP (7, 29, 70, 2, 1) := ⟨rfl, rfl, am 166 rfl rfl⟩
set_option maxRecDepth 100000 in
theorem mtw156 : MtP (7, 33, 122, 2, 1) := ⟨rfl, rfl, am 703 rfl rfl⟩
set_option maxRecDepth 100000 in
theorem mtw157 : MtP (7, 34, 71, 4, 1) := ⟨rfl, rfl, am 177 rfl rfl⟩
set_option maxRecDepth 100000 in
theorem mtw158 : MtP (7, 38, 123, 4, 1) := ⟨rfl, rfl, am 711 rfl rfl⟩
set_option maxRecDepth 100000 in
theorem mtw159 : MtP (7, 39, 72, 5, 1) := ⟨rfl, rfl, am 189 rfl rfl⟩
set_option maxRecDepth 100000 in
theorem mtw160 : MtP (7, 43, 125, 5, 1) := ⟨rfl, rfl, am 719 rfl rfl⟩
set_option maxRecDepth 100000 in
theorem mtw161 : MtP (7, 44, 73, 5, 1) := ⟨rfl, rfl, am 200 rfl rfl⟩
set_option maxRecDepth 100000 in
theorem mtw162 : MtP (7, 47, 126, 5, 1) := ⟨rfl, rfl, am 731 rfl rfl⟩
set_option maxRecDepth 100000 in
theorem mtw163 : MtP (7, 48, 74, 3, 1) := ⟨rfl, rfl, am 208 rfl rfl⟩
set_option maxRecDepth 100000 in
theorem mtw164 : MtP (7, 52, 127, 3, 1) := ⟨rfl, rfl, am 735 rfl rfl⟩
set_option maxRecDepth 100000 in
theorem mtw165 : MtP (7, 53, 75, 3, 1) := ⟨rfl, rfl, am 216 rfl rfl⟩
set_option maxRecDepth 100000 in
theorem mtw166 : MtP (7, 56, 128, 3, 1) := ⟨rfl, rfl, am 739 rfl rfl⟩
set_option maxRecDepth 100000 in
theorem mtw167 : MtP (7, 57, 76, 4, 1) := ⟨rfl, rfl, am 228 rfl rfl⟩
set_option maxRecDepth 100000 in
theorem mtw168 : MtP (7, 60, 129, 4, 1) := ⟨rfl, rfl, am 744 rfl rfl⟩
set_option maxRecDepth 100000 in
theorem mtw169 : MtP (7, 61, 77, 2, 1) := ⟨rfl, rfl, am 241 rfl rfl⟩
set_option maxRecDepth 100000 in
theorem mtw170 : MtP (7, 64, 136, 2, 1) := ⟨rfl, rfl, am 749 rfl rfl⟩
set_option maxRecDepth 100000 in
theorem mtw171 : MtP (7, 65, 78, 3, 1) := ⟨rfl, rfl, am 277 rfl rfl⟩
set_option maxRecDepth 100000 in
theorem mtw172 : MtP (7, 68, 164, 3, 1) := ⟨rfl, rfl, am 882 rfl rfl⟩
set_option maxRecDepth 100000 in
theorem mtw173 : MtP (7, 69, 79, 4, 1) := ⟨rfl, rfl, am 402 rfl rfl⟩
set_option maxRecDepth 100000 in
theorem mtw174 : MtP (7, 72, 144, 4, 1) := ⟨rfl, rfl, am 776 rfl rfl⟩
set_option maxRecDepth 100000 in
theorem mtw175 : MtP (7, 73, 80, 3, 1) := ⟨rfl, rfl, am 407 rfl rfl⟩
set_option maxRecDepth 100000 in
theorem mtw176 : MtP (7, 76, 145, 3, 1) := ⟨rfl, rfl, am 784 rfl rfl⟩
set_option maxRecDepth 100000 in
theorem mtw177 : MtP (7, 77, 81, 4, 1) := ⟨rfl, rfl, am 412 rfl rfl⟩
set_option maxRecDepth 100000 in
theorem mtw178 : MtP (7, 80, 147, 4, 1) := ⟨rfl, rfl, am 800 rfl rfl⟩
set_option maxRecDepth 100000 in
theorem mtw179 : MtP (7, 81, 82, 3, 1) := ⟨rfl, rfl, am 429 rfl rfl⟩
set_option maxRecDepth 100000 in
theorem mtw180 : MtP (7, 84, 148, 3, 1) := ⟨rfl, rfl, am 810 rfl rfl⟩
set_option maxRecDepth 100000 in
theorem mtw181 : MtP (7, 85, 83, 3, 1) := ⟨rfl, rfl, am 437 rfl rfl⟩
set_option maxRecDepth 100000 in
theorem mtw182 : MtP (7, 89, 149, 3, 1) := ⟨rfl, rfl, am 822 rfl rfl⟩
set_option maxRecDepth 100000 in
theorem mtw183 : MtP (7, 90, 84, 3, 1) := ⟨rfl, rfl, am 445 rfl rfl⟩
set_option maxRecDepth 100000 in
theorem mtw184 : MtP (7, 93, 150, 3, 1) := ⟨rfl, rfl, am 834 rfl rfl⟩
set_option maxRecDepth 100000 in
theorem mtw185 : MtP (7, 94, 85, 4, 1) := ⟨rfl, rfl, am 466 rfl rfl⟩
set_option maxRecDepth 100000 in
theorem mtw186 : MtP (7, 97, 160, 4, 1) := ⟨rfl, rfl, am 846 rfl rfl⟩
set_option maxRecDepth 100000 in
theorem mtw187 : MtP (7, 98, 86, 4, 1) := ⟨rfl, rfl, am 475 rfl rfl⟩
set_option maxRecDepth 100000 in
theorem mtw188 : MtP (7, 101, 161, 4, 1) := ⟨rfl, rfl, am 870 rfl rfl⟩
set_option maxRecDepth 100000 in
theorem mtw189 : MtP (7, 102, 87, 3, 1) := ⟨rfl, rfl, am 480 rfl rfl⟩
set_option maxRecDepth 100000 in
theorem mtw190 : MtP (7, 105, 167, 3, 1) := ⟨rfl, rfl, am 894 rfl rfl⟩
set_option maxRecDepth 100000 in
theorem mtw191 : MtP (7, 106, 88, 2, 1) := ⟨rfl, rfl, am 488 rfl rfl⟩
set_option maxRecDepth 100000 in
theorem mtw192 : MtP (7, 109, 169, 2, 1) := ⟨rfl, rfl, am 905 rfl rfl⟩
set_option maxRecDepth 100000 in
theorem mtw193 : MtP (7, 110, 89, 4, 1) := ⟨rfl, rfl, am 501 rfl rfl⟩
set_option maxRecDepth 100000 in
theorem mtw194 : MtP (7, 113, 170, 4, 1) := ⟨rfl, rfl, am 913 rfl rfl⟩
set_option maxRecDepth 100000 in
theorem mtw195 : MtP (7, 114, 90, 2, 1) := ⟨rfl, rfl, am 505 rfl rfl⟩
set_option maxRecDepth 100000 in
theorem mtw196 : MtP (7, 117, 173, 2, 1) := ⟨rfl, rfl, am 917 rfl rfl⟩
set_option maxRecDepth 100000 in
theorem mtw197 : MtP (7, 118, 91, 4, 1) := ⟨rfl, rfl, am 517 rfl rfl⟩
set_option maxRecDepth 100000 in
theorem mtw198 : MtP (7, 121, 174, 4, 1) := ⟨rfl, rfl, am 928 rfl rfl⟩
set_option maxRecDepth 100000 in
theorem mtw199 : MtP (7, 122, 92, 3, 1) := ⟨rfl, rfl, am 525 rfl rfl⟩
set_option maxRecDepth 100000 in
theorem mtw200 : MtP (7, 125, 177, 3, 1) := ⟨rfl, rfl, am 932 rfl rfl⟩
set_option maxRecDepth 100000 in
theorem mtw201 : MtP (7, 126, 93, 3, 1) := ⟨rfl, rfl, am 552 rfl rfl⟩
set_option maxRecDepth 100000 in
theorem mtw202 : MtP (7, 129, 178, 3, 1) := ⟨rfl, rfl, am 944 rfl rfl⟩
set_option maxRecDepth 100000 in
theorem mtw203 : MtP (7, 130, 94, 3, 1) := ⟨rfl, rfl, am 556 rfl rfl⟩
set_option maxRecDepth 100000 in
theorem mtw204 : MtP (7, 133, 179, 3, 1) := ⟨rfl, rfl, am 948 rfl rfl⟩
set_option maxRecDepth 100000 in
theorem mtw205 : MtP (7, 134, 95, 2, 1) := ⟨rfl, rfl, am 560 rfl rfl⟩
set_option maxRecDepth 100000 in
theorem mtw206 : MtP (7, 137, 181, 2, 1) := ⟨rfl, rfl, am 952 rfl rfl⟩
set_option maxRecDepth 100000 in
theorem mtw207 : MtP (7, 138, 96, 2, 1) := ⟨rfl, rfl, am 568 rfl rfl⟩
set_option maxRecDepth 100000 in
theorem mtw208 : MtP (7, 141, 182, 2, 1) := ⟨rfl, rfl, am 960 rfl rfl⟩
set_option maxRecDepth 100000 in
theorem mtw209 : MtP (7, 142, 97, 2, 1) := ⟨rfl, rfl, am 572 rfl rfl⟩
set_option maxRecDepth 100000 in
theorem mtw210 : MtP (7, 145, 183, 2, 1) := ⟨rfl, rfl, am 964 rfl rfl⟩
set_option maxRecDepth 100000 in
theorem mt_all : ∀ q ∈ mtL, MtP q :=
  (List.forall_mem_cons.mpr ⟨mtw0, (List.forall_mem_cons.mpr ⟨mtw1, (List.forall_mem_cons.mpr ⟨mtw2, (List.forall_mem_cons.mpr ⟨mtw3, (List.forall_mem_cons.mpr ⟨mtw4, (List.forall_mem_cons.mpr ⟨mtw5, (List.forall_mem_cons.mpr ⟨mtw6, (List.forall_mem_cons.mpr ⟨mtw7, (List.forall_mem_cons.mpr ⟨mtw8, (List.forall_mem_cons.mpr ⟨mtw9, (List.forall_mem_cons.mpr ⟨mtw10, (List.forall_mem_cons.mpr ⟨mtw11, (List.forall_mem_cons.mpr ⟨mtw12, (List.forall_mem_cons.mpr ⟨mtw13, (List.forall_mem_cons.mpr ⟨mtw14, (List.forall_mem_cons.mpr ⟨mtw15, (List.forall_mem_cons.mpr ⟨mtw16, (List.forall_mem_cons.mpr ⟨mtw17, (List.forall_mem_cons.mpr ⟨mtw18, (List.forall_mem_cons.mpr ⟨mtw19, (List.forall_mem_cons.mpr ⟨mtw20, (List.forall_mem_cons.mpr ⟨mtw21, (List.forall_mem_cons.mpr ⟨mtw22, (List.forall_mem_cons.mpr ⟨mtw23, (List.forall_mem_cons.mpr ⟨mtw24, (List.forall_mem_cons.mpr ⟨mtw25, (List.forall_mem_cons.mpr ⟨mtw26, (List.forall_mem_cons.mpr ⟨mtw27, (List.forall_mem_cons.mpr ⟨mtw28, (List.forall_mem_cons.mpr ⟨mtw29, (List.forall_mem_cons.mpr ⟨mtw30, (List.forall_mem_cons.mpr ⟨mtw31, (List.forall_mem_cons.mpr ⟨mtw32, (List.forall_mem_cons.mpr ⟨mtw33, (List.forall_mem_cons.mpr ⟨mtw34, (List.forall_mem_cons.mpr ⟨mtw35, (List.forall_mem_cons.mpr ⟨mtw36, (List.forall_mem_cons.mpr ⟨mtw37, (List.forall_mem_cons.mpr ⟨mtw38, (List.forall_mem_cons.mpr ⟨mtw39, (List.forall_mem_cons.mpr ⟨mtw40, (List.forall_mem_cons.mpr ⟨mtw41, (List.forall_mem_cons.mpr ⟨mtw42, (List.forall_mem_cons.mpr ⟨mtw43, (List.forall_mem_cons.mpr ⟨mtw44, (List.forall_mem_cons.mpr ⟨mtw45, (List.forall_mem_cons.mpr ⟨mtw46, (List.forall_mem_cons.mpr ⟨mtw47, (List.forall_mem_cons.mpr ⟨mtw48, (List.forall_mem_cons.mpr ⟨mtw49, (List.forall_mem_cons.mpr ⟨mtw50, (List.forall_mem_cons.mpr ⟨mtw51, (List.forall_mem_cons.mpr ⟨mtw52, (List.forall_mem_cons.mpr ⟨mtw53, (List.forall_mem_cons.mpr ⟨mtw54, (List.forall_mem_cons.mpr ⟨mtw55, (List.forall_mem_cons.mpr ⟨mtw56, (List.forall_mem_cons.mpr ⟨mtw57, (List.forall_mem_cons.mpr ⟨mtw58, (List.forall_mem_cons.mpr ⟨mtw59, (List.forall_mem_cons.mpr ⟨mtw60, (List.forall_mem_cons.mpr ⟨mtw61, (List.forall_mem_cons.mpr ⟨mtw62, (List.forall_mem_cons.mpr ⟨mtw63, (List.forall_mem_cons.mpr ⟨mtw64, (List.forall_mem_cons.mpr ⟨mtw65, (List.forall_mem_cons.mpr ⟨mtw66, (List.forall_mem_cons.mpr ⟨mtw67, (List.forall_mem_cons.mpr ⟨mtw68, (List.forall_mem_cons.mpr ⟨mtw69, (List.forall_mem_cons.mpr ⟨mtw70, (List.forall_mem_cons.mpr ⟨mtw71, (List.forall_mem_cons.mpr ⟨mtw72, (List.forall_mem_cons.mpr ⟨mtw73, (List.forall_mem_cons.mpr ⟨mtw74, (List.forall_mem_cons.mpr ⟨mtw75, (List.forall_mem_cons.mpr ⟨mtw76, (List.forall_mem_cons.mpr ⟨mtw77, (List.forall_mem_cons.mpr ⟨mtw78, (List.forall_mem_cons.mpr ⟨mtw79, (List.forall_mem_cons.mpr ⟨mtw80, (List.forall_mem_cons.mpr ⟨mtw81, (List.forall_mem_cons.mpr ⟨mtw82, (List.forall_mem_cons.mpr ⟨mtw83, (List.forall_mem_cons.mpr ⟨mtw84, (List.forall_mem_cons.mpr ⟨mtw85, (List.forall_mem_cons.mpr ⟨mtw86, (List.forall_mem_cons.mpr ⟨mtw87, (List.forall_mem_cons.mpr ⟨mtw88, (List.forall_mem_cons.mpr ⟨mtw89, (List.forall_mem_cons.mpr ⟨mtw90, (List.forall_mem_cons.mpr ⟨mtw91, (List.forall_mem_cons.mpr ⟨mtw92, (List.forall_mem_cons.mpr ⟨mtw93, (List.forall_mem_cons.mpr ⟨mtw94, (List.forall_mem_cons.mpr ⟨mtw95, (List.forall_mem_cons.mpr ⟨mtw96, (List.forall_mem_cons.mpr ⟨mtw97, (List.forall_mem_cons.mpr ⟨mtw98, (List.forall_mem_cons.mpr ⟨mtw99, (List.forall_mem_cons.mpr ⟨mtw100, (List.forall_mem_cons.mpr ⟨mtw101, (List.forall_mem_cons.mpr ⟨mtw102, (List.forall_mem_cons.mpr ⟨mtw103, (List.forall_mem_cons.mpr ⟨mtw104, (List.forall_mem_cons.mpr ⟨mtw105, (List.forall_mem_cons.mpr ⟨mtw106, (List.forall_mem_cons.mpr ⟨mtw107, (List.forall_mem_cons.mpr ⟨mtw108, (List.forall_mem_cons.mpr ⟨mtw109, (List.forall_mem_cons.mpr ⟨mtw110, (List.forall_mem_cons.mpr ⟨mtw111, (List.forall_mem_cons.mpr ⟨mtw112, (List.forall_mem_cons.mpr ⟨mtw113, (List.forall_mem_cons.mpr ⟨mtw114, (List.forall_mem_cons.mpr ⟨mtw115, (List.forall_mem_cons.mpr ⟨mtw116, (List.forall_mem_cons.mpr ⟨mtw117, (List.forall_mem_cons.mpr ⟨mtw118, (List.forall_mem_cons.mpr ⟨mtw119, (List.forall_mem_cons.mpr ⟨mtw120, (List.forall_mem_cons.mpr ⟨mtw121, (List.forall_mem_cons.mpr ⟨mtw122, (List.forall_mem_cons.mpr ⟨mtw123, (List.forall_mem_cons.mpr ⟨mtw124, (List.forall_mem_cons.mpr ⟨mtw125, (List.forall_mem_cons.mpr ⟨mtw126, (List.forall_mem_cons.mpr ⟨mtw127, (List.forall_mem_cons.mpr ⟨mtw128, (List.forall_mem_cons.mpr ⟨mtw129, (List.forall_mem_cons.mpr ⟨mtw130, (List.forall_mem_cons.mpr ⟨mtw131, (List.forall_mem_cons.mpr ⟨mtw132, (List.forall_mem_cons.mpr ⟨mtw133, (List.forall_mem_cons.mpr ⟨mtw134, (List.forall_mem_cons.mpr ⟨mtw135, (List.forall_mem_cons.mpr ⟨mtw136, (List.forall_mem_cons.mpr ⟨mtw137, (List.forall_mem_cons.mpr ⟨mtw138, (List.forall_mem_cons.mpr ⟨mtw139, (List.forall_mem_cons.mpr ⟨mtw140, (List.forall_mem_cons.mpr ⟨mtw141, (List.forall_mem_cons.mpr ⟨mtw142, (List.forall_mem_cons.mpr ⟨mtw143, (List.forall_mem_cons.mpr ⟨mtw144, (List.forall_mem_cons.mpr ⟨mtw145, (List.forall_mem_cons.mpr ⟨mtw146, (List.forall_mem_cons.mpr ⟨mtw147, (List.forall_mem_cons.mpr ⟨mtw148, (List.forall_mem_cons.mpr ⟨mtw149, (List.forall_mem_cons.mpr ⟨mtw150, (List.forall_mem_cons.mpr ⟨mtw151, (List.forall_mem_cons.mpr ⟨mtw152, (List.forall_mem_cons.mpr ⟨mtw153, (List.forall_mem_cons.mpr ⟨mtw154, (List.forall_mem_cons.mpr ⟨mtw155, (List.forall_mem_cons.mpr ⟨mtw156, (List.forall_mem_cons.mpr ⟨mtw157, (List.forall_mem_cons.mpr ⟨mtw158, (List.forall_mem_cons.mpr ⟨mtw159, (List.forall_mem_cons.mpr ⟨mtw160, (List.forall_mem_cons.mpr ⟨mtw161, (List.forall_mem_cons.mpr ⟨mtw162, (List.forall_mem_cons.mpr ⟨mtw163, (List.forall_mem_cons.mpr ⟨mtw164, (List.forall_mem_cons.mpr ⟨mtw165, (List.forall_mem_cons.mpr ⟨mtw166, (List.forall_mem_cons.mpr ⟨mtw167, (List.forall_mem_cons.mpr ⟨mtw168, (List.forall_mem_cons.mpr ⟨mtw169, (List.forall_mem_cons.mpr ⟨mtw170, (List.forall_mem_cons.mpr ⟨mtw171, (List.forall_mem_cons.mpr ⟨mtw172, (List.forall_mem_cons.mpr ⟨mtw173, (List.forall_mem_cons.mpr ⟨mtw174, (List.forall_mem_cons.mpr ⟨mtw175, (List.forall_mem_cons.mpr ⟨mtw176, (List.forall_mem_cons.mpr ⟨mtw177, (List.forall_mem_cons.mpr ⟨mtw178, (List.forall_mem_cons.mpr ⟨mtw179, (List.forall_mem_cons.mpr ⟨mtw180, (List.forall_mem_cons.mpr ⟨mtw181, (List.forall_mem_cons.mpr ⟨mtw182, (List.forall_mem_cons.mpr ⟨mtw183, (List.forall_mem_cons.mpr ⟨mtw184, (List.forall_mem_cons.mpr ⟨mtw185, (List.forall_mem_cons.mpr ⟨mtw186, (List.forall_mem_cons.mpr ⟨mtw187, (List.forall_mem_cons.mpr ⟨mtw188, (List.forall_mem_cons.mpr ⟨mtw189, (List.forall_mem_cons.mpr ⟨mtw190, (List.forall_mem_cons.mpr ⟨mtw191, (List.forall_mem_cons.mpr ⟨mtw192, (List.forall_mem_cons.mpr ⟨mtw193, (List.forall_mem_cons.mpr ⟨mtw194, (List.forall_mem_cons.mpr ⟨mtw195, (List.forall_mem_cons.mpr ⟨mtw196, (List.forall_mem_cons.mpr ⟨mtw197, (List.forall_mem_cons.mpr ⟨mtw198, (List.forall_mem_cons.mpr ⟨mtw199, (List.forall_mem_cons.mpr ⟨mtw200, (List.forall_mem_cons.mpr ⟨mtw201, (List.forall_mem_cons.mpr ⟨mtw202, (List.forall_mem_cons.mpr ⟨mtw203, (List.forall_mem_cons.mpr ⟨mtw204, (List.forall_mem_cons.mpr ⟨mtw205, (List.forall_mem_cons.mpr ⟨mtw206, (List.forall_mem_cons.mpr ⟨mtw207, (List.forall_mem_cons.mpr ⟨mtw208, (List.forall_mem_cons.mpr ⟨mtw209, (List.forall_mem_cons.mpr ⟨mtw210, (fun _ h => absurd h List.not_mem_nil)⟩)⟩)⟩)⟩)⟩)⟩)⟩)⟩)⟩)⟩)⟩)⟩)⟩)⟩)⟩)⟩)⟩)⟩)⟩)⟩)⟩)⟩)⟩)⟩)⟩)⟩)⟩)⟩)⟩)⟩)⟩)⟩)⟩)⟩)⟩)⟩)⟩)⟩)⟩)⟩)⟩)⟩)⟩)⟩)⟩)⟩)⟩)⟩)⟩)⟩)⟩)⟩)⟩)⟩)⟩)⟩)⟩)⟩)⟩)⟩)⟩)⟩)⟩)⟩)⟩)⟩)⟩)⟩)⟩)⟩)⟩)⟩)⟩)⟩)⟩)⟩)⟩)⟩)⟩)⟩)⟩)⟩)⟩)⟩)⟩)⟩)⟩)⟩)⟩)⟩)⟩)⟩)⟩)⟩)⟩)⟩)⟩)⟩)⟩)⟩)⟩)⟩)⟩)⟩)⟩)⟩)⟩)⟩)⟩)⟩)⟩)⟩)⟩)⟩)⟩)⟩)⟩)⟩)⟩)⟩)⟩)⟩)⟩)⟩)⟩)⟩)⟩)⟩)⟩)⟩)⟩)⟩)⟩)⟩)⟩)⟩)⟩)⟩)⟩)⟩)⟩)⟩)⟩)⟩)⟩)⟩)⟩)⟩)⟩)⟩)⟩)⟩)⟩)⟩)⟩)⟩)⟩)⟩)⟩)⟩)⟩)⟩)⟩)⟩)⟩)⟩)⟩)⟩)⟩)⟩)⟩)⟩)⟩)⟩)⟩)⟩)⟩)⟩)⟩)⟩)⟩)⟩)⟩)⟩)⟩)⟩)⟩)⟩)⟩)⟩)⟩)⟩)⟩)⟩)⟩)⟩)⟩)⟩)⟩)⟩)⟩)⟩)⟩)⟩)⟩)⟩)⟩)⟩)⟩)⟩)⟩)
end
section
/-! THE SMALL MACHINE IS SOUND: what it comes to, the real machine comes to. -/
def refT (t : FieldType) : Bool := match t with
  | .object _ => true
  | .array _ => true
  | _ => false
def finOK (ci : Nat) : Bool := match vwCl[ci]? with
  | some (C, T, N) => (List.range N).all (fun k => decide ((finT.getD ci []).getD k true = (T k).2.2.2) && (decide (fk (ci * 32 + k) ≠ 0) || decide (tyL ci k = .int)) && (decide (fk (ci * 32 + k) ≠ 1) || refT (tyL ci k)) && decide ((T k).1 = ownS ci))
  | none => false
theorem fin_all : (List.range 7).all finOK = true := by decide +kernel
theorem fin_ok {n : Nat} {C : String} {T : u_T} {N : Nat} (h : vwCl[n / 32]? = some (C, T, N)) (hk : n % 32 < N) : (finT.getD (n / 32) []).getD (n % 32) true = (T (n % 32)).2.2.2 ∧ (fk n = 0 → tyL (n / 32) (n % 32) = .int) ∧ (fk n = 1 → refT (tyL (n / 32) (n % 32)) = true) ∧ (T (n % 32)).1 = ownS (n / 32) := by
  have h7 : n / 32 < 7 := (cls_ok h).2.2.2
  have h1 := List.all_eq_true.mp fin_all _ (List.mem_range.mpr h7)
  unfold finOK at h1
  rw [h] at h1
  have h2 := List.all_eq_true.mp h1 _ (List.mem_range.mpr hk)
  have e : n / 32 * 32 + n % 32 = n := by omega
  simp only [Bool.and_eq_true, decide_eq_true_eq, Bool.or_eq_true, e] at h2
  obtain ⟨⟨⟨a1, a2⟩, a3⟩, a4⟩ := h2
  exact ⟨a1, fun q => a2.resolve_left (fun z => z q), fun q => a3.resolve_left (fun z => z q), a4⟩
theorem gF_inv {e : fE} {n : Nat} {v : Value} (h : gF e n = some v) : ∃ fs, e = .inr (n / 32, fs) ∧ fs[n % 32]? = some v := by
  unfold gF at h
  split at h
  · split at h
    · rename_i ci fs q; subst q; exact ⟨fs, rfl, h⟩
    · cases h
  · cases h
theorem pF_inv {e e' : fE} {n : Nat} {v : Value} (h : pF e n v = some e') : ∃ fs, e = .inr (n / 32, fs) ∧ n % 32 < fs.length ∧ fit (fk n) v = true ∧ e' = .inr (n / 32, fs.set (n % 32) v) := by
  unfold pF at h
  split at h
  · split at h
    · rename_i ci fs q
      obtain ⟨rfl, q2, q3⟩ := q
      exact ⟨fs, rfl, q2, q3, (Option.some.inj h).symm⟩
    · cases h
  · cases h
theorem ldI_inv {e : fE} {i x : Int32} (h : ldI e i = some x) : ∃ k n f, e = .inl (k, n, .inl f) ∧ (k = 0 ∨ k = 9) ∧ vp_in i n ∧ f i.toNatClampNeg = x := by
  unfold ldI at h
  split at h
  · split at h
    · cases h
    · rename_i n f q; exact ⟨0, n, f, rfl, Or.inl rfl, q, Option.some.inj h⟩
  · split at h
    · cases h
    · rename_i n f q; exact ⟨9, n, f, rfl, Or.inr rfl, q, Option.some.inj h⟩
  · cases h
theorem ldZ_inv {e : fE} {i x : Int32} (h : ldZ e i = some x) : ∃ n f, e = .inl (2, n, .inl f) ∧ vp_in i n ∧ f i.toNatClampNeg = x := by
  unfold ldZ at h
  split at h
  · split at h
    · cases h
    · rename_i n f q; exact ⟨n, f, rfl, q, Option.some.inj h⟩
  · cases h
theorem ldL_inv {e : fE} {i : Int32} {x : Int64} (h : ldL e i = some x) : ∃ n f, e = .inl (1, n, .inr (.inl f)) ∧ vp_in i n ∧ f i.toNatClampNeg = x := by
  unfold ldL at h
  split at h
  · split at h
    · cases h
    · rename_i n f q; exact ⟨n, f, rfl, q, Option.some.inj h⟩
  · cases h
theorem ldQ_inv {e : fE} {i : Int32} {x : Nat} (h : ldQ e i = some x) : ∃ n f, e = .inl (3, n, .inr (.inr (.inr (.inr f)))) ∧ vp_in i n ∧ f i.toNatClampNeg = some x := by
  unfold ldQ at h
  split at h
  · split at h
    · cases h
    · rename_i n f q; exact ⟨n, f, rfl, q, h⟩
  · cases h
theorem stI_inv {e e' : fE} {i x : Int32} (h : stI e i x = some e') : ∃ n f, e = .inl (0, n, .inl f) ∧ vp_in i n ∧ e' = .inl (0, n, .inl (upd f i.toNatClampNeg x)) := by
  unfold stI at h
  split at h
  · split at h
    · cases h
    · rename_i n f q; exact ⟨n, f, rfl, q, (Option.some.inj h).symm⟩
  · cases h
theorem stZ_inv {e e' : fE} {i x : Int32} (h : stZ e i x = some e') : ∃ n f, e = .inl (2, n, .inl f) ∧ vp_in i n ∧ (x = 0 ∨ x = 1) ∧ e' = .inl (2, n, .inl (upd f i.toNatClampNeg x)) := by
  unfold stZ at h
  split at h
  · split at h
    · cases h
    · rename_i n f q
      exact ⟨n, f, rfl, fun z => q (z.elim Or.inl (fun z => Or.inr (Or.inl z))), Classical.byContradiction (fun z => q (Or.inr (Or.inr z))), (Option.some.inj h).symm⟩
  · cases h
theorem stL_inv {e e' : fE} {i : Int32} {x : Int64} (h : stL e i x = some e') : ∃ n f, e = .inl (1, n, .inr (.inl f)) ∧ vp_in i n ∧ e' = .inl (1, n, .inr (.inl (vp_updL f i.toNatClampNeg x))) := by
  unfold stL at h
  split at h
  · split at h
    · cases h
    · rename_i n f q; exact ⟨n, f, rfl, q, (Option.some.inj h).symm⟩
  · cases h
theorem stQ_inv {e e' : fE} {i : Int32} {x : Nat} (h : stQ e i x = some e') : ∃ n f, e = .inl (3, n, .inr (.inr (.inr (.inr f)))) ∧ vp_in i n ∧ e' = .inl (3, n, .inr (.inr (.inr (.inr (va_up f i.toNatClampNeg (some x)))))) := by
  unfold stQ at h
  split at h
  · split at h
    · cases h
    · rename_i n f q; exact ⟨n, f, rfl, q, (Option.some.inj h).symm⟩
  · cases h
theorem isO_inv {e : fE} {ci : Nat} (h : isO e ci = true) : ∃ fs, e = .inr (ci, fs) := by
  unfold isO at h
  split at h
  · rename_i c fs; simp only [beq_iff_eq] at h; subst h; exact ⟨fs, rfl⟩
  · cases h
theorem RH.obj {dC : Nat → ClassId} {dI : Nat → Nat → Nat} {dA : Nat → ClassId} {b sb : Nat} {U : State} {hp : fH} {H : Heap} (h : RH dC dI dA b sb U hp H) {a ci : Nat} {fs : List Value} (he : f_get hp a = .inr (ci, fs)) (hc : ci < 7) : a < hp.1 ∧ a ≠ SL := by
  have h9 : a ≠ SL := by
    rintro rfl
    rcases h.2.2.2.2.2 with q | ⟨n, f, q⟩
    · rw [f_get, q] at he; cases he; omega
    · rw [f_get, q] at he; cases he
  exact ⟨h.lt (fun q => by rw [f_get, q] at he; cases he; omega) h9, h9⟩
theorem RH.arr {dC : Nat → ClassId} {dI : Nat → Nat → Nat} {dA : Nat → ClassId} {b sb : Nat} {U : State} {hp : fH} {H : Heap} (h : RH dC dI dA b sb U hp H) {a k : Nat} {x : vp_A} (he : f_get hp a = .inl (k, x)) (hc : k ≠ 9) : a < hp.1 ∧ a ≠ SL := by
  have h9 : a ≠ SL := by
    rintro rfl
    rcases h.2.2.2.2.2 with q | ⟨n, f, q⟩
    · rw [f_get, q] at he; cases he
    · rw [f_get, q] at he; cases he; exact hc rfl
  exact ⟨h.lt (fun q => by rw [f_get, q] at he; cases he) h9, h9⟩
theorem RH.scr {dC : Nat → ClassId} {dI : Nat → Nat → Nat} {dA : Nat → ClassId} {b sb : Nat} {U : State} {hp : fH} {H : Heap} (h : RH dC dI dA b sb U hp H) {a n : Nat} {x : (Nat → Int32) ⊕ (Nat → Int64) ⊕ (Nat → UInt32) ⊕ (Nat → UInt64) ⊕ (Nat → Option Nat)} (he : f_get hp a = .inl (9, n, x)) : a = SL :=
  Classical.byContradiction (fun q => h.2.2.2.2.1 a q n x he)
theorem cvN_b {b sb a : Nat} (h : a ≠ SL) : cvN b sb a = b + a := if_neg h
theorem cvN_s {b sb : Nat} : cvN b sb SL = sb := if_pos rfl
def tysO (dA : Nat → ClassId) : List (ClassId × FieldType) := [(dA 0, .int), (dA 1, .long), (dA 2, .boolean), (dA 3, .object RX2)]
/-- the nest mates' links -/
def NW (U : State) : Prop := ∀ q ∈ mtL, (q.2.2.2.2 = 3 ∨ q.2.2.2.2 = 4) → va_Nw (.methodLinkNest (ownS q.1) q.2.1 (yM q.2.2.1) RX5) U
theorem cat_sum (b sb : Nat) : ∀ st : List Value, ((st.map (cv b sb)).map fun v => v.category).sum ≤ 2 * st.length
  | [] => by simp
  | v :: t => by
    have h := cat_sum b sb t
    have h1 : (cv b sb v).category ≤ 2 := by rcases lv_cat (cv b sb v) with q | q <;> omega
    simp only [List.map_cons, List.sum_cons, List.length_cons]
    omega
theorem new_def {b sb n N2 : Nat} {C : String} {T : u_T} {N : Nat} {e3 : fE} (hv : vwCl[n]? = some (C, T, N)) (hg : newO n = some (N2, e3)) : N2 = N ∧ ∃ fs, e3 = .inr (n, fs) ∧ ∀ j, j < N → defaultValue (tyL n j) = vp_V (fs.map (cv b sb)) j := by
  match n, hv, hg with
  | 0, hv, hg => cases hv; cases hg; exact ⟨rfl, _, rfl, fun j hj => by match j, hj with | 0, _ => rfl | 1, _ => rfl | 2, _ => rfl | 3, _ => rfl⟩
  | 1, hv, hg => cases hv; cases hg; exact ⟨rfl, _, rfl, fun j hj => by match j, hj with | 0, _ => rfl⟩
  | 2, hv, hg => cases hv; cases hg; exact ⟨rfl, _, rfl, fun j hj => by match j, hj with | 0, _ => rfl | 1, _ => rfl | 2, _ => rfl⟩
  | 3, hv, hg => cases hv; cases hg; exact ⟨rfl, _, rfl, fun j hj => by match j, hj with | 0, _ => rfl | 1, _ => rfl | 2, _ => rfl⟩
  | 4, hv, hg => cases hv; cases hg; exact ⟨rfl, _, rfl, fun j hj => by match j, hj with | 0, _ => rfl | 1, _ => rfl⟩
  | 5, hv, hg => cases hv; cases hg; exact ⟨rfl, _, rfl, fun j hj => by match j, hj with | 0, _ => rfl | 1, _ => rfl | 2, _ => rfl | 3, _ => rfl | 4, _ => rfl | 5, _ => rfl | 6, _ => rfl | 7, _ => rfl⟩
  | 6, hv, hg => cases hv; cases hg; exact ⟨rfl, _, rfl, fun j hj => by match j, hj with | 0, _ => rfl | 1, _ => rfl | 2, _ => rfl | 3, _ => rfl | 4, _ => rfl | 5, _ => rfl | 6, _ => rfl | 7, _ => rfl | 8, _ => rfl | 9, _ => rfl | 10, _ => rfl | 11, _ => rfl | 12, _ => rfl | 13, _ => rfl | 14, _ => rfl | 15, _ => rfl | 16, _ => rfl | 17, _ => rfl | 18, _ => rfl | 19, _ => rfl | 20, _ => rfl | 21, _ => rfl | 22, _ => rfl | 23, _ => rfl | 24, _ => rfl | 25, _ => rfl | 26, _ => rfl | 27, _ => rfl | j + 28, h => exact absurd h (by omega)⟩
  | k + 7, hv, hg => simp [vwCl] at hv
theorem newA_inv {b sb : Nat} {t : Jvm.ClassFile.ArrayType} {n : Int32} {e : fE} (h : newA t n = some e) : ¬ n < 0 ∧ n.toNatClampNeg ≤ 1000 ∧ ∃ k ty a0, e = .inl (k, a0) ∧ newarray.typeOf t = ty ∧ Cond.arrayClass (newarray.typeOf t) ∈ AW ∧ ((k = 0 ∧ ty = .int) ∨ (k = 1 ∧ ty = .long) ∨ (k = 2 ∧ ty = .boolean)) ∧ (∀ cA : ClassId, vp_cell cA a0 = arrV cA n.toNatClampNeg (fun _ => defaultValue ty)) ∧ (∀ dA : Nat → ClassId, (tysO dA)[k]? = some (dA k, ty)) ∧ n.toNatClampNeg * componentBytes ty ≤ 536870912 ∧ cvA b sb a0 = a0 := by
  unfold newA at h
  split at h
  · cases h
  · rename_i hn
    have h1 : ¬ n < 0 := fun q => hn (Or.inl q)
    have h2 : n.toNatClampNeg ≤ 1000 := Nat.not_lt.mp (fun q => hn (Or.inr q))
    refine ⟨h1, h2, ?_⟩
    split at h
    · cases h; exact ⟨0, .int, _, rfl, rfl, ac_i, Or.inl ⟨rfl, rfl⟩, fun _ => rfl, fun _ => rfl, by simp only [componentBytes]; omega, rfl⟩
    · cases h; exact ⟨1, .long, _, rfl, rfl, ac_l, Or.inr (Or.inl ⟨rfl, rfl⟩), fun _ => rfl, fun _ => rfl, by simp only [componentBytes]; omega, rfl⟩
    · cases h; exact ⟨2, .boolean, _, rfl, rfl, ac_z, Or.inr (Or.inr ⟨rfl, rfl⟩), fun _ => rfl, fun _ => rfl, by simp only [componentBytes]; omega, rfl⟩
    · cases h
section SND
variable {p : Program} {l : Launch} {e : Env} {R : Room} {s : State} {m : MethodId} {args : Array Value} {below : List Frame} {meth : Method} {c : Code} {Qw : State → Prop} {dC : Nat → ClassId} {dI : Nat → Nat → Nat} {dA : Nat → ClassId} {b sb n0 s0 mid : Nat}
theorem W.sz {H : Heap} {locs : List Loc} {cells slots : Nat} {g : JFrame} (k : H.size ≤ s.heap.size + cells → W p l e R s m args below meth c H locs cells slots Qw g) : W p l e R s m args below meth c H locs cells slots Qw g := fun T hT X => k (by have := X.heapSize; rw [hT] at this; omega) T hT X
def Cx (p : Program) (R : Room) (s : State) (m : MethodId) (args : Array Value) (meth : Method) (c : Code) (dC : Nat → ClassId) (dI : Nat → Nat → Nat) (dA : Nat → ClassId) (b sb n0 mid : Nat) : Prop :=
  p.tables.exec = Jvm.exec ∧ c.code = cM mid ∧ c.maxLocals = mlT.getD mid 0 ∧ s.vm.findClass (ownS (clT.getD mid 99)) = some m.cls ∧ (∀ w ∈ AW, w.before args s = true) ∧ (kdT.getD mid 0 = 2 → meth.name = "<init>") ∧ va_K (dC, dI) vwCl (tysO dA) s ∧ NW s ∧ va_AO RX2 s ∧ rkT.getD mid 0 ≤ R.frames ∧ lrT.getD mid 0 ≤ R.locals ∧ s.heap.size = b + n0 ∧ sb < b
def Wk (p : Program) (l : Launch) (e : Env) (R : Room) (s : State) (m : MethodId) (args : Array Value) (below : List Frame) (meth : Method) (c : Code) (Qw : State → Prop) (dC : Nat → ClassId) (dI : Nat → Nat → Nat) (dA : Nat → ClassId) (b sb n0 s0 mid pc : Nat) (lv st : List Value) (hp : fH) : Prop :=
  ∀ (ls : Array Slot) (H : Heap) (locs : List Loc), LV b sb (mlT.getD mid 0) lv ls → RH dC dI dA b sb s hp H → va_S (fun q => b ≤ q) s.heap H locs → W p l e R s m args below meth c H locs (hp.1 - n0) (hp.2.1 - s0) Qw (F0 m pc ls (st.map (cv b sb)))
theorem scr_kept {H H1 : Heap} {locs locs1 : List Loc} (hz : s.heap.size = b + n0) (hsb : sb < b) (h : va_S (fun q => b ≤ q) s.heap H locs) (h1 : va_S (fun q => b ≤ q) s.heap H1 locs1) : H1[sb]? = H[sb]? := by
  rw [h.2.1 sb (by omega) (by omega), h1.2.1 sb (by omega) (by omega)]
/-- the heap's size is what the small machine counts -/
theorem RH.size {H : Heap} {locs : List Loc} {hp : fH} (hR : RH dC dI dA b sb s hp H) (hS : va_S (fun q => b ≤ q) s.heap H locs) (hz : s.heap.size = b + n0) (hn : n0 ≤ hp.1) (hu : H.size ≤ s.heap.size + (hp.1 - n0)) : H.size = b + hp.1 := by
  have h1 : b + hp.1 ≤ H.size := by
    rcases Nat.eq_zero_or_pos hp.1 with q | q
    · have := hS.1; omega
    · have h2 := (hR.1 (hp.1 - 1) _ (wsO_get (by omega))).lt
      dsimp only at h2
      omega
  omega

theorem snd_step (hC : Cx p R s m args meth c dC dI dA b sb n0 mid) {pc : Nat} {r : Instr} {len : Nat} {ins : Instr} {is : List Instr} {lv st : List Value} {hp : fH} {is' : List Instr} {lv' st' : List Value} {hp' : fH} (hd : decode (cM mid) pc = .ok (r, len)) (ht : tr (clT.getD mid 99) (rtT.getD mid 0 == 2) pc r = some ins) (hlen : isSw r = true ∨ len = ilen r) (htg : tgs (pcsT.getD mid []) ins = true) (hrm : cRm mid ins = true) (hck : chkM mid = true) (hnx : isTm ins = false → chkB mid (pc + len) is = true)
    (hs : stp mid ins is lv st hp = some (.inl (is', lv', st', hp'))) (hn0 : n0 ≤ hp.1) (hs0 : s0 ≤ hp.2.1) (hRc : hp'.1 - n0 ≤ R.cells) (hRs : hp'.2.1 - s0 ≤ R.slots) (hSL : hp'.1 ≤ SL)
    (kk : ∀ pc', chkB mid pc' is' = true → Wk p l e R s m args below meth c Qw dC dI dA b sb n0 s0 mid pc' lv' st' hp') : Wk p l e R s m args below meth c Qw dC dI dA b sb n0 s0 mid pc lv st hp := by
  obtain ⟨hx, hb, hml, hown, hts, hini, hK, hNW, hAO, hrk, hlr, hz, hsb⟩ := hC
  have hblk : ∀ t, (pcsT.getD mid []).contains t = true → chkB mid t (blk mid t) = true := fun t h => List.all_eq_true.mp hck t (List.contains_iff_mem.mp h)
  intro ls H locs hl hR hS
  cases r with
  | iconst i =>
    simp only [tr, Option.some.injEq] at ht
    subst ht
    obtain rfl : len = 1 := by simpa [isSw, ilen] using hlen
    simp only [stp] at hs
    simp only [Option.some.injEq, Sum.inl.injEq, Prod.mk.injEq] at hs
    obtain ⟨rfl, rfl, rfl, rfl⟩ := hs
    exact lv_iconst hx hb hd rfl (kk _ (hnx rfl) ls H locs hl hR hS)
  | bipush i =>
    simp only [tr] at ht
    split at ht
    · rename_i hv
      cases ht
      obtain rfl : len = 2 := by simpa [isSw, ilen] using hlen
      simp only [stp] at hs
      simp only [Option.some.injEq, Sum.inl.injEq, Prod.mk.injEq] at hs
      obtain ⟨rfl, rfl, rfl, rfl⟩ := hs
      exact lv_bipush hx hb hd hv (kk _ (hnx rfl) ls H locs hl hR hS)
    · cases ht
  | sipush i =>
    simp only [tr] at ht
    split at ht
    · rename_i hv
      cases ht
      obtain rfl : len = 3 := by simpa [isSw, ilen] using hlen
      simp only [stp] at hs
      simp only [Option.some.injEq, Sum.inl.injEq, Prod.mk.injEq] at hs
      obtain ⟨rfl, rfl, rfl, rfl⟩ := hs
      exact lv_sipush hx hb hd hv (kk _ (hnx rfl) ls H locs hl hR hS)
    · cases ht
  | ldc x =>
    simp only [tr, Option.map_eq_some_iff] at ht
    obtain ⟨v, hv, rfl⟩ := ht
    obtain rfl : len = 2 := by simpa [isSw, ilen] using hlen
    have hw := hts _ (wOK_in (List.all_eq_true.mp ldc_all _ (lk_mem hv)))
    simp only [stp] at hs
    simp only [Option.some.injEq, Sum.inl.injEq, Prod.mk.injEq] at hs
    obtain ⟨rfl, rfl, rfl, rfl⟩ := hs
    exact lv_ldc hx hb hown hw hd (kk _ (hnx rfl) ls H locs hl hR hS)
  | ldc_w x =>
    simp only [tr, Option.map_eq_some_iff] at ht
    obtain ⟨v, hv, rfl⟩ := ht
    obtain rfl : len = 3 := by simpa [isSw, ilen] using hlen
    have hw := hts _ (wOK_in (List.all_eq_true.mp ldc_all _ (lk_mem hv)))
    simp only [stp] at hs
    simp only [Option.some.injEq, Sum.inl.injEq, Prod.mk.injEq] at hs
    obtain ⟨rfl, rfl, rfl, rfl⟩ := hs
    exact lv_ldcw hx hb hown hw hd (kk _ (hnx rfl) ls H locs hl hR hS)
  | ldc2_w x =>
    simp only [tr, Option.map_eq_some_iff] at ht
    obtain ⟨v, hv, rfl⟩ := ht
    obtain rfl : len = 3 := by simpa [isSw, ilen] using hlen
    have hw := hts _ (wOK_in (List.all_eq_true.mp ldc2_all _ (lk_mem hv)))
    simp only [stp] at hs
    simp only [Option.some.injEq, Sum.inl.injEq, Prod.mk.injEq] at hs
    obtain ⟨rfl, rfl, rfl, rfl⟩ := hs
    exact lv_ldc2 hx hb hown hw hd (kk _ (hnx rfl) ls H locs hl hR hS)
  | lconst k =>
    simp only [tr, Option.some.injEq] at ht
    subst ht
    obtain rfl : len = 1 := by simpa [isSw, ilen] using hlen
    simp only [stp] at hs
    simp only [Option.some.injEq, Sum.inl.injEq, Prod.mk.injEq] at hs
    obtain ⟨rfl, rfl, rfl, rfl⟩ := hs
    exact lv_lconst hx hb hd (by rw [Int64.ofInt_eq_ofNat]) (kk _ (hnx rfl) ls H locs hl hR hS)
  | iload i =>
    simp only [tr, Option.some.injEq] at ht
    subst ht
    obtain rfl : len = 2 := by simpa [isSw, ilen] using hlen
    simp only [stp] at hs
    split at hs
    · rename_i x hlv
      simp only [Option.some.injEq, Sum.inl.injEq, Prod.mk.injEq] at hs
      obtain ⟨rfl, rfl, rfl, rfl⟩ := hs
      exact lv_iload hx hb hd (hl.at hlv rfl) (kk _ (hnx rfl) ls H locs hl hR hS)
    · cases hs
  | iload_n k =>
    simp only [tr, Option.some.injEq] at ht
    subst ht
    obtain rfl : len = 1 := by simpa [isSw, ilen] using hlen
    simp only [stp] at hs
    split at hs
    · rename_i x hlv
      simp only [Option.some.injEq, Sum.inl.injEq, Prod.mk.injEq] at hs
      obtain ⟨rfl, rfl, rfl, rfl⟩ := hs
      exact lv_iload_n hx hb hd rfl (hl.at hlv rfl) (kk _ (hnx rfl) ls H locs hl hR hS)
    · cases hs
  | lload i =>
    simp only [tr, Option.some.injEq] at ht
    subst ht
    obtain rfl : len = 2 := by simpa [isSw, ilen] using hlen
    simp only [stp] at hs
    split at hs
    · rename_i x hlv
      simp only [Option.some.injEq, Sum.inl.injEq, Prod.mk.injEq] at hs
      obtain ⟨rfl, rfl, rfl, rfl⟩ := hs
      exact lv_lload hx hb hd (hl.at hlv rfl) (kk _ (hnx rfl) ls H locs hl hR hS)
    · cases hs
  | lload_n k =>
    simp only [tr, Option.some.injEq] at ht
    subst ht
    obtain rfl : len = 1 := by simpa [isSw, ilen] using hlen
    simp only [stp] at hs
    split at hs
    · rename_i x hlv
      simp only [Option.some.injEq, Sum.inl.injEq, Prod.mk.injEq] at hs
      obtain ⟨rfl, rfl, rfl, rfl⟩ := hs
      exact lv_lload_n hx hb hd rfl (hl.at hlv rfl) (kk _ (hnx rfl) ls H locs hl hR hS)
    · cases hs
  | aload i =>
    simp only [tr, Option.some.injEq] at ht
    subst ht
    obtain rfl : len = 2 := by simpa [isSw, ilen] using hlen
    simp only [stp] at hs
    split at hs
    · rename_i x hlv
      simp only [Option.some.injEq, Sum.inl.injEq, Prod.mk.injEq] at hs
      obtain ⟨rfl, rfl, rfl, rfl⟩ := hs
      exact lv_aload hx hb hd (hl.at hlv rfl) (kk _ (hnx rfl) ls H locs hl hR hS)
    · cases hs
  | aload_n k =>
    simp only [tr, Option.some.injEq] at ht
    subst ht
    obtain rfl : len = 1 := by simpa [isSw, ilen] using hlen
    simp only [stp] at hs
    split at hs
    · rename_i x hlv
      simp only [Option.some.injEq, Sum.inl.injEq, Prod.mk.injEq] at hs
      obtain ⟨rfl, rfl, rfl, rfl⟩ := hs
      exact lv_aload_n hx hb hd rfl (hl.at hlv rfl) (kk _ (hnx rfl) ls H locs hl hR hS)
    · cases hs
  | istore i =>
    simp only [tr, Option.some.injEq] at ht
    subst ht
    obtain rfl : len = 2 := by simpa [isSw, ilen] using hlen
    simp only [stp] at hs
    split at hs
    · simp only [Option.map_eq_some_iff] at hs
      obtain ⟨lv2, hlv2, hs⟩ := hs
      simp only [Sum.inl.injEq, Prod.mk.injEq] at hs
      obtain ⟨rfl, rfl, rfl, rfl⟩ := hs
      have hi := (sto_get _ _ _ _ hlv2).1
      rw [hl.1] at hi
      exact lv_istore hx hb hd hl.2 hi rfl (fun ls2 hl2 => kk _ (hnx rfl) ls2 H locs (hl.sto1 hlv2 hl2) hR hS)
    · cases hs
  | istore_n k =>
    simp only [tr, Option.some.injEq] at ht
    subst ht
    obtain rfl : len = 1 := by simpa [isSw, ilen] using hlen
    simp only [stp] at hs
    split at hs
    · simp only [Option.map_eq_some_iff] at hs
      obtain ⟨lv2, hlv2, hs⟩ := hs
      simp only [Sum.inl.injEq, Prod.mk.injEq] at hs
      obtain ⟨rfl, rfl, rfl, rfl⟩ := hs
      have hi := (sto_get _ _ _ _ hlv2).1
      rw [hl.1] at hi
      exact lv_istore_n hx hb hd rfl hl.2 hi rfl (fun ls2 hl2 => kk _ (hnx rfl) ls2 H locs (hl.sto1 hlv2 hl2) hR hS)
    · cases hs
  | astore i =>
    simp only [tr, Option.some.injEq] at ht
    subst ht
    obtain rfl : len = 2 := by simpa [isSw, ilen] using hlen
    simp only [stp] at hs
    split at hs
    · simp only [Option.map_eq_some_iff] at hs
      obtain ⟨lv2, hlv2, hs⟩ := hs
      simp only [Sum.inl.injEq, Prod.mk.injEq] at hs
      obtain ⟨rfl, rfl, rfl, rfl⟩ := hs
      have hi := (sto_get _ _ _ _ hlv2).1
      rw [hl.1] at hi
      exact lv_astore hx hb hd hl.2 hi rfl (fun ls2 hl2 => kk _ (hnx rfl) ls2 H locs (hl.sto1 hlv2 hl2) hR hS)
    · cases hs
  | astore_n k =>
    simp only [tr, Option.some.injEq] at ht
    subst ht
    obtain rfl : len = 1 := by simpa [isSw, ilen] using hlen
    simp only [stp] at hs
    split at hs
    · simp only [Option.map_eq_some_iff] at hs
      obtain ⟨lv2, hlv2, hs⟩ := hs
      simp only [Sum.inl.injEq, Prod.mk.injEq] at hs
      obtain ⟨rfl, rfl, rfl, rfl⟩ := hs
      have hi := (sto_get _ _ _ _ hlv2).1
      rw [hl.1] at hi
      exact lv_astore_n hx hb hd rfl hl.2 hi rfl (fun ls2 hl2 => kk _ (hnx rfl) ls2 H locs (hl.sto1 hlv2 hl2) hR hS)
    · cases hs
  | lstore i =>
    simp only [tr, Option.some.injEq] at ht
    subst ht
    obtain rfl : len = 2 := by simpa [isSw, ilen] using hlen
    simp only [stp] at hs
    split at hs
    · simp only [Option.map_eq_some_iff] at hs
      obtain ⟨lv2, hlv2, hs⟩ := hs
      simp only [Sum.inl.injEq, Prod.mk.injEq] at hs
      obtain ⟨rfl, rfl, rfl, rfl⟩ := hs
      have hi := (sto2_get _ _ _ _ hlv2).1
      rw [hl.1] at hi
      exact lv_lstore hx hb hd hl.2 hi rfl (fun ls2 hl2 => kk _ (hnx rfl) ls2 H locs (hl.sto2 hlv2 hl2) hR hS)
    · cases hs
  | lstore_n k =>
    simp only [tr, Option.some.injEq] at ht
    subst ht
    obtain rfl : len = 1 := by simpa [isSw, ilen] using hlen
    simp only [stp] at hs
    split at hs
    · simp only [Option.map_eq_some_iff] at hs
      obtain ⟨lv2, hlv2, hs⟩ := hs
      simp only [Sum.inl.injEq, Prod.mk.injEq] at hs
      obtain ⟨rfl, rfl, rfl, rfl⟩ := hs
      have hi := (sto2_get _ _ _ _ hlv2).1
      rw [hl.1] at hi
      exact lv_lstore_n hx hb hd rfl hl.2 hi rfl (fun ls2 hl2 => kk _ (hnx rfl) ls2 H locs (hl.sto2 hlv2 hl2) hR hS)
    · cases hs
  | iinc i k =>
    simp only [tr, Option.some.injEq] at ht
    subst ht
    obtain rfl : len = 3 := by simpa [isSw, ilen] using hlen
    simp only [stp] at hs
    split at hs
    · rename_i x hlv
      simp only [Option.map_eq_some_iff] at hs
      obtain ⟨lv2, hlv2, hs⟩ := hs
      simp only [Sum.inl.injEq, Prod.mk.injEq] at hs
      obtain ⟨rfl, rfl, rfl, rfl⟩ := hs
      have hi := (sto_get _ _ _ _ hlv2).1
      rw [hl.1] at hi
      have hm := lvA_mem (b := b) (sb := sb) lv 0 i (.int x) hlv rfl
      rw [Nat.zero_add] at hm
      obtain ⟨k2, hk2⟩ := List.getElem?_of_mem hm
      exact lv_iinc hx hb hd hl.2 (k := k2) hk2 rfl hi rfl (fun ls2 hl2 => kk _ (hnx rfl) ls2 H locs (hl.sto1 hlv2 hl2) hR hS)
    · cases hs
  | iadd =>
    simp only [tr, Option.some.injEq] at ht
    subst ht
    obtain rfl : len = 1 := by simpa [isSw, ilen] using hlen
    simp only [stp] at hs
    split at hs
    · simp only [Option.some.injEq, Sum.inl.injEq, Prod.mk.injEq] at hs
      obtain ⟨rfl, rfl, rfl, rfl⟩ := hs
      exact lv_iadd hx hb hd (kk _ (hnx rfl) ls H locs hl hR hS)
    · cases hs
  | isub =>
    simp only [tr, Option.some.injEq] at ht
    subst ht
    obtain rfl : len = 1 := by simpa [isSw, ilen] using hlen
    simp only [stp] at hs
    split at hs
    · simp only [Option.some.injEq, Sum.inl.injEq, Prod.mk.injEq] at hs
      obtain ⟨rfl, rfl, rfl, rfl⟩ := hs
      exact lv_isub hx hb hd (kk _ (hnx rfl) ls H locs hl hR hS)
    · cases hs
  | imul =>
    simp only [tr, Option.some.injEq] at ht
    subst ht
    obtain rfl : len = 1 := by simpa [isSw, ilen] using hlen
    simp only [stp] at hs
    split at hs
    · simp only [Option.some.injEq, Sum.inl.injEq, Prod.mk.injEq] at hs
      obtain ⟨rfl, rfl, rfl, rfl⟩ := hs
      exact lv_imul hx hb hd (kk _ (hnx rfl) ls H locs hl hR hS)
    · cases hs
  | iand =>
    simp only [tr, Option.some.injEq] at ht
    subst ht
    obtain rfl : len = 1 := by simpa [isSw, ilen] using hlen
    simp only [stp] at hs
    split at hs
    · simp only [Option.some.injEq, Sum.inl.injEq, Prod.mk.injEq] at hs
      obtain ⟨rfl, rfl, rfl, rfl⟩ := hs
      exact lv_iand hx hb hd (kk _ (hnx rfl) ls H locs hl hR hS)
    · cases hs
  | ior =>
    simp only [tr, Option.some.injEq] at ht
    subst ht
    obtain rfl : len = 1 := by simpa [isSw, ilen] using hlen
    simp only [stp] at hs
    split at hs
    · simp only [Option.some.injEq, Sum.inl.injEq, Prod.mk.injEq] at hs
      obtain ⟨rfl, rfl, rfl, rfl⟩ := hs
      exact lv_ior hx hb hd (kk _ (hnx rfl) ls H locs hl hR hS)
    · cases hs
  | ishl =>
    simp only [tr, Option.some.injEq] at ht
    subst ht
    obtain rfl : len = 1 := by simpa [isSw, ilen] using hlen
    simp only [stp] at hs
    split at hs
    · simp only [Option.some.injEq, Sum.inl.injEq, Prod.mk.injEq] at hs
      obtain ⟨rfl, rfl, rfl, rfl⟩ := hs
      exact lv_ishl hx hb hd (kk _ (hnx rfl) ls H locs hl hR hS)
    · cases hs
  | ishr =>
    simp only [tr, Option.some.injEq] at ht
    subst ht
    obtain rfl : len = 1 := by simpa [isSw, ilen] using hlen
    simp only [stp] at hs
    split at hs
    · simp only [Option.some.injEq, Sum.inl.injEq, Prod.mk.injEq] at hs
      obtain ⟨rfl, rfl, rfl, rfl⟩ := hs
      exact lv_ishr hx hb hd (kk _ (hnx rfl) ls H locs hl hR hS)
    · cases hs
  | ladd =>
    simp only [tr, Option.some.injEq] at ht
    subst ht
    obtain rfl : len = 1 := by simpa [isSw, ilen] using hlen
    simp only [stp] at hs
    split at hs
    · simp only [Option.some.injEq, Sum.inl.injEq, Prod.mk.injEq] at hs
      obtain ⟨rfl, rfl, rfl, rfl⟩ := hs
      exact lv_ladd hx hb hd (kk _ (hnx rfl) ls H locs hl hR hS)
    · cases hs
  | lsub =>
    simp only [tr, Option.some.injEq] at ht
    subst ht
    obtain rfl : len = 1 := by simpa [isSw, ilen] using hlen
    simp only [stp] at hs
    split at hs
    · simp only [Option.some.injEq, Sum.inl.injEq, Prod.mk.injEq] at hs
      obtain ⟨rfl, rfl, rfl, rfl⟩ := hs
      exact lv_lsub hx hb hd (kk _ (hnx rfl) ls H locs hl hR hS)
    · cases hs
  | lmul =>
    simp only [tr, Option.some.injEq] at ht
    subst ht
    obtain rfl : len = 1 := by simpa [isSw, ilen] using hlen
    simp only [stp] at hs
    split at hs
    · simp only [Option.some.injEq, Sum.inl.injEq, Prod.mk.injEq] at hs
      obtain ⟨rfl, rfl, rfl, rfl⟩ := hs
      exact lv_lmul hx hb hd (kk _ (hnx rfl) ls H locs hl hR hS)
    · cases hs
  | land =>
    simp only [tr, Option.some.injEq] at ht
    subst ht
    obtain rfl : len = 1 := by simpa [isSw, ilen] using hlen
    simp only [stp] at hs
    split at hs
    · simp only [Option.some.injEq, Sum.inl.injEq, Prod.mk.injEq] at hs
      obtain ⟨rfl, rfl, rfl, rfl⟩ := hs
      exact lv_land hx hb hd (kk _ (hnx rfl) ls H locs hl hR hS)
    · cases hs
  | lor =>
    simp only [tr, Option.some.injEq] at ht
    subst ht
    obtain rfl : len = 1 := by simpa [isSw, ilen] using hlen
    simp only [stp] at hs
    split at hs
    · simp only [Option.some.injEq, Sum.inl.injEq, Prod.mk.injEq] at hs
      obtain ⟨rfl, rfl, rfl, rfl⟩ := hs
      exact lv_lor hx hb hd (kk _ (hnx rfl) ls H locs hl hR hS)
    · cases hs
  | iushr =>
    simp only [tr, Option.some.injEq] at ht
    subst ht
    obtain rfl : len = 1 := by simpa [isSw, ilen] using hlen
    simp only [stp] at hs
    split at hs
    · simp only [Option.some.injEq, Sum.inl.injEq, Prod.mk.injEq] at hs
      obtain ⟨rfl, rfl, rfl, rfl⟩ := hs
      exact lv_iushr hx hb hd rfl (kk _ (hnx rfl) ls H locs hl hR hS)
    · cases hs
  | lshl =>
    simp only [tr, Option.some.injEq] at ht
    subst ht
    obtain rfl : len = 1 := by simpa [isSw, ilen] using hlen
    simp only [stp] at hs
    split at hs
    · simp only [Option.some.injEq, Sum.inl.injEq, Prod.mk.injEq] at hs
      obtain ⟨rfl, rfl, rfl, rfl⟩ := hs
      exact lv_lshl hx hb hd rfl (kk _ (hnx rfl) ls H locs hl hR hS)
    · cases hs
  | lshr =>
    simp only [tr, Option.some.injEq] at ht
    subst ht
    obtain rfl : len = 1 := by simpa [isSw, ilen] using hlen
    simp only [stp] at hs
    split at hs
    · simp only [Option.some.injEq, Sum.inl.injEq, Prod.mk.injEq] at hs
      obtain ⟨rfl, rfl, rfl, rfl⟩ := hs
      exact lv_lshr hx hb hd rfl (kk _ (hnx rfl) ls H locs hl hR hS)
    · cases hs
  | lcmp =>
    simp only [tr, Option.some.injEq] at ht
    subst ht
    obtain rfl : len = 1 := by simpa [isSw, ilen] using hlen
    simp only [stp] at hs
    split at hs
    · simp only [Option.some.injEq, Sum.inl.injEq, Prod.mk.injEq] at hs
      obtain ⟨rfl, rfl, rfl, rfl⟩ := hs
      exact W.lcmp hx hb hd (kk _ (hnx rfl) ls H locs hl hR hS)
    · cases hs
  | ineg =>
    simp only [tr, Option.some.injEq] at ht
    subst ht
    obtain rfl : len = 1 := by simpa [isSw, ilen] using hlen
    simp only [stp] at hs
    split at hs
    · simp only [Option.some.injEq, Sum.inl.injEq, Prod.mk.injEq] at hs
      obtain ⟨rfl, rfl, rfl, rfl⟩ := hs
      exact lv_ineg hx hb hd (kk _ (hnx rfl) ls H locs hl hR hS)
    · cases hs
  | i2l =>
    simp only [tr, Option.some.injEq] at ht
    subst ht
    obtain rfl : len = 1 := by simpa [isSw, ilen] using hlen
    simp only [stp] at hs
    split at hs
    · simp only [Option.some.injEq, Sum.inl.injEq, Prod.mk.injEq] at hs
      obtain ⟨rfl, rfl, rfl, rfl⟩ := hs
      exact lv_i2l hx hb hd rfl (kk _ (hnx rfl) ls H locs hl hR hS)
    · cases hs
  | l2i =>
    simp only [tr, Option.some.injEq] at ht
    subst ht
    obtain rfl : len = 1 := by simpa [isSw, ilen] using hlen
    simp only [stp] at hs
    split at hs
    · simp only [Option.some.injEq, Sum.inl.injEq, Prod.mk.injEq] at hs
      obtain ⟨rfl, rfl, rfl, rfl⟩ := hs
      exact lv_l2i hx hb hd rfl (kk _ (hnx rfl) ls H locs hl hR hS)
    · cases hs
  | idiv =>
    simp only [tr, Option.some.injEq] at ht
    subst ht
    obtain rfl : len = 1 := by simpa [isSw, ilen] using hlen
    simp only [stp] at hs
    split at hs
    · split at hs
      · cases hs
      · rename_i hne
        simp only [Option.some.injEq, Sum.inl.injEq, Prod.mk.injEq] at hs
        obtain ⟨rfl, rfl, rfl, rfl⟩ := hs
        exact lv_idiv hx hb hd hne (kk _ (hnx rfl) ls H locs hl hR hS)
    · cases hs
  | irem =>
    simp only [tr, Option.some.injEq] at ht
    subst ht
    obtain rfl : len = 1 := by simpa [isSw, ilen] using hlen
    simp only [stp] at hs
    split at hs
    · split at hs
      · cases hs
      · rename_i hne
        simp only [Option.some.injEq, Sum.inl.injEq, Prod.mk.injEq] at hs
        obtain ⟨rfl, rfl, rfl, rfl⟩ := hs
        exact lv_irem hx hb hd hne (kk _ (hnx rfl) ls H locs hl hR hS)
    · cases hs
  | ldiv =>
    simp only [tr, Option.some.injEq] at ht
    subst ht
    obtain rfl : len = 1 := by simpa [isSw, ilen] using hlen
    simp only [stp] at hs
    split at hs
    · split at hs
      · cases hs
      · rename_i hne
        simp only [Option.some.injEq, Sum.inl.injEq, Prod.mk.injEq] at hs
        obtain ⟨rfl, rfl, rfl, rfl⟩ := hs
        exact lv_ldiv hx hb hd hne (kk _ (hnx rfl) ls H locs hl hR hS)
    · cases hs
  | dup =>
    simp only [tr, Option.some.injEq] at ht
    subst ht
    obtain rfl : len = 1 := by simpa [isSw, ilen] using hlen
    simp only [stp] at hs
    split at hs
    · simp only [Option.some.injEq, Sum.inl.injEq, Prod.mk.injEq] at hs
      obtain ⟨rfl, rfl, rfl, rfl⟩ := hs
      exact lv_dup hx hb hd rfl (kk _ (hnx rfl) ls H locs hl hR hS)
    · simp only [Option.some.injEq, Sum.inl.injEq, Prod.mk.injEq] at hs
      obtain ⟨rfl, rfl, rfl, rfl⟩ := hs
      exact lv_dup hx hb hd rfl (kk _ (hnx rfl) ls H locs hl hR hS)
    · cases hs
  | pop =>
    simp only [tr, Option.some.injEq] at ht
    subst ht
    obtain rfl : len = 1 := by simpa [isSw, ilen] using hlen
    simp only [stp] at hs
    split at hs
    · simp only [Option.some.injEq, Sum.inl.injEq, Prod.mk.injEq] at hs
      obtain ⟨rfl, rfl, rfl, rfl⟩ := hs
      exact lv_pop hx hb hd rfl (kk _ (hnx rfl) ls H locs hl hR hS)
    · cases hs
  | dup2 =>
    simp only [tr, Option.some.injEq] at ht
    subst ht
    obtain rfl : len = 1 := by simpa [isSw, ilen] using hlen
    simp only [stp] at hs
    split at hs
    · simp only [Option.some.injEq, Sum.inl.injEq, Prod.mk.injEq] at hs
      obtain ⟨rfl, rfl, rfl, rfl⟩ := hs
      exact lv_dup2_11 hx hb hd rfl rfl (kk _ (hnx rfl) ls H locs hl hR hS)
    · cases hs
  | goto of =>
    simp only [tr, Option.map_eq_some_iff, jmp] at ht
    obtain ⟨t, h1, rfl⟩ := ht
    split at h1
    · rename_i hge
      cases h1
      simp only [stp] at hs
      simp only [Option.some.injEq, Sum.inl.injEq, Prod.mk.injEq] at hs
      obtain ⟨rfl, rfl, rfl, rfl⟩ := hs
      obtain rfl : len = 3 := by simpa [isSw, ilen] using hlen
      exact lv_goto hx hb hd (Int.toNat_of_nonneg hge).symm (kk _ (hblk _ htg) ls H locs hl hR hS)
    · cases h1
  | if_icmp cd of =>
    simp only [tr, Option.map_eq_some_iff, jmp] at ht
    obtain ⟨t, h1, rfl⟩ := ht
    split at h1
    · rename_i hge
      cases h1
      simp only [stp] at hs
      split at hs
      · simp only [Option.some.injEq, Sum.inl.injEq, Prod.mk.injEq] at hs
        obtain ⟨rfl, rfl, rfl, rfl⟩ := hs
        obtain rfl : len = 3 := by simpa [isSw, ilen] using hlen
        cases cd
        · exact lv_icmp_eq hx hb hd (Int.toNat_of_nonneg hge).symm (fun q => kk _ (by rw [if_pos (by simp only [cmpC, decide_eq_true_eq]; exact q)]; exact hblk _ htg) ls H locs hl hR hS) (fun q => kk _ (by rw [if_neg (by simp only [cmpC, decide_eq_true_eq]; exact q)]; exact hnx rfl) ls H locs hl hR hS)
        · exact lv_icmp_ne hx hb hd (Int.toNat_of_nonneg hge).symm (fun q => kk _ (by rw [if_pos (by simp only [cmpC, decide_eq_true_eq]; exact q)]; exact hblk _ htg) ls H locs hl hR hS) (fun q => kk _ (by rw [if_neg (by simp only [cmpC, decide_eq_true_eq]; exact fun z => z q)]; exact hnx rfl) ls H locs hl hR hS)
        · exact lv_icmp_lt hx hb hd (Int.toNat_of_nonneg hge).symm (fun q => kk _ (by rw [if_pos (by simp only [cmpC, decide_eq_true_eq]; exact q)]; exact hblk _ htg) ls H locs hl hR hS) (fun q => kk _ (by rw [if_neg (by simp only [cmpC, decide_eq_true_eq]; exact q)]; exact hnx rfl) ls H locs hl hR hS)
        · exact lv_icmp_ge hx hb hd (Int.toNat_of_nonneg hge).symm (fun q => kk _ (by rw [if_pos (by simp only [cmpC, decide_eq_true_eq]; exact q)]; exact hblk _ htg) ls H locs hl hR hS) (fun q => kk _ (by rw [if_neg (by simp only [cmpC, decide_eq_true_eq]; exact q)]; exact hnx rfl) ls H locs hl hR hS)
        · exact lv_icmp_gt hx hb hd (Int.toNat_of_nonneg hge).symm (fun q => kk _ (by rw [if_pos (by simp only [cmpC, decide_eq_true_eq]; exact q)]; exact hblk _ htg) ls H locs hl hR hS) (fun q => kk _ (by rw [if_neg (by simp only [cmpC, decide_eq_true_eq]; exact q)]; exact hnx rfl) ls H locs hl hR hS)
        · exact lv_icmp_le hx hb hd (Int.toNat_of_nonneg hge).symm (fun q => kk _ (by rw [if_pos (by simp only [cmpC, decide_eq_true_eq]; exact q)]; exact hblk _ htg) ls H locs hl hR hS) (fun q => kk _ (by rw [if_neg (by simp only [cmpC, decide_eq_true_eq]; exact q)]; exact hnx rfl) ls H locs hl hR hS)
      · cases hs
    · cases h1
  | ifCond cd of =>
    simp only [tr, Option.map_eq_some_iff, jmp] at ht
    obtain ⟨t, h1, rfl⟩ := ht
    split at h1
    · rename_i hge
      cases h1
      simp only [stp] at hs
      split at hs
      · simp only [Option.some.injEq, Sum.inl.injEq, Prod.mk.injEq] at hs
        obtain ⟨rfl, rfl, rfl, rfl⟩ := hs
        obtain rfl : len = 3 := by simpa [isSw, ilen] using hlen
        cases cd
        · exact lv_if_eq hx hb hd (Int.toNat_of_nonneg hge).symm (fun q => kk _ (by rw [if_pos (by simp only [cmpC, decide_eq_true_eq]; exact q)]; exact hblk _ htg) ls H locs hl hR hS) (fun q => kk _ (by rw [if_neg (by simp only [cmpC, decide_eq_true_eq]; exact q)]; exact hnx rfl) ls H locs hl hR hS)
        · exact lv_if_ne hx hb hd (Int.toNat_of_nonneg hge).symm (fun q => kk _ (by rw [if_pos (by simp only [cmpC, decide_eq_true_eq]; exact q)]; exact hblk _ htg) ls H locs hl hR hS) (fun q => kk _ (by rw [if_neg (by simp only [cmpC, decide_eq_true_eq]; exact fun z => z q)]; exact hnx rfl) ls H locs hl hR hS)
        · exact lv_if_lt hx hb hd (Int.toNat_of_nonneg hge).symm (fun q => kk _ (by rw [if_pos (by simp only [cmpC, decide_eq_true_eq]; exact q)]; exact hblk _ htg) ls H locs hl hR hS) (fun q => kk _ (by rw [if_neg (by simp only [cmpC, decide_eq_true_eq]; exact q)]; exact hnx rfl) ls H locs hl hR hS)
        · exact lv_if_ge hx hb hd (Int.toNat_of_nonneg hge).symm (fun q => kk _ (by rw [if_pos (by simp only [cmpC, decide_eq_true_eq]; exact q)]; exact hblk _ htg) ls H locs hl hR hS) (fun q => kk _ (by rw [if_neg (by simp only [cmpC, decide_eq_true_eq]; exact q)]; exact hnx rfl) ls H locs hl hR hS)
        · exact lv_if_gt hx hb hd (Int.toNat_of_nonneg hge).symm (fun q => kk _ (by rw [if_pos (by simp only [cmpC, decide_eq_true_eq]; exact q)]; exact hblk _ htg) ls H locs hl hR hS) (fun q => kk _ (by rw [if_neg (by simp only [cmpC, decide_eq_true_eq]; exact q)]; exact hnx rfl) ls H locs hl hR hS)
        · exact lv_if_le hx hb hd (Int.toNat_of_nonneg hge).symm (fun q => kk _ (by rw [if_pos (by simp only [cmpC, decide_eq_true_eq]; exact q)]; exact hblk _ htg) ls H locs hl hR hS) (fun q => kk _ (by rw [if_neg (by simp only [cmpC, decide_eq_true_eq]; exact q)]; exact hnx rfl) ls H locs hl hR hS)
      · cases hs
    · cases h1
  | tableswitch d lo hi offs =>
    simp only [tr] at ht
    split at ht
    · rename_i hge
      cases ht
      obtain ⟨g1, g2, g3⟩ := hge
      simp only [stp] at hs
      split at hs
      · rename_i x st0
        simp only [Option.some.injEq, Sum.inl.injEq, Prod.mk.injEq] at hs
        obtain ⟨rfl, rfl, rfl, rfl⟩ := hs
        simp only [tgs, Bool.and_eq_true] at htg
        by_cases ho : x.toInt < lo ∨ hi < x.toInt
        · rw [if_pos ho] at kk
          exact lv_tableOut hx hb hd ho (Int.toNat_of_nonneg g1).symm (kk _ (hblk _ htg.1) ls H locs hl hR hS)
        · rw [if_neg ho] at kk
          have hlt : (x.toInt - lo).toNat < offs.size := by omega
          have e1 : offs[(x.toInt - lo).toNat]? = some (offs[(x.toInt - lo).toNat]) := Array.getElem?_eq_getElem hlt
          have hmem : offs[(x.toInt - lo).toNat] ∈ offs.toList := by simp
          have hge2 : 0 ≤ (pc : Int) + offs[(x.toInt - lo).toNat] := of_decide_eq_true (List.all_eq_true.mp g2 _ hmem)
          have e2 : (offs.map (fun o => (pc : Int) + o)).getD (x.toInt - lo).toNat ((pc : Int) + d) = (pc : Int) + offs[(x.toInt - lo).toNat] := by simp [Array.getD, hlt]
          rw [e2] at kk
          have hc2 : (pcsT.getD mid []).contains ((pc : Int) + offs[(x.toInt - lo).toNat]).toNat = true := List.all_eq_true.mp htg.2 _ (by simp only [Array.toList_map, List.mem_map]; exact ⟨_, hmem, rfl⟩)
          exact lv_tableIn hx hb hd (fun q => ho (Or.inl q)) (fun q => ho (Or.inr q)) e1 (Int.toNat_of_nonneg hge2).symm (kk _ (hblk _ hc2) ls H locs hl hR hS)
      · cases hs
    · cases ht
  | getfield x =>
    simp only [tr, Option.map_eq_some_iff] at ht
    obtain ⟨n, hn, rfl⟩ := ht
    obtain rfl : len = 3 := by simpa [isSw, ilen] using hlen
    obtain ⟨C, T, N, hv, hk, hw⟩ := fld_ok hn
    simp only [stp] at hs
    split at hs
    · rename_i a st0
      simp only [Option.map_eq_some_iff] at hs
      obtain ⟨v, hg, hs⟩ := hs
      simp only [Sum.inl.injEq, Prod.mk.injEq] at hs
      obtain ⟨rfl, rfl, rfl, rfl⟩ := hs
      obtain ⟨fs, he, hf⟩ := gF_inv hg
      obtain ⟨hin, hty, hnm, h7⟩ := cls_ok hv
      obtain ⟨ha, h9⟩ := hR.obj he h7
      have hcell := wsO_get (dA := dA) (b := b) (sb := sb) ha
      rw [show hp.2.2 a = f_get hp a from rfl, he] at hcell
      rw [List.map_cons, show cv b sb (.ref a) = .ref (b + a) by simp [cv, cvN_b h9]]
      exact va_get hx hb hts hin hown hK hR.1 a hcell hv (n % 32) hk (hts _ hw) (fun _ h => h) (v := cv b sb v) (by rw [List.getElem?_map, hf]; rfl) hd (kk _ (hnx rfl) ls H locs hl hR hS)
    · cases hs
  | putfield x =>
    simp only [tr, Option.map_eq_some_iff] at ht
    obtain ⟨n, hn, rfl⟩ := ht
    obtain rfl : len = 3 := by simpa [isSw, ilen] using hlen
    obtain ⟨C, T, N, hv, hk, hw⟩ := fld_ok hn
    simp only [stp] at hs
    split at hs
    · rename_i v a st0
      simp only [Option.map_eq_some_iff] at hs
      obtain ⟨e2, hg, hs⟩ := hs
      simp only [Sum.inl.injEq, Prod.mk.injEq] at hs
      obtain ⟨rfl, rfl, rfl, rfl⟩ := hs
      obtain ⟨fs, he, hf, hfit, rfl⟩ := pF_inv hg
      obtain ⟨hin, hty, hnm, h7⟩ := cls_ok hv
      obtain ⟨ha, h9⟩ := hR.obj he h7
      obtain ⟨f1, f2, f3, f4⟩ := fin_ok hv hk
      have hcell := wsO_get (dA := dA) (b := b) (sb := sb) ha
      rw [show hp.2.2 a = f_get hp a from rfl, he] at hcell
      have hnar : narrow (tyL (n / 32) (n % 32)) (cv b sb v) = cv b sb v ∧ fits (tyL (n / 32) (n % 32)) (cv b sb v) = true := by
        cases v with
        | int y => rw [f2 (by simpa [fit] using hfit)]; exact ⟨rfl, rfl⟩
        | ref y =>
          have h3 := f3 (by simpa [fit] using hfit)
          generalize tyL (n / 32) (n % 32) = ty at h3
          cases ty <;> first | exact ⟨rfl, rfl⟩ | (simp [refT] at h3)
        | _ => simp [fit] at hfit
      rw [List.map_cons, List.map_cons, show cv b sb (.ref a) = .ref (b + a) by simp [cv, cvN_b h9]]
      have fin : ∀ (H1 : Heap) (locs1 : List Loc), va_P (dC, dI) vwCl ((wsO dA b sb hp).set a (b + a, .inr (n / 32, (fs.map (cv b sb)).set (n % 32) (cv b sb v)))) H1 → va_D (fun q => b ≤ q) ((wsO dA b sb hp).set a (b + a, .inr (n / 32, (fs.map (cv b sb)).set (n % 32) (cv b sb v)))) → va_S (fun q => b ≤ q) s.heap H1 locs1 → W p l e R s m args below meth c H1 locs1 (hp.1 - n0) (hp.2.1 - s0) Qw (F0 m (pc + 3) ls (st0.map (cv b sb))) := by
        intro H1 locs1 q1 q2 q3
        have e3 := wsO_set (dA := dA) (b := b) (sb := sb) (hp := hp) (k := a) (.inr (n / 32, fs.set (n % 32) v))
        simp only [cvE, List.map_set] at e3
        rw [e3] at q1
        exact kk _ (hnx rfl) ls H1 locs1 hl (hR.put ha (fun n x h => by cases h) (scr_kept hz hsb hS q3) q1) q3
      cases hfin : (T (n % 32)).2.2.2 with
      | false => exact va_put hx hb hts hin (tyL (n / 32)) hty hnm hown hK hR.1 wsO_D hS a hcell hv (n % 32) hk (hts _ hw) (fun _ h => h) hfin (hty _ hk) hnar.1 hnar.2 (by simpa using hf) hd fin
      | true =>
        have hr2 : kdT.getD mid 0 = 2 ∧ clT.getD mid 99 = n / 32 := by
          rw [hfin] at f1
          simp only [cRm, f1, Bool.not_true, Bool.false_or, Bool.and_eq_true, beq_iff_eq] at hrm
          exact hrm
        exact va_putF hx hb hts hin (tyL (n / 32)) hty hnm hown hK hR.1 wsO_D hS a hcell hv (n % 32) hk (hts _ hw) (fun _ h => h) hfin (hini hr2.1) (by rw [f4, hr2.2]) (hty _ hk) hnar.1 hnar.2 (by simpa using hf) hd fin
    · cases hs
  | baload =>
    simp only [tr, Option.some.injEq] at ht
    subst ht
    obtain rfl : len = 1 := by simpa [isSw, ilen] using hlen
    simp only [stp] at hs
    split at hs
    · rename_i i a st0
      simp only [Option.map_eq_some_iff] at hs
      obtain ⟨v, hg, hs⟩ := hs
      simp only [Sum.inl.injEq, Prod.mk.injEq] at hs
      obtain ⟨rfl, rfl, rfl, rfl⟩ := hs
      obtain ⟨n, f, he, hi, hf⟩ := ldZ_inv hg
      obtain ⟨ha, h9⟩ := hR.arr he (by decide)
      have hcell := wsO_get (dA := dA) (b := b) (sb := sb) ha
      rw [show hp.2.2 a = f_get hp a from rfl, he] at hcell
      rw [List.map_cons, List.map_cons, show cv b sb (.ref a) = .ref (b + a) by simp [cv, cvN_b h9]]
      refine va_zald hx hb hK hR.1 a 2 hcell rfl hi hd ?_
      rw [show f i.toNatClampNeg = v from hf]
      exact kk _ (hnx rfl) ls H locs hl hR hS
    · cases hs
  | laload =>
    simp only [tr, Option.some.injEq] at ht
    subst ht
    obtain rfl : len = 1 := by simpa [isSw, ilen] using hlen
    simp only [stp] at hs
    split at hs
    · rename_i i a st0
      simp only [Option.map_eq_some_iff] at hs
      obtain ⟨v, hg, hs⟩ := hs
      simp only [Sum.inl.injEq, Prod.mk.injEq] at hs
      obtain ⟨rfl, rfl, rfl, rfl⟩ := hs
      obtain ⟨n, f, he, hi, hf⟩ := ldL_inv hg
      obtain ⟨ha, h9⟩ := hR.arr he (by decide)
      have hcell := wsO_get (dA := dA) (b := b) (sb := sb) ha
      rw [show hp.2.2 a = f_get hp a from rfl, he] at hcell
      rw [List.map_cons, List.map_cons, show cv b sb (.ref a) = .ref (b + a) by simp [cv, cvN_b h9]]
      refine va_lald hx hb hK hR.1 a 1 hcell rfl hi hd ?_
      rw [show f i.toNatClampNeg = v from hf]
      exact kk _ (hnx rfl) ls H locs hl hR hS
    · cases hs
  | aaload =>
    simp only [tr, Option.some.injEq] at ht
    subst ht
    obtain rfl : len = 1 := by simpa [isSw, ilen] using hlen
    simp only [stp] at hs
    split at hs
    · rename_i i a st0
      simp only [Option.map_eq_some_iff] at hs
      obtain ⟨v, hg, hs⟩ := hs
      simp only [Sum.inl.injEq, Prod.mk.injEq] at hs
      obtain ⟨rfl, rfl, rfl, rfl⟩ := hs
      obtain ⟨n, f, he, hi, hf⟩ := ldQ_inv hg
      obtain ⟨ha, h9⟩ := hR.arr he (by decide)
      have hcell := wsO_get (dA := dA) (b := b) (sb := sb) ha
      rw [show hp.2.2 a = f_get hp a from rfl, he] at hcell
      rw [List.map_cons, List.map_cons, show cv b sb (.ref a) = .ref (b + a) by simp [cv, cvN_b h9]]
      refine va_aldq hx hb hK hR.1 a 3 hcell rfl hi hd ?_
      rw [show va_rf ((f i.toNatClampNeg).map (cvN b sb)) = Value.ref (cvN b sb v) from by rw [hf]; rfl]
      exact kk _ (hnx rfl) ls H locs hl hR hS
    · cases hs
  | iaload =>
    simp only [tr, Option.some.injEq] at ht
    subst ht
    obtain rfl : len = 1 := by simpa [isSw, ilen] using hlen
    simp only [stp] at hs
    split at hs
    · rename_i i a st0
      simp only [Option.map_eq_some_iff] at hs
      obtain ⟨v, hg, hs⟩ := hs
      simp only [Sum.inl.injEq, Prod.mk.injEq] at hs
      obtain ⟨rfl, rfl, rfl, rfl⟩ := hs
      obtain ⟨k, n, f, he, hk, hi, hf⟩ := ldI_inv hg
      rcases hk with rfl | rfl
      · obtain ⟨ha, h9⟩ := hR.arr he (by decide)
        have hcell := wsO_get (dA := dA) (b := b) (sb := sb) ha
        rw [show hp.2.2 a = f_get hp a from rfl, he] at hcell
        rw [List.map_cons, List.map_cons, show cv b sb (.ref a) = .ref (b + a) by simp [cv, cvN_b h9]]
        refine va_iald hx hb hK hR.1 a 0 hcell rfl hi hd ?_
        rw [hf]
        exact kk _ (hnx rfl) ls H locs hl hR hS
      · have h9 := hR.scr he
        subst h9
        obtain ⟨scr, x1, x2, x3, x4, x5⟩ := hR.2.1 n f he
        have hlt : i.toNatClampNeg < n := Nat.not_le.mp fun q => hi (Or.inr q)
        rw [List.map_cons, List.map_cons, show cv b sb (.ref SL) = .ref sb by simp [cv, cvN_s]]
        refine W.iald (v := .int (f i.toNatClampNeg)) hx hb x1 x2 x3 (by rw [x4]; exact hi) (x5 _ hlt) rfl rfl hd ?_
        rw [hf]
        exact kk _ (hnx rfl) ls H locs hl hR hS
    · cases hs
  | arraylength =>
    simp only [tr, Option.some.injEq] at ht
    subst ht
    obtain rfl : len = 1 := by simpa [isSw, ilen] using hlen
    simp only [stp] at hs
    split at hs
    · rename_i a st0
      simp only [Option.map_eq_some_iff] at hs
      obtain ⟨v, hg, hs⟩ := hs
      simp only [Sum.inl.injEq, Prod.mk.injEq] at hs
      obtain ⟨rfl, rfl, rfl, rfl⟩ := hs
      unfold lenA at hg
      split at hg
      · rename_i n f he
        cases hg
        have h10 := hR.scr he
        subst h10
        obtain ⟨scr, x1, x2, x3, x4, x5⟩ := hR.2.1 n f he
        rw [List.map_cons, show cv b sb (.ref SL) = .ref sb by simp [cv, cvN_s]]
        exact W.alen (n := Int32.ofNat n) hx hb x1 x2 (by rw [x4] <;> rfl) rfl rfl hd (kk _ (hnx rfl) ls H locs hl hR hS)
      · cases hg
    · cases hs
  | iastore =>
    simp only [tr, Option.some.injEq] at ht
    subst ht
    obtain rfl : len = 1 := by simpa [isSw, ilen] using hlen
    simp only [stp] at hs
    split at hs
    · rename_i x i a st0
      simp only [Option.map_eq_some_iff] at hs
      obtain ⟨v, hg, hs⟩ := hs
      simp only [Sum.inl.injEq, Prod.mk.injEq] at hs
      obtain ⟨rfl, rfl, rfl, rfl⟩ := hs
      obtain ⟨n, f, he, hi, rfl⟩ := stI_inv hg
      obtain ⟨ha, h9⟩ := hR.arr he (by decide)
      have hcell := wsO_get (dA := dA) (b := b) (sb := sb) ha
      rw [show hp.2.2 a = f_get hp a from rfl, he] at hcell
      rw [List.map_cons, List.map_cons, List.map_cons, show cv b sb (.ref a) = .ref (b + a) by simp [cv, cvN_b h9]]
      refine va_iast hx hb hK hR.1 wsO_D hS a 0 hcell rfl hi hd (fun H1 locs1 q1 q2 q3 => ?_)
      have e3 := wsO_set (dA := dA) (b := b) (sb := sb) (hp := hp) (k := a) (.inl (0, n, .inl (upd f i.toNatClampNeg x)))
      have q1' : va_P (dC, dI) vwCl ((wsO dA b sb hp).set a (b + a, cvE dA b sb (.inl (0, n, .inl (upd f i.toNatClampNeg x))))) H1 := q1
      rw [e3] at q1'
      exact kk _ (hnx rfl) ls H1 locs1 hl (hR.put ha (fun n x h => by cases h) (scr_kept hz hsb hS q3) q1') q3
    · cases hs
  | lastore =>
    simp only [tr, Option.some.injEq] at ht
    subst ht
    obtain rfl : len = 1 := by simpa [isSw, ilen] using hlen
    simp only [stp] at hs
    split at hs
    · rename_i x i a st0
      simp only [Option.map_eq_some_iff] at hs
      obtain ⟨v, hg, hs⟩ := hs
      simp only [Sum.inl.injEq, Prod.mk.injEq] at hs
      obtain ⟨rfl, rfl, rfl, rfl⟩ := hs
      obtain ⟨n, f, he, hi, rfl⟩ := stL_inv hg
      obtain ⟨ha, h9⟩ := hR.arr he (by decide)
      have hcell := wsO_get (dA := dA) (b := b) (sb := sb) ha
      rw [show hp.2.2 a = f_get hp a from rfl, he] at hcell
      rw [List.map_cons, List.map_cons, List.map_cons, show cv b sb (.ref a) = .ref (b + a) by simp [cv, cvN_b h9]]
      refine va_last hx hb hK hR.1 wsO_D hS a 1 hcell rfl hi hd (fun H1 locs1 q1 q2 q3 => ?_)
      have e3 := wsO_set (dA := dA) (b := b) (sb := sb) (hp := hp) (k := a) (.inl (1, n, .inr (.inl (vp_updL f i.toNatClampNeg x))))
      have q1' : va_P (dC, dI) vwCl ((wsO dA b sb hp).set a (b + a, cvE dA b sb (.inl (1, n, .inr (.inl (vp_updL f i.toNatClampNeg x)))))) H1 := q1
      rw [e3] at q1'
      exact kk _ (hnx rfl) ls H1 locs1 hl (hR.put ha (fun n x h => by cases h) (scr_kept hz hsb hS q3) q1') q3
    · cases hs
  | bastore =>
    simp only [tr, Option.some.injEq] at ht
    subst ht
    obtain rfl : len = 1 := by simpa [isSw, ilen] using hlen
    simp only [stp] at hs
    split at hs
    · rename_i x i a st0
      simp only [Option.map_eq_some_iff] at hs
      obtain ⟨v, hg, hs⟩ := hs
      simp only [Sum.inl.injEq, Prod.mk.injEq] at hs
      obtain ⟨rfl, rfl, rfl, rfl⟩ := hs
      obtain ⟨n, f, he, hi, hx01, rfl⟩ := stZ_inv hg
      obtain ⟨ha, h9⟩ := hR.arr he (by decide)
      have hcell := wsO_get (dA := dA) (b := b) (sb := sb) ha
      rw [show hp.2.2 a = f_get hp a from rfl, he] at hcell
      rw [List.map_cons, List.map_cons, List.map_cons, show cv b sb (.ref a) = .ref (b + a) by simp [cv, cvN_b h9]]
      have hnar : vp_nar .boolean x = x := by rcases hx01 with rfl | rfl <;> decide +kernel
      refine va_zast hx hb hK hR.1 wsO_D hS a 2 hcell rfl hi hd (fun H1 locs1 q1 q2 q3 => ?_)
      rw [hnar] at q1
      have e3 := wsO_set (dA := dA) (b := b) (sb := sb) (hp := hp) (k := a) (.inl (2, n, .inl (upd f i.toNatClampNeg x)))
      have q1' : va_P (dC, dI) vwCl ((wsO dA b sb hp).set a (b + a, cvE dA b sb (.inl (2, n, .inl (upd f i.toNatClampNeg x))))) H1 := q1
      rw [e3] at q1'
      exact kk _ (hnx rfl) ls H1 locs1 hl (hR.put ha (fun n x h => by cases h) (scr_kept hz hsb hS q3) q1') q3
    · cases hs
  | aastore =>
    simp only [tr, Option.some.injEq] at ht
    subst ht
    obtain rfl : len = 1 := by simpa [isSw, ilen] using hlen
    simp only [stp] at hs
    split at hs
    · rename_i x i a st0
      split at hs
      · rename_i hO
        simp only [Option.map_eq_some_iff] at hs
        obtain ⟨v, hg, hs⟩ := hs
        simp only [Sum.inl.injEq, Prod.mk.injEq] at hs
        obtain ⟨rfl, rfl, rfl, rfl⟩ := hs
        obtain ⟨n, f, he, hi, rfl⟩ := stQ_inv hg
        obtain ⟨ha, h9⟩ := hR.arr he (by decide)
        obtain ⟨fs, hO⟩ := isO_inv hO
        obtain ⟨hxa, hx9⟩ := hR.obj hO (by decide)
        have hcell := wsO_get (dA := dA) (b := b) (sb := sb) ha
        rw [show hp.2.2 a = f_get hp a from rfl, he] at hcell
        have hcx := wsO_get (dA := dA) (b := b) (sb := sb) hxa
        rw [show hp.2.2 x = f_get hp x from rfl, hO] at hcx
        rw [List.map_cons, List.map_cons, List.map_cons, show cv b sb (.ref a) = .ref (b + a) by simp [cv, cvN_b h9], show cv b sb (.ref x) = .ref (b + x) by simp [cv, cvN_b hx9]]
        refine va_astq hx hb hK hR.1 wsO_D hS a 3 x 2 (r := (RX2, TX2, 3)) hcell rfl hcx rfl hi hd (fun H1 locs1 q1 q2 q3 => ?_)
        have e3 := wsO_set (dA := dA) (b := b) (sb := sb) (hp := hp) (k := a) (.inl (3, n, .inr (.inr (.inr (.inr (va_up f i.toNatClampNeg (some x)))))))
        have e4 : (fun j => (va_up f i.toNatClampNeg (some x) j).map (cvN b sb)) = va_up (fun j => (f j).map (cvN b sb)) i.toNatClampNeg (some (b + x)) := by
          funext j
          by_cases hj : j = i.toNatClampNeg <;> simp [va_up, hj, cvN_b hx9]
        simp only [cvE, cvA, e4] at e3
        rw [e3] at q1
        exact kk _ (hnx rfl) ls H1 locs1 hl (hR.put ha (fun n x h => by cases h) (scr_kept hz hsb hS q3) q1) q3
      · cases hs
    · cases hs
  | new x =>
    simp only [tr, Option.map_eq_some_iff] at ht
    obtain ⟨n, hn, rfl⟩ := ht
    obtain rfl : len = 3 := by simpa [isSw, ilen] using hlen
    obtain ⟨C, T, N, hv, w1, w2, w3⟩ := new_ok hn
    obtain ⟨hin, hty, hnm, h7⟩ := cls_ok hv
    simp only [stp, Option.map_eq_some_iff] at hs
    obtain ⟨e2, hg, hs⟩ := hs
    simp only [Sum.inl.injEq, Prod.mk.injEq] at hs
    obtain ⟨rfl, rfl, rfl, rfl⟩ := hs
    have e0 : (f_new hp e2.1 e2.2).1 = hp.1 + 1 := rfl
    have e1 : (f_new hp e2.1 e2.2).2.1 = hp.2.1 + e2.1 := rfl
    have hKn := hK.1 n _ hv
    obtain ⟨N2, e3⟩ := e2
    have hfs : N2 = N ∧ ∃ fs, e3 = .inr (n, fs) ∧ ∀ j, j < N → defaultValue (tyL n j) = vp_V (fs.map (cv b sb)) j := new_def hv hg
    obtain ⟨rfl, fs, rfl, hdef⟩ := hfs
    refine W.sz (fun hu => ?_)
    have hsz := RH.size hR hS hz hn0 hu
    refine W.newcK hx hb hown (hts _ w1) (hts _ w2) (hts _ w3) rfl hd (by rw [e0] at hRc; omega) (by rw [e1] at hRs; omega) hKn.2.1 hsz fun H1 kC hkC q1 z1 o1 => ?_
    have hS1 : va_S (fun q => b ≤ q) s.heap H1 locs := ⟨by omega, fun q h1 h2 => (o1 q (by have := hS.1; omega)).trans (hS.2.1 q h1 h2), hS.2.2⟩
    have hP1 : va_P (dC, dI) vwCl (wsO dA b sb (f_new hp N2 (.inr (n, fs)))) H1 := by
      rw [wsO_new]
      refine va_P.app (hR.1.kept (fun k q hq => ?_)) (fun k q hq => ?_)
      · obtain ⟨hk, rfl⟩ := wsO_at hq
        exact o1 _ (by dsimp only; omega)
      · have hz1 : k < 1 := (List.getElem?_eq_some_iff.mp hq).1
        rw [show k = 0 by omega] at hq
        cases hq
        exact ⟨_, hv, (u_born (tyL n) hts hin hKn hkC q1 hty).to hdef⟩
    have hk2 := kk _ (hnx rfl) ls H1 locs hl (hR.new (by omega) (fun n x h => by cases h) (scr_kept hz hsb hS hS1) hP1) hS1
    rw [e0, e1, List.map_cons, show cv b sb (.ref hp.1) = .ref (b + hp.1) by simp [cv, cvN_b (show hp.1 ≠ SL by omega)], show hp.1 + 1 - n0 = hp.1 - n0 + 1 by omega, show hp.2.1 + N2 - s0 = hp.2.1 - s0 + N2 by omega] at hk2
    exact hk2
  | newarray t =>
    simp only [tr, Option.some.injEq] at ht
    subst ht
    obtain rfl : len = 2 := by simpa [isSw, ilen] using hlen
    simp only [stp] at hs
    split at hs
    · rename_i n st0
      simp only [Option.map_eq_some_iff] at hs
      obtain ⟨e2, hg, hs⟩ := hs
      simp only [Sum.inl.injEq, Prod.mk.injEq] at hs
      obtain ⟨rfl, rfl, rfl, rfl⟩ := hs
      have e0 : (f_new hp n.toNatClampNeg e2).1 = hp.1 + 1 := rfl
      have e1 : (f_new hp n.toNatClampNeg e2).2.1 = hp.2.1 + n.toNatClampNeg := rfl
      obtain ⟨hn, hN, k, ty, a0, rfl, hty, hw, hk9, hcell, htb, hbytes, hcv⟩ := newA_inv (b := b) (sb := sb) hg
      refine W.sz (fun hu => ?_)
      have hsz := RH.size hR hS hz hn0 hu
      refine va_newaK hx hb (hts _ hw) rfl hd rfl hn rfl (by rw [hty]; exact hbytes) (by rw [e0] at hRc; omega) (by rw [e1] at hRs; omega) hsz fun H1 cA q1 z1 o1 hAr hNm => ?_
      have hcA : cA = dA k := by
        obtain ⟨g1, g2⟩ := hK.2 k (dA k, ty) (htb dA)
        rw [hty] at hNm
        have g3 : s.vm.findClass ("[" ++ ty.toString) = some (dA k) := by
          rcases hk9 with ⟨rfl, rfl⟩ | ⟨rfl, rfl⟩ | ⟨rfl, rfl⟩ <;> exact g2
        exact Option.some.inj (hNm.symm.trans g3)
      subst hcA
      have hS1 : va_S (fun q => b ≤ q) s.heap H1 locs := ⟨by have := hS.1; omega, fun q h1 h2 => (o1 q (by have := hS.1; omega)).trans (hS.2.1 q h1 h2), hS.2.2⟩
      have hP1 : va_P (dC, dI) vwCl (wsO dA b sb (f_new hp n.toNatClampNeg (.inl (k, a0)))) H1 := by
        rw [wsO_new]
        refine va_P.app (hR.1.kept (fun k q hq => ?_)) (fun k2 q hq => ?_)
        · obtain ⟨hk, rfl⟩ := wsO_at hq
          exact o1 _ (by dsimp only; omega)
        · have hz1 : k2 < 1 := (List.getElem?_eq_some_iff.mp hq).1
          rw [show k2 = 0 by omega] at hq
          cases hq
          show H1[b + hp.1]? = some (vp_cell (dA k) (cvA b sb a0))
          rw [hcv, hcell (dA k), q1, hty]
      have hk2 := kk _ (hnx rfl) ls H1 locs hl (hR.new (by omega) (fun n x h => by cases h; rcases hk9 with ⟨q, -⟩ | ⟨q, -⟩ | ⟨q, -⟩ <;> cases q) (scr_kept hz hsb hS hS1) hP1) hS1
      rw [e0, e1, List.map_cons, show cv b sb (.ref hp.1) = .ref (b + hp.1) by simp [cv, cvN_b (show hp.1 ≠ SL by omega)], show hp.1 + 1 - n0 = hp.1 - n0 + 1 by omega, show hp.2.1 + n.toNatClampNeg - s0 = hp.2.1 - s0 + n.toNatClampNeg by omega] at hk2
      exact hk2
    · cases hs
  | anewarray x =>
    simp only [tr, Option.bind_eq_some_iff] at ht
    obtain ⟨n2, hn2, ht⟩ := ht
    split at ht
    · rename_i h2; subst h2
      cases ht
      obtain rfl : len = 3 := by simpa [isSw, ilen] using hlen
      obtain ⟨C, T, N, hv, w1, w2, w3⟩ := new_ok hn2
      cases hv
      simp only [stp] at hs
      split at hs
      · rename_i n st0
        split at hs
        · cases hs
        · rename_i hn
          simp only [Option.some.injEq, Sum.inl.injEq, Prod.mk.injEq] at hs
          obtain ⟨rfl, rfl, rfl, rfl⟩ := hs
          have e0 : (f_new hp n.toNatClampNeg (.inl (3, n.toNatClampNeg, .inr (.inr (.inr (.inr (fun _ => none))))))).1 = hp.1 + 1 := rfl
          have e1 : (f_new hp n.toNatClampNeg (.inl (3, n.toNatClampNeg, .inr (.inr (.inr (.inr (fun _ => none))))))).2.1 = hp.2.1 + n.toNatClampNeg := rfl
          refine W.sz (fun hu => ?_)
          have hsz := RH.size hR hS hz hn0 hu
          refine W.anew hx hb hown (hts _ w1) (va_AO.use hAO) rfl hd rfl (fun q => hn (Or.inl q)) (by omega) (by rw [e0] at hRc; omega) (by rw [e1] at hRs; omega) fun cA kA comp f1 f2 f3 f4 => ?_
          have hcA : cA = dA 3 := by
            obtain ⟨g1, kA2, comp2, g2, g3, g4, g5⟩ := hK.2 3 (dA 3, .object RX2) rfl
            exact Option.some.inj (f1.symm.trans g5)
          subst hcA
          rw [hsz]
          generalize hH1 : H.push ({ cls := dA 3, slots := Array.replicate n.toNatClampNeg .null, vm := .none } : Cell) = H1
          have z1 : H1.size = H.size + 1 := by rw [← hH1, Array.size_push]
          have q1 : H1[b + hp.1]? = some (arrV (dA 3) n.toNatClampNeg (fun _ => .null)) := by rw [← hsz, ← hH1, Array.getElem?_push_size, ← arrV_new]
          have o1 : ∀ q : Nat, q < H.size → H1[q]? = H[q]? := fun q hq => by rw [← hH1, Array.getElem?_push, if_neg (Nat.ne_of_lt hq)]
          have hS1 : va_S (fun q => b ≤ q) s.heap H1 locs := ⟨by have := hS.1; omega, fun q h1 h2 => (o1 q (by have := hS.1; omega)).trans (hS.2.1 q h1 h2), hS.2.2⟩
          have hP1 : va_P (dC, dI) vwCl (wsO dA b sb (f_new hp n.toNatClampNeg (.inl (3, n.toNatClampNeg, .inr (.inr (.inr (.inr (fun _ => none)))))))) H1 := by
            rw [wsO_new]
            refine va_P.app (hR.1.kept (fun k q hq => ?_)) (fun k2 q hq => ?_)
            · obtain ⟨hk, rfl⟩ := wsO_at hq
              exact o1 _ (by dsimp only; omega)
            · have hz1 : k2 < 1 := (List.getElem?_eq_some_iff.mp hq).1
              rw [show k2 = 0 by omega] at hq
              cases hq
              exact q1
          have hk2 := kk _ (hnx rfl) ls H1 locs hl (hR.new (by omega) (fun n x h => by cases h) (scr_kept hz hsb hS hS1) hP1) hS1
          rw [e0, e1, List.map_cons, show cv b sb (.ref hp.1) = .ref (b + hp.1) by simp [cv, cvN_b (show hp.1 ≠ SL by omega)], show hp.1 + 1 - n0 = hp.1 - n0 + 1 by omega, show hp.2.1 + n.toNatClampNeg - s0 = hp.2.1 - s0 + n.toNatClampNeg by omega] at hk2
          exact hk2
      · cases hs
    · cases ht
  | invokespecial x =>
    simp only [tr, Option.bind_eq_some_iff] at ht
    obtain ⟨q, hq, ht⟩ := ht
    split at ht
    · cases ht; simp only [stp] at hs; split at hs <;> cases hs
    · split at ht
      · rename_i h5
        cases ht
        obtain rfl : len = 3 := by simpa [isSw, ilen] using hlen
        have hw := mt_all _ (lk_mem hq)
        obtain ⟨k, na, kd⟩ := q
        dsimp only at h5
        subst h5
        simp only [stp] at hs
        split at hs
        · rename_i a st0
          split at hs
          · rename_i hl4
            simp only [Option.some.injEq, Sum.inl.injEq, Prod.mk.injEq] at hs
            obtain ⟨rfl, rfl, rfl, rfl⟩ := hs
            have hrm2 : 1 ≤ rkT.getD mid 0 ∧ 20 ≤ lrT.getD mid 0 := by simpa [cRm] using hrm
            refine W.objInit hx hb hown (hts _ hw) (hts _ ob_1) (hts _ ob_2) rfl (by rw [hml]; exact hl.2.1) rfl hd (by omega) ?_ (kk _ (hnx rfl) ls H locs hl hR hS)
            have hsum := cat_sum b sb st0
            show 2 * 0 + _ + 12 ≤ R.locals
            omega
          · cases hs
        · cases hs
      · cases ht
  | invokevirtual x =>
    simp only [tr, Option.bind_eq_some_iff] at ht
    obtain ⟨q, hq, ht⟩ := ht
    split at ht
    · cases ht; simp only [stp] at hs; split at hs <;> cases hs
    · cases ht
  | invokestatic x =>
    simp only [tr, Option.bind_eq_some_iff] at ht
    obtain ⟨q, hq, ht⟩ := ht
    split at ht
    · cases ht; simp only [stp] at hs; split at hs <;> cases hs
    · split at ht
      · rename_i h6
        cases ht
        obtain rfl : len = 3 := by simpa [isSw, ilen] using hlen
        have hw := mt_all _ (lk_mem hq)
        obtain ⟨k, na, kd⟩ := q
        dsimp only at h6
        subst h6
        simp only [stp] at hs
        split at hs
        · rename_i st0
          split at hs
          · rename_i hl4
            simp only [Option.some.injEq, Sum.inl.injEq, Prod.mk.injEq] at hs
            obtain ⟨rfl, rfl, rfl, rfl⟩ := hs
            have hrm2 : 1 ≤ rkT.getD mid 0 ∧ 20 ≤ lrT.getD mid 0 := by simpa [cRm] using hrm
            have hsum := cat_sum b sb st0
            exact va_mabs hx hb (by rw [hml]; exact hl.2.1.symm) hown (hts _ hw.1) (hts _ hw.2.1) (hts _ mw_0) (hts _ hw.2.2) (by omega) (by omega) hRc hRs hd (kk _ (hnx rfl) ls H locs hl hR hS)
          · cases hs
        · cases hs
      · split at ht
        · rename_i h7
          cases ht
          obtain rfl : len = 3 := by simpa [isSw, ilen] using hlen
          have hw := mt_all _ (lk_mem hq)
          obtain ⟨k, na, kd⟩ := q
          dsimp only at h7
          subst h7
          simp only [stp] at hs
          split at hs
          · rename_i st0
            split at hs
            · rename_i hl4
              simp only [Option.some.injEq, Sum.inl.injEq, Prod.mk.injEq] at hs
              obtain ⟨rfl, rfl, rfl, rfl⟩ := hs
              have hrm2 : 1 ≤ rkT.getD mid 0 ∧ 20 ≤ lrT.getD mid 0 := by simpa [cRm] using hrm
              have hsum := cat_sum b sb st0
              exact va_mmax hx hb (by rw [hml]; exact hl.2.1.symm) hown (hts _ hw.1) (hts _ hw.2.1) (hts _ mw_0) (hts _ hw.2.2) (by omega) (by omega) hRc hRs hd (kk _ (hnx rfl) ls H locs hl hR hS)
            · cases hs
          · cases hs
        · split at ht
          · rename_i h8
            cases ht
            obtain rfl : len = 3 := by simpa [isSw, ilen] using hlen
            have hw := mt_all _ (lk_mem hq)
            obtain ⟨k, na, kd⟩ := q
            dsimp only at h8
            subst h8
            simp only [stp] at hs
            split at hs
            · rename_i st0
              split at hs
              · rename_i hl4
                simp only [Option.some.injEq, Sum.inl.injEq, Prod.mk.injEq] at hs
                obtain ⟨rfl, rfl, rfl, rfl⟩ := hs
                have hrm2 : 1 ≤ rkT.getD mid 0 ∧ 20 ≤ lrT.getD mid 0 := by simpa [cRm] using hrm
                have hsum := cat_sum b sb st0
                exact va_mmin hx hb (by rw [hml]; exact hl.2.1.symm) hown (hts _ hw.1) (hts _ hw.2.1) (hts _ mw_0) (hts _ hw.2.2) (by omega) (by omega) hRc hRs hd (kk _ (hnx rfl) ls H locs hl hR hS)
              · cases hs
            · cases hs
          · cases ht
  | ireturn =>
    simp only [tr, Option.some.injEq] at ht
    subst ht
    split at hs
    · simp only [stp] at hs
      split at hs
      · split at hs <;> cases hs
      · cases hs
    · simp only [stp] at hs
      split at hs <;> cases hs
  | lreturn =>
    simp only [tr, Option.some.injEq] at ht
    subst ht
    simp only [stp] at hs
    split at hs <;> cases hs
  | return_ =>
    simp only [tr, Option.some.injEq] at ht
    subst ht
    simp only [stp] at hs
    split at hs <;> cases hs
  | _ => simp [tr] at ht
end SND
end
section
/-! Calls, returns, and the whole of a run. -/
theorem NW.same {u U : State} (h : u.vm = U.vm) (hN : NW u) : NW U := fun q hq hk => va_Nw.same rfl h (hN q hq hk)
theorem NW.warm {s U : State} (hW : s.WarmedH U.vm) (hN : NW s) : NW U := fun q hq hk => va_Nw.warmM hW (hN q hq hk)
theorem lvA_ent {b sb : Nat} : ∀ (as : List Value) (j m : Nat) (q : Nat × Value), q ∈ lvA b sb j (entL as ++ List.replicate m jk) → q ∈ lv_args j (as.map (cv b sb))
  | [], j, m, q, h => by
    exfalso
    obtain ⟨i, v, h1, h2, -⟩ := lvA_inv _ _ _ h
    simp only [entL, List.nil_append, List.getElem?_replicate] at h1
    split at h1
    · cases h1; simp [isJk, jk] at h2
    · cases h1
  | v :: t, j, m, q, h => by
    rw [List.map_cons, lv_args]
    rw [entL] at h
    by_cases hv : isL v = true
    · have hc : (cv b sb v).category = 2 := by cases v <;> simp [isL] at hv <;> rfl
      have hj : isJk v = false := by cases v <;> simp [isL] at hv <;> rfl
      rw [if_pos hv] at h
      simp only [List.cons_append, lvA, hj, Bool.false_eq_true, if_false] at h
      rw [if_pos (show isJk jk = true from rfl)] at h
      rw [if_pos hc]
      rcases List.mem_cons.mp h with h | h
      · exact List.mem_cons.mpr (Or.inl h)
      · exact List.mem_cons.mpr (Or.inr (lvA_ent t (j + 2) m q h))
    · have hc : ¬ (cv b sb v).category = 2 := fun q => hv (cv_cat b sb v q)
      rw [if_neg hv] at h
      simp only [List.cons_append, lvA] at h
      rw [if_neg hc]
      split at h
      · exact List.mem_cons.mpr (Or.inr (lvA_ent t (j + 1) m q h))
      · rcases List.mem_cons.mp h with h | h
        · exact List.mem_cons.mpr (Or.inl h)
        · exact List.mem_cons.mpr (Or.inr (lvA_ent t (j + 1) m q h))
theorem entL_len (b sb : Nat) : ∀ as : List Value, (lg_sl (as.map (cv b sb))).length = (entL as).length
  | [] => rfl
  | v :: t => by
    have h := entL_len b sb t
    simp only [lg_sl] at h
    by_cases hv : isL v = true
    · have hc : (cv b sb v).category = 2 := by cases v <;> simp [isL] at hv <;> rfl
      simp only [List.map_cons, lg_sl, List.flatMap_cons, entL, if_pos hv, if_pos hc, List.length_append, List.length_cons, List.length_nil, h]
      omega
    · have hc : ¬ (cv b sb v).category = 2 := fun q => hv (cv_cat b sb v q)
      simp only [List.map_cons, lg_sl, List.flatMap_cons, entL, if_neg hv, if_neg hc, List.length_append, List.length_cons, List.length_nil, h]
      omega
theorem stp_call {mid : Nat} {ins : Instr} {is : List Instr} {lv st : List Value} {hp : fH} {k : Nat} {as rest : List Value} (h : stp mid ins is lv st hp = some (.inr (.inl (k, as, rest)))) : ∃ n, ins = .invokeinterface k n ∧ n ≤ st.length ∧ rest.length ≤ 4 ∧ as = (st.take n).reverse ∧ rest = st.drop n := by
  cases ins with
  | invokeinterface k2 n =>
    simp only [stp] at h
    split at h
    · rename_i hc
      cases h
      exact ⟨n, rfl, hc.1, hc.2, rfl, rfl⟩
    · cases h
  | _ => exfalso; simp only [stp] at h; (repeat' split at h) <;> first | (cases h; done) | (simp at h; done)
/-- how a method ends -/
def RetOK (mid pc : Nat) (v : Option Value) : Prop := match rtT.getD mid 9 with
  | 0 => decode (cM mid) pc = .ok (.return_, 1) ∧ v = none
  | 1 => decode (cM mid) pc = .ok (.ireturn, 1) ∧ ∃ x, v = some (.int x)
  | 2 => decode (cM mid) pc = .ok (.ireturn, 1) ∧ (v = some (.int 0) ∨ v = some (.int 1))
  | _ => decode (cM mid) pc = .ok (.lreturn, 1) ∧ ∃ x, v = some (.long x)
theorem stp_ret {mid : Nat} {ins : Instr} {is : List Instr} {lv st : List Value} {hp : fH} {v : Option Value} (h : stp mid ins is lv st hp = some (.inr (.inr v))) : st = v.toList ∧ ((ins = .ireturn ∧ ∃ x, v = some (.int x)) ∨ (ins = .freturn ∧ (v = some (.int 0) ∨ v = some (.int 1))) ∨ (ins = .lreturn ∧ ∃ x, v = some (.long x)) ∨ (ins = .return_ ∧ v = none)) := by
  cases ins with
  | ireturn =>
    simp only [stp] at h
    split at h
    · cases h; exact ⟨rfl, Or.inl ⟨rfl, _, rfl⟩⟩
    · cases h
  | freturn =>
    simp only [stp] at h
    split at h
    · split at h
      · rename_i hx
        cases h
        refine ⟨rfl, Or.inr (Or.inl ⟨rfl, ?_⟩)⟩
        rcases hx with rfl | rfl
        · exact Or.inl rfl
        · exact Or.inr rfl
      · cases h
    · cases h
  | lreturn =>
    simp only [stp] at h
    split at h
    · cases h; exact ⟨rfl, Or.inr (Or.inr (Or.inl ⟨rfl, _, rfl⟩))⟩
    · cases h
  | return_ =>
    simp only [stp] at h
    split at h
    · cases h; exact ⟨rfl, Or.inr (Or.inr (Or.inr ⟨rfl, rfl⟩))⟩
    · cases h
  | _ => exfalso; simp only [stp] at h; (repeat' split at h) <;> first | (cases h; done) | (simp at h; done)
theorem stp_grow {mid : Nat} {ins : Instr} {is : List Instr} {lv st : List Value} {hp : fH} {is' : List Instr} {lv' st' : List Value} {hp' : fH} (h : stp mid ins is lv st hp = some (.inl (is', lv', st', hp'))) : hp.1 ≤ hp'.1 ∧ hp.2.1 ≤ hp'.2.1 := by
  cases ins <;> simp only [stp] at h <;> (repeat' split at h) <;> first
    | (cases h; done)
    | (simp only [Option.some.injEq, Sum.inl.injEq, Prod.mk.injEq] at h; obtain ⟨-, -, -, rfl⟩ := h; exact ⟨Nat.le_refl _, Nat.le_refl _⟩)
    | (simp only [Option.some.injEq, Sum.inl.injEq, Prod.mk.injEq] at h; obtain ⟨-, -, -, rfl⟩ := h; exact ⟨Nat.le_succ _, Nat.le_add_right _ _⟩)
    | (simp only [Option.map_eq_some_iff, Sum.inl.injEq, Prod.mk.injEq] at h; obtain ⟨_, -, -, -, -, rfl⟩ := h; exact ⟨Nat.le_refl _, Nat.le_refl _⟩)
    | (simp only [Option.map_eq_some_iff, Sum.inl.injEq, Prod.mk.injEq] at h; obtain ⟨_, -, -, -, -, rfl⟩ := h; exact ⟨Nat.le_succ _, Nat.le_add_right _ _⟩)
theorem run_grow : ∀ (n mid : Nat) (is : List Instr) (lv st : List Value) (hp : fH) (v : Option Value) (hp' : fH), run n mid is lv st hp = some (v, hp') → hp.1 ≤ hp'.1 ∧ hp.2.1 ≤ hp'.2.1 := by
  intro n
  induction n with
  | zero => intro mid is lv st hp v hp' h; simp [run] at h
  | succ n ih =>
    intro mid is lv st hp v hp' h
    cases is with
    | nil => simp [run] at h
    | cons ins is =>
      rw [run] at h
      split at h
      · cases h
      · rename_i is1 lv1 st1 hp1 hs
        have h1 := stp_grow hs
        have h2 := ih _ _ _ _ _ _ _ h
        exact ⟨Nat.le_trans h1.1 h2.1, Nat.le_trans h1.2 h2.2⟩
      · split at h
        · split at h
          · cases h
          · rename_i v1 hp1 he
            have h1 := ih _ _ _ _ _ _ _ he
            have h2 := ih _ _ _ _ _ _ _ h
            exact ⟨Nat.le_trans h1.1 h2.1, Nat.le_trans h1.2 h2.2⟩
        · cases h
      · cases h; exact ⟨Nat.le_refl _, Nat.le_refl _⟩
theorem ent0_all : (List.range 189).all (fun k => (pcsT.getD k []).contains 0 && decide (rtT.getD k 9 = rtT.getD k 0)) = true := by decide +kernel
theorem ent0 {k : Nat} (hk : k < 186) : 0 ∈ pcsT.getD k [] := by
  have h := List.all_eq_true.mp ent0_all k (List.mem_range.mpr (by omega))
  rw [Bool.and_eq_true] at h
  exact List.contains_iff_mem.mp h.1
theorem rt_def {k : Nat} (hk : k < 189) : rtT.getD k 9 = rtT.getD k 0 := by
  have h := List.all_eq_true.mp ent0_all k (List.mem_range.mpr hk)
  rw [Bool.and_eq_true] at h
  exact of_decide_eq_true h.2
theorem dflt_all : (List.range 189).all (fun k => decide (rkT.getD k 99 = rkT.getD k 0) && decide (mlT.getD k 99 = mlT.getD k 0) && decide (lrT.getD k 999 = lrT.getD k 0)) = true := by decide +kernel
theorem dflt {k : Nat} (hk : k < 186) : rkT.getD k 99 = rkT.getD k 0 ∧ mlT.getD k 99 = mlT.getD k 0 ∧ lrT.getD k 999 = lrT.getD k 0 := by
  have h := List.all_eq_true.mp dflt_all k (List.mem_range.mpr (by omega))
  simp only [Bool.and_eq_true, decide_eq_true_eq] at h
  exact ⟨h.1.1, h.1.2, h.2⟩
theorem cl7_all : (List.range 189).all (fun k => decide (kdT.getD k 0 = 0) || decide (clT.getD k 99 < 7)) = true := by decide +kernel
theorem cl7 {k : Nat} (hk : k < 186) (h : kdT.getD k 0 = 1) : clT.getD k 99 < 7 := by
  have h1 := List.all_eq_true.mp cl7_all k (List.mem_range.mpr (by omega))
  simp only [Bool.or_eq_true, decide_eq_true_eq] at h1
  exact h1.resolve_left (by omega)
theorem cl7' {k : Nat} (hk : k < 186) (h : kdT.getD k 0 = 2) : clT.getD k 99 < 7 := by
  have h1 := List.all_eq_true.mp cl7_all k (List.mem_range.mpr (by omega))
  simp only [Bool.or_eq_true, decide_eq_true_eq] at h1
  exact h1.resolve_left (by omega)
theorem vw_own : ∀ {ci : Nat}, ci < 7 → ∃ C T N, vwCl[ci]? = some (C, T, N) ∧ C = ownS ci
  | 0, _ => ⟨_, _, _, rfl, rfl⟩
  | 1, _ => ⟨_, _, _, rfl, rfl⟩
  | 2, _ => ⟨_, _, _, rfl, rfl⟩
  | 3, _ => ⟨_, _, _, rfl, rfl⟩
  | 4, _ => ⟨_, _, _, rfl, rfl⟩
  | 5, _ => ⟨_, _, _, rfl, rfl⟩
  | 6, _ => ⟨_, _, _, rfl, rfl⟩
  | k + 7, h => absurd h (by omega)
theorem tr_call {cn pc k na : Nat} {z : Bool} {r : Instr} (h : tr cn z pc r = some (.invokeinterface k na)) : ∃ x kd, (r = .invokestatic x ∨ r = .invokevirtual x ∨ r = .invokespecial x) ∧ lk mtL cn x = some (k, na, kd) ∧ ((r = .invokestatic x ∧ (kd = 0 ∨ kd = 3)) ∨ (r = .invokevirtual x ∧ kd = 1) ∨ (r = .invokespecial x ∧ (kd = 2 ∨ kd = 4))) := by
  cases r with
  | invokestatic x =>
    simp only [tr, Option.bind_eq_some_iff] at h
    obtain ⟨⟨k2, n2, kd⟩, h1, h2⟩ := h
    (repeat' split at h2) <;> first | (cases h2; done) | skip
    rename_i hq
    cases h2
    exact ⟨x, kd, Or.inl rfl, h1, Or.inl ⟨rfl, hq⟩⟩
  | invokevirtual x =>
    simp only [tr, Option.bind_eq_some_iff] at h
    obtain ⟨⟨k2, n2, kd⟩, h1, h2⟩ := h
    split at h2
    · rename_i hq
      cases h2
      exact ⟨x, kd, Or.inr (Or.inl rfl), h1, Or.inr (Or.inl ⟨rfl, hq⟩)⟩
    · cases h2
  | invokespecial x =>
    simp only [tr, Option.bind_eq_some_iff] at h
    obtain ⟨⟨k2, n2, kd⟩, h1, h2⟩ := h
    (repeat' split at h2) <;> first | (cases h2; done) | skip
    rename_i hq
    cases h2
    exact ⟨x, kd, Or.inr (Or.inr rfl), h1, Or.inr (Or.inr ⟨rfl, hq⟩)⟩
  | _ => simp only [tr, jmp, Option.map_eq_some_iff, Option.bind_eq_some_iff] at h <;> first | (cases h; done) | (simp at h; done) | (split at h <;> simp at h; done) | (obtain ⟨_, _, h⟩ := h; cases h; done) | (obtain ⟨_, _, h⟩ := h; split at h <;> cases h; done)
theorem ret_ok {mid pc len : Nat} {r ins : Instr} {v : Option Value} (hm : mid < 186) (hd : decode (cM mid) pc = .ok (r, len)) (ht : tr (clT.getD mid 99) (rtT.getD mid 0 == 2) pc r = some ins) (hlen : isSw r = true ∨ len = ilen r) (hcr : cRm mid ins = true)
    (h : (ins = .ireturn ∧ ∃ x, v = some (.int x)) ∨ (ins = .freturn ∧ (v = some (.int 0) ∨ v = some (.int 1))) ∨ (ins = .lreturn ∧ ∃ x, v = some (.long x)) ∨ (ins = .return_ ∧ v = none)) : RetOK mid pc v := by
  have hr : (ins = .ireturn ∨ ins = .freturn → r = .ireturn) ∧ (ins = .lreturn → r = .lreturn) ∧ (ins = .return_ → r = .return_) := by
    cases r with
    | ireturn => simp only [tr, Option.some.injEq] at ht; refine ⟨fun _ => rfl, fun q => ?_, fun q => ?_⟩ <;> (subst q; split at ht <;> cases ht)
    | lreturn => simp only [tr, Option.some.injEq] at ht; subst ht; exact ⟨fun q => (by rcases q with q | q <;> cases q), fun _ => rfl, fun q => (by cases q)⟩
    | return_ => simp only [tr, Option.some.injEq] at ht; subst ht; exact ⟨fun q => (by rcases q with q | q <;> cases q), fun q => (by cases q), fun _ => rfl⟩
    | _ =>
      refine ⟨fun q => ?_, fun q => ?_, fun q => ?_⟩
      · rcases q with rfl | rfl <;> (simp only [tr, jmp, Option.map_eq_some_iff, Option.bind_eq_some_iff] at ht <;> first | (cases ht; done) | (simp at ht; done) | (split at ht <;> simp at ht; done) | (obtain ⟨_, _, ht⟩ := ht; cases ht; done) | (obtain ⟨_, _, ht⟩ := ht; (repeat' split at ht) <;> cases ht; done))
      · subst q; (simp only [tr, jmp, Option.map_eq_some_iff, Option.bind_eq_some_iff] at ht <;> first | (cases ht; done) | (simp at ht; done) | (split at ht <;> simp at ht; done) | (obtain ⟨_, _, ht⟩ := ht; cases ht; done) | (obtain ⟨_, _, ht⟩ := ht; (repeat' split at ht) <;> cases ht; done))
      · subst q; (simp only [tr, jmp, Option.map_eq_some_iff, Option.bind_eq_some_iff] at ht <;> first | (cases ht; done) | (simp at ht; done) | (split at ht <;> simp at ht; done) | (obtain ⟨_, _, ht⟩ := ht; cases ht; done) | (obtain ⟨_, _, ht⟩ := ht; (repeat' split at ht) <;> cases ht; done))
  unfold RetOK
  rcases h with ⟨rfl, hv⟩ | ⟨rfl, hv⟩ | ⟨rfl, hv⟩ | ⟨rfl, hv⟩
  · have h1 : rtT.getD mid 9 = 1 := by simpa [cRm] using hcr
    rw [h1]
    obtain rfl := hr.1 (Or.inl rfl)
    obtain rfl : len = 1 := by simpa [isSw, ilen] using hlen
    exact ⟨hd, hv⟩
  · have h1 : rtT.getD mid 9 = 2 := by simpa [cRm] using hcr
    rw [h1]
    obtain rfl := hr.1 (Or.inr rfl)
    obtain rfl : len = 1 := by simpa [isSw, ilen] using hlen
    exact ⟨hd, hv⟩
  · have h1 : rtT.getD mid 9 = 3 := by simpa [cRm] using hcr
    rw [h1]
    obtain rfl := hr.2.1 rfl
    obtain rfl : len = 1 := by simpa [isSw, ilen] using hlen
    exact ⟨hd, hv⟩
  · have h1 : rtT.getD mid 9 = 0 := by simpa [cRm] using hcr
    rw [h1]
    obtain rfl := hr.2.2 rfl
    obtain rfl : len = 1 := by simpa [isSw, ilen] using hlen
    exact ⟨hd, hv⟩
section CALL
variable {p : Program} {l : Launch} {e : Env} {R : Room} {s : State} {m : MethodId} {args : Array Value} {below : List Frame} {meth : Method} {c : Code} {Qw : State → Prop} {dC : Nat → ClassId} {dI : Nat → Nat → Nat} {dA : Nat → ClassId} {b sb n0 s0 mid : Nat}
theorem call_go {H : Heap} {locs : List Loc} {cells slots mc ms pc : Nat} {ls : Array Slot} {st0 rest : List Value} {Qa : State → Outcome → State → Prop} {free : Addr → Prop} (hr : va_Run p l e R s m args below meth c H locs cells slots mc ms (F0 m pc ls st0) rest Qa free)
    (kk : ∀ (v : Option Value) (st1 t T1 : State) (L : List Loc), st1.heap = H → T1.heap = t.heap → T1.vm = t.vm → s.WarmedH T1.vm → (∀ q ∈ L, free q.base) → Qa st1 (.returned v) t → W p l e R s m args below meth c t.heap (locs ++ L) (cells + mc) (slots + ms) Qw (F0 m (pc + 3) ls (v.toList ++ rest))) : W p l e R s m args below meth c H locs cells slots Qw (F0 m pc ls st0) := by
  intro T hT X
  obtain ⟨v, st1, t, T1, L, h0, X1, hL, e1, e2, hq, st⟩ := hr T hT X
  obtain ⟨t2, a1, b1⟩ := kk v st1 t T1 L h0 e1 e2 X1.warmed hL hq T1 e1 X1
  exact ⟨t2, st t2 a1, b1⟩
/-- a method's words: its code first -/
def mWs (k : Nat) : List Cond := Cond.code (yM k) (cM k) (mlT.getD k 0) (rtF k) :: AW
/-- a method's start and end in the small machine's words -/
def mPc (dC : Nat → ClassId) (dI : Nat → Nat → Nat) (dA : Nat → ClassId) (b sb : Nat) (as : List Value) (hp : fH) : Array Value → State → Prop := fun a U => a = (as.map (cv b sb)).toArray ∧ RH dC dI dA b sb U hp U.heap ∧ va_K (dC, dI) vwCl (tysO dA) U ∧ NW U ∧ va_AO RX2 U ∧ U.heap.size = b + hp.1
def mQc (dC : Nat → ClassId) (dI : Nat → Nat → Nat) (dA : Nat → ClassId) (b sb : Nat) (v : Option Value) (hp : fH) : Array Value → State → Outcome → State → Prop := fun _ st o t => o = .returned (v.map (cv b sb)) ∧ RH dC dI dA b sb t hp t.heap ∧ va_F (fun q => b ≤ q) st t
/-- what is to be shown of a run: from any frame of the method that stands so, the real machine comes to where hend says -/
def Snd (l : Launch) (dC : Nat → ClassId) (dI : Nat → Nat → Nat) (dA : Nat → ClassId) (b sb mid : Nat) (is : List Instr) (lv st : List Value) (hp : fH) (v : Option Value) (hp' : fH) : Prop :=
  ∀ {p : Program} {e : Env} {R : Room} {s : State} {m : MethodId} {args : Array Value} {below : List Frame} {meth : Method} {c : Code} {Qw : State → Prop} {n0 s0 : Nat}, Cx p R s m args meth c dC dI dA b sb n0 mid → n0 ≤ hp.1 → s0 ≤ hp.2.1 → hp'.1 - n0 ≤ R.cells → hp'.2.1 - s0 ≤ R.slots →
    (∀ (pc : Nat) (ls : Array Slot) (H : Heap) (locs : List Loc), RetOK mid pc v → RH dC dI dA b sb s hp' H → va_S (fun q => b ≤ q) s.heap H locs → W p l e R s m args below meth c H locs (hp'.1 - n0) (hp'.2.1 - s0) Qw (F0 m pc ls (v.toList.map (cv b sb)))) →
    ∀ pc, chkB mid pc is = true → Wk p l e R s m args below meth c Qw dC dI dA b sb n0 s0 mid pc lv st hp
theorem met_of {k : Nat} (hk : k < 186) (hk2 : k ≠ 184) (hsb : sb < b) {as : List Value} {hp hp1 : fH} {v : Option Value} (hen : (entL as).length ≤ mlT.getD k 0) (ih : Snd l dC dI dA b sb k (blk k 0) (ent k as) [] hp v hp1) :
    Met l (yM k) (mWs k) ({ frames := rkT.getD k 0, cells := hp1.1 - hp.1, slots := hp1.2.1 - hp.2.1, locals := lrT.getD k 0 }) (mPc dC dI dA b sb as hp) (mQc dC dI dA b sb v hp1) (hp1.1 - hp.1) (hp1.2.1 - hp.2.1) (fun q => b ≤ q) := by
  obtain ⟨w1, w2, w3, w4, w5, w6, w7, w8⟩ := m_all hk hk2
  refine Met.ofW (cc := cM k) (maxL := mlT.getD k 0) (ret := rtF k) w3 rfl ?_
  intro p e s m args below meth c s₁ B hml hv
  obtain ⟨rfl, hR, hK, hNW, hAO, hsz⟩ := hv
  have hx := B.exec
  have hb := B.bytes
  have hr := B.returns
  have hts0 := atoms_spec (ws := mWs k) B.pre
  have hts : ∀ w ∈ AW, w.before (as.map (cv b sb)).toArray s = true := fun w hw => hts0 w (List.mem_cons_of_mem _ hw)
  have hown : s.vm.findClass (yM k).cls = some m.cls := findClass_of_methodNamed B.named
  rw [w5] at hown
  have hlocks := B.notSynchronized
  have hini : kdT.getD k 0 = 2 → meth.name = "<init>" := fun q => by
    have h1 := (name_of_methodNamed B.named B.method).1
    rw [h1]
    exact (w8 q).2.1
  have hl := lv_entry (as.map (cv b sb)) (n := mlT.getD k 0) (by rw [entL_len]; exact hen)
  rw [lg_entry_eq]
  have hLV : LV b sb (mlT.getD k 0) (ent k as) ((lg_sl (as.map (cv b sb)) ++ List.replicate (mlT.getD k 0 - (lg_sl (as.map (cv b sb))).length) Slot.unset).toArray) := by
    refine ⟨by simp only [ent, List.length_append, List.length_replicate]; omega, hl.1, hl.2.1, fun q hq => hl.2.2 q ?_⟩
    exact lvA_ent as 0 _ q hq
  have hck : chkB k 0 (blk k 0) = true := by
    have h1 := ck_all (show k < 189 by omega)
    exact List.all_eq_true.mp h1 0 (ent0 hk)
  have key := ih (p := p) (e := e) (R := (headSpec (mWs k) { frames := rkT.getD k 0, cells := hp1.1 - hp.1, slots := hp1.2.1 - hp.2.1, locals := lrT.getD k 0 }).room) (s := s) (m := m) (args := (as.map (cv b sb)).toArray) (below := below) (meth := meth) (c := c)
    (Qw := MQ below (mQc dC dI dA b sb v hp1) (as.map (cv b sb)).toArray s (hp1.1 - hp.1) (hp1.2.1 - hp.2.1) (fun q => b ≤ q)) (n0 := hp.1) (s0 := hp.2.1)
    ⟨hx, hb, hml, hown, hts, hini, hK, hNW, hAO, Nat.le_refl _, Nat.le_refl _, hsz, hsb⟩ (Nat.le_refl _) (Nat.le_refl _) (Nat.le_refl _) (Nat.le_refl _) ?_ 0 hck _ s.heap [] hLV hR va_S.rf
  · rw [Nat.sub_self, Nat.sub_self] at key
    exact key
  · intro pc ls H locs hret hR1 hS1
    have hq : ∀ t : State, t.heap = H → s.WarmedH t.vm → mQc dC dI dA b sb v hp1 (as.map (cv b sb)).toArray s (.returned (v.map (cv b sb))) t := fun t ht hW => ⟨rfl, by rw [ht]; exact hR1.moved hW.alike, hS1.F ht⟩
    unfold RetOK at hret
    unfold rtF at hr
    have hrt : rtT.getD k 9 = rtT.getD k 0 := rt_def (show k < 189 by omega)
    rw [hrt] at hret
    split at hret
    · rename_i h0
      rw [h0] at hr
      obtain ⟨hd, rfl⟩ := hret
      exact W.vret hx hb hr hq hS1.2.2 hd
    · rename_i h0
      rw [h0] at hr
      obtain ⟨hd, x, rfl⟩ := hret
      exact W.iret hx hb hr hq hS1.2.2 hd
    · rename_i h0
      rw [h0] at hr
      obtain ⟨hd, rfl | rfl⟩ := hret
      · exact W.zret hx hb hr rfl hq hS1.2.2 hd
      · exact W.zret hx hb hr rfl hq hS1.2.2 hd
    · rename_i h0 h1 h2
      obtain ⟨hd, x, rfl⟩ := hret
      have hr3 : meth.sig.returnType = some .long := by
        rw [hr]
        split
        · rename_i q; exact absurd q h0
        · rename_i q; exact absurd q h1
        · rename_i q; exact absurd q h2
        · rfl
      exact W.lret hx hb hr3 hq hS1.2.2 hd
set_option maxHeartbeats 4000000 in
/-- the call's own row of the tables, and the callee's contract, give the run of the call -/
theorem call_run (hC : Cx p R s m args meth c dC dI dA b sb n0 mid) {pc x k na kd : Nat} {r : Instr} (hr : r = .invokestatic x ∨ r = .invokevirtual x ∨ r = .invokespecial x) (hd : decode (cM mid) pc = .ok (r, 3)) (hlk : lk mtL (clT.getD mid 99) x = some (k, na, kd)) (hkd : (r = .invokestatic x ∧ (kd = 0 ∨ kd = 3)) ∨ (r = .invokevirtual x ∧ kd = 1) ∨ (r = .invokespecial x ∧ (kd = 2 ∨ kd = 4))) (hrm : k < 186 ∧ k ≠ 184 ∧ rkT.getD k 0 + 1 ≤ rkT.getD mid 0 ∧ 19 + mlT.getD k 0 + lrT.getD k 0 ≤ lrT.getD mid 0)
    {as rest : List Value} {hp hp1 : fH} {v : Option Value} {ls : Array Slot} {H : Heap} {locs : List Loc} {lv : List Value} (hvo : vOK k as hp = true) (hna : as.length = naT.getD k 99) (hrest : rest.length ≤ 4) (hl : LV b sb (mlT.getD mid 0) lv ls) (hR : RH dC dI dA b sb s hp H) (hsz : H.size = b + hp.1)
    (hM : Met l (yM k) (mWs k) ({ frames := rkT.getD k 0, cells := hp1.1 - hp.1, slots := hp1.2.1 - hp.2.1, locals := lrT.getD k 0 }) (mPc dC dI dA b sb as hp) (mQc dC dI dA b sb v hp1) (hp1.1 - hp.1) (hp1.2.1 - hp.2.1) (fun q => b ≤ q)) (hc1 : hp.1 - n0 + (hp1.1 - hp.1) ≤ R.cells) (hc2 : hp.2.1 - s0 + (hp1.2.1 - hp.2.1) ≤ R.slots) :
    va_Run p l e R s m args below meth c H locs (hp.1 - n0) (hp.2.1 - s0) (hp1.1 - hp.1) (hp1.2.1 - hp.2.1) (F0 m pc ls ((as.reverse ++ rest).map (cv b sb))) (rest.map (cv b sb)) (mQc dC dI dA b sb v hp1 (as.map (cv b sb)).toArray) (fun q => b ≤ q) := by
  obtain ⟨hx, hb, hml, hown, hts, hini, hK, hNW, hAO, hrk, hlr, hz, hsb⟩ := hC
  obtain ⟨hk, hk2, hfr, hlo⟩ := hrm
  obtain ⟨w1, w2, w3, w4, w5, w6, w7, w8⟩ := m_all hk hk2
  have hmt := mt_all _ (lk_mem hlk)
  have hgood : GoodIn AW (mWs k) := fun w hw => by
    rcases List.mem_cons.mp hw with rfl | hw
    · exact aw_good _ w1
    · exact aw_good _ hw
  have hws := pay_in hts hgood
  have hmem : Cond.code (yM k) (cM k) (mlT.getD k 0) (rtF k) ∈ mWs k := List.mem_cons_self
  have hblind : FrameBlind (mPc dC dI dA b sb as hp) := fun a U g mk q => by
    obtain ⟨q0, q1, q2, q3, q4, q5⟩ := q
    exact ⟨q0, q1.moved (U := U.calling g mk a) (Vm.Alike.refl U.vm), va_K.moved (u := U) (U := U.calling g mk a) (Vm.Alike.refl U.vm) q2, NW.same (u := U) (U := U.calling g mk a) rfl q3, va_AO.moved (u := U) (U := U.calling g mk a) (Vm.Alike.refl U.vm) q4, q5⟩
  have hpre : ∀ U : State, U.heap = H → s.WarmedH U.vm → mPc dC dI dA b sb as hp (as.map (cv b sb)).toArray U := fun U hU hW => ⟨rfl, by rw [hU]; exact hR.moved hW.alike, va_K.moved hW.alike hK, hNW.warm hW, va_AO.moved hW.alike hAO, by rw [hU]; exact hsz⟩
  have hroom : 2 * (F0 m pc ls ((as.reverse ++ rest).map (cv b sb))).monitorRoom + ((rest.map (cv b sb)).map fun v => v.category).sum ≤ 8 := by
    have := cat_sum b sb rest
    show 2 * 0 + _ ≤ 8
    omega
  have hfix : CallFix p m c (cM mid) (mlT.getD mid 0) s args AW (ownS (clT.getD mid 99)) := ⟨hx, hb, hml, hown, hts⟩
  have hst : (as.reverse ++ rest).map (cv b sb) = (as.map (cv b sb)).reverse ++ rest.map (cv b sb) := by rw [List.map_append, List.map_reverse]
  have par : ∀ j, (parseMethodDescriptor (yM k).desc).map (fun d => d.parameters.length + j) = some (naT.getD k 99) → ∀ sig, parseMethodDescriptor (yM k).desc = some sig → naT.getD k 99 - j = sig.parameters.length := fun j h sig hs => by
    rw [hs] at h
    simp only [Option.map_some, Option.some.injEq] at h
    omega
  have hcb : ∀ (n : Nat), (∀ sig, parseMethodDescriptor (yM k).desc = some sig → n = sig.parameters.length) → Cond.methodLink (ownS (clT.getD mid 99)) x (yM k) ∈ AW → CallB R s args (ownS (clT.getD mid 99)) x (yM k) (cM k) (mlT.getD k 0) (rtF k) (mWs k) ({ frames := rkT.getD k 0, cells := hp1.1 - hp.1, slots := hp1.2.1 - hp.2.1, locals := lrT.getD k 0 }) (hp1.1 - hp.1) (hp1.2.1 - hp.2.1) n := fun n hn hw =>
    ⟨rfl, rfl, by show rkT.getD k 0 + 1 ≤ R.frames; omega, by show 8 + (mlT.getD k 0 + 11) + lrT.getD k 0 ≤ R.locals; omega, hws, hmem, hts _ w1, hts _ w2, w4, hn, hts _ hw⟩
  have hcn : ∀ (n : Nat), (∀ sig, parseMethodDescriptor (yM k).desc = some sig → n = sig.parameters.length) → va_Nw (.methodLinkNest (ownS (clT.getD mid 99)) x (yM k) RX5) s → va_CN R s args (ownS (clT.getD mid 99)) x (yM k) RX5 (cM k) (mlT.getD k 0) (rtF k) (mWs k) ({ frames := rkT.getD k 0, cells := hp1.1 - hp.1, slots := hp1.2.1 - hp.2.1, locals := lrT.getD k 0 }) (hp1.1 - hp.1) (hp1.2.1 - hp.2.1) n := fun n hn hw =>
    ⟨⟨rfl, rfl, by show rkT.getD k 0 + 1 ≤ R.frames; omega, by show 8 + (mlT.getD k 0 + 11) + lrT.getD k 0 ≤ R.locals; omega, hws, hmem⟩, hts _ w1, hts _ w2, w4, hn, va_Nw.use rfl hw⟩
  have recv : kdT.getD k 0 ≠ 0 → ∃ a as2, as = .ref a :: as2 ∧ isO (f_get hp a) (clT.getD k 99) = true := fun h0 => by
    unfold vOK at hvo
    rw [Bool.and_eq_true, if_neg h0] at hvo
    have hvo := hvo.2
    cases as with
    | nil => cases hvo
    | cons v t =>
      cases v with
      | ref a => exact ⟨a, t, rfl, hvo⟩
      | _ => cases hvo
  rcases hkd with ⟨rfl, hkd⟩ | ⟨rfl, rfl⟩ | ⟨rfl, hkd⟩
  · rcases hkd with rfl | rfl
    · obtain ⟨g1, g2, g3⟩ := hmt
      obtain ⟨x1, x2⟩ := w6 g2
      exact va_runS (n := naT.getD k 99) hfix hM ⟨hcb (naT.getD k 99) (par 0 x2) g3, hts _ x1⟩ ⟨hblind, hpre⟩ rfl (by rw [List.length_map, hna]) hl.2.1 hst hroom hd ⟨hc1, hc2⟩
    · obtain ⟨g1, g2, g3⟩ := hmt
      obtain ⟨x1, x2⟩ := w6 g2
      have hnw : va_Nw (.methodLinkNest (ownS (clT.getD mid 99)) x (yM k) RX5) s := hNW (clT.getD mid 99, x, k, na, 3) (lk_mem hlk) (Or.inl rfl)
      exact va_runSN (n := naT.getD k 99) hfix hM ⟨hcn (naT.getD k 99) (par 0 x2) hnw, hts _ x1, trivial⟩ ⟨hblind, hpre⟩ rfl (by rw [List.length_map, hna]) hl.2.1 hst hroom hd ⟨hc1, hc2⟩
  · obtain ⟨g1, g2, g3⟩ := hmt
    obtain ⟨x1, x2, x3⟩ := w7 g2
    obtain ⟨a, as2, rfl, hO⟩ := recv (by dsimp only at g2; omega)
    obtain ⟨fs, hO⟩ := isO_inv hO
    have h7 := cl7 hk g2
    obtain ⟨ha, h9⟩ := hR.obj hO h7
    obtain ⟨C, T, N, hv, hC⟩ := vw_own h7
    have hcell := wsO_get (dA := dA) (b := b) (sb := sb) ha
    rw [show hp.2.2 a = f_get hp a from rfl, hO] at hcell
    have hrc := va_recv hK hR.1 hv hcell
    dsimp only at hrc
    have ea : cv b sb (.ref a) = .ref (b + a) := by simp [cv, cvN_b h9]
    have hst2 : (((Value.ref a :: as2).reverse ++ rest).map (cv b sb)) = (as2.map (cv b sb)).reverse ++ .ref (b + a) :: rest.map (cv b sb) := by
      rw [hst, List.map_cons, ea]; simp
    have hpre2 : ∀ U : State, U.heap = H → s.WarmedH U.vm → mPc dC dI dA b sb (Value.ref a :: as2) hp (Value.ref (b + a) :: as2.map (cv b sb)).toArray U := fun U hU hW => by
      have h1 := hpre U hU hW
      rw [List.map_cons, ea] at h1
      exact h1
    rw [List.map_cons, ea]
    refine va_runV (C := (yM k).cls) (n := naT.getD k 99 - 1) hfix hM ⟨hcb (naT.getD k 99 - 1) (par 1 x3) g3, hts _ x1, hts _ x2⟩ ⟨hblind, by rw [w5, ← hC]; exact hrc, hpre2⟩ rfl (by rw [List.length_map]; rw [List.length_cons] at hna; omega) hl.2.1 hst2 hroom hd ⟨hc1, hc2⟩
  · have hk2k : kdT.getD k 0 = 2 := by rcases hkd with rfl | rfl <;> exact hmt.2.1
    obtain ⟨x1, x2, x3, x4⟩ := w8 hk2k
    obtain ⟨a, as2, rfl, hO⟩ := recv (by omega)
    obtain ⟨fs, hO⟩ := isO_inv hO
    have h7 := cl7' hk hk2k
    obtain ⟨ha, h9⟩ := hR.obj hO h7
    have ea : cv b sb (.ref a) = .ref (b + a) := by simp [cv, cvN_b h9]
    have hst2 : (((Value.ref a :: as2).reverse ++ rest).map (cv b sb)) = (as2.map (cv b sb)).reverse ++ .ref (b + a) :: rest.map (cv b sb) := by
      rw [hst, List.map_cons, ea]; simp
    have hpre2 : ∀ U : State, U.heap = H → s.WarmedH U.vm → mPc dC dI dA b sb (Value.ref a :: as2) hp (Value.ref (b + a) :: as2.map (cv b sb)).toArray U := fun U hU hW => by
      have h1 := hpre U hU hW
      rw [List.map_cons, ea] at h1
      exact h1
    rw [List.map_cons, ea]
    rcases hkd with rfl | rfl
    · have hcb2 := hcb (naT.getD k 99 - 1) (par 1 x4) hmt.2.2
      rw [x3] at hcb2
      exact va_runI (n := naT.getD k 99 - 1) hfix hM ⟨hcb2, x2, hts _ x1⟩ ⟨hblind, hpre2⟩ rfl (by rw [List.length_map]; rw [List.length_cons] at hna; omega) hl.2.1 hst2 hroom hd ⟨hc1, hc2⟩
    · have hnw : va_Nw (.methodLinkNest (ownS (clT.getD mid 99)) x (yM k) RX5) s := hNW (clT.getD mid 99, x, k, na, 4) (lk_mem hlk) (Or.inr rfl)
      have hcn2 := hcn (naT.getD k 99 - 1) (par 1 x4) hnw
      rw [x3] at hcn2
      exact va_runIN (n := naT.getD k 99 - 1) hfix hM ⟨hcn2, x2, hts _ x1⟩ ⟨hblind, hpre2⟩ rfl (by rw [List.length_map]; rw [List.length_cons] at hna; omega) hl.2.1 hst2 hroom hd ⟨hc1, hc2⟩
end CALL
set_option maxHeartbeats 4000000 in
theorem snd_all (l : Launch) (dC : Nat → ClassId) (dI : Nat → Nat → Nat) (dA : Nat → ClassId) (b sb : Nat) : ∀ (n mid : Nat) (is : List Instr) (lv st : List Value) (hp : fH) (v : Option Value) (hp' : fH), mid < 186 → run n mid is lv st hp = some (v, hp') → hp'.1 ≤ SL → Snd l dC dI dA b sb mid is lv st hp v hp' := by
  intro n
  induction n with
  | zero => intro mid is lv st hp v hp' hm h; simp [run] at h
  | succ n ih =>
    intro mid is lv st hp v hp' hm h hSL p e R s m args below meth c Qw n0 s0 hC hn0 hs0 hRc hRs hend pc hck
    have hckM := ck_all (show mid < 189 by omega)
    cases is with
    | nil => simp [run] at h
    | cons ins is =>
      rw [run] at h
      rw [chkB] at hck
      split at hck
      · rename_i t hj
        have hins : ins = .jsr t := by
          unfold isJ at hj
          split at hj
          · cases hj; rfl
          · cases hj
        subst hins
        simp only [Bool.and_eq_true, decide_eq_true_eq] at hck
        obtain ⟨rfl, hck⟩ := hck
        simp only [stp] at h
        have hb2 : chkB mid pc (blk mid pc) = true := List.all_eq_true.mp hckM pc (List.contains_iff_mem.mp hck)
        exact ih mid _ lv st hp v hp' hm h hSL hC hn0 hs0 hRc hRs hend pc hb2
      · rename_i hj
        split at hck
        · rename_i len hI
          unfold chkI at hI
          split at hI
          · rename_i r len2 hd
            split at hI
            · rename_i hall
              cases hI
              obtain ⟨htr, hlen, htg, hcr⟩ := hall
              have hnx : isTm ins = false → chkB mid (pc + len) is = true := fun q => by
                rw [q, Bool.false_or] at hck
                exact hck
              split at h
              · cases h
              · rename_i is1 lv1 st1 hp1 hs
                have hg := run_grow _ _ _ _ _ _ _ _ h
                have hg1 : hp.1 ≤ hp1.1 ∧ hp.2.1 ≤ hp1.2.1 := stp_grow hs
                exact snd_step hC hd htr hlen htg hcr hckM hnx hs hn0 hs0 (by omega) (by omega) (by omega) (fun pc' hc' => ih mid is1 lv1 st1 hp1 v hp' hm h hSL hC (by omega) (by omega) hRc hRs hend pc' hc')
              · rename_i k as rest hs
                split at h
                · rename_i hvo
                  split at h
                  · cases h
                  · rename_i v1 hp1 he
                    obtain ⟨na, rfl, q1, q2, q3, q4⟩ := stp_call hs
                    have hg1 := run_grow _ _ _ _ _ _ _ _ he
                    have hg2 := run_grow _ _ _ _ _ _ _ _ h
                    have hrm : k < 186 ∧ k ≠ 184 ∧ rkT.getD k 0 + 1 ≤ rkT.getD mid 0 ∧ 19 + mlT.getD k 0 + lrT.getD k 0 ≤ lrT.getD mid 0 := by
                      simp only [cRm, Bool.and_eq_true, decide_eq_true_eq] at hcr
                      obtain ⟨⟨⟨c1, c2⟩, c3⟩, c4⟩ := hcr
                      obtain ⟨d1, d2, d3⟩ := dflt c1
                      rw [d1] at c3
                      rw [d2, d3] at c4
                      exact ⟨c1, c2, c3, c4⟩
                    have hen : (entL as).length ≤ mlT.getD k 0 := by
                      have h1 := hvo.1
                      unfold vOK at h1
                      rw [Bool.and_eq_true] at h1
                      exact of_decide_eq_true h1.1
                    have hM := met_of (l := l) (dC := dC) (dI := dI) (dA := dA) (b := b) (sb := sb) hrm.1 hrm.2.1 hC.2.2.2.2.2.2.2.2.2.2.2.2 hen (ih k _ _ _ _ _ _ hrm.1 he (by omega))
                    obtain ⟨x, kd, hr0, hlk, hkd⟩ := tr_call htr
                    have hl3 : len = 3 := by
                      rcases hr0 with rfl | rfl | rfl <;> simpa [isSw, ilen] using hlen
                    subst hl3
                    have hstk : st = as.reverse ++ rest := by rw [q3, q4, List.reverse_reverse, List.take_append_drop]
                    intro ls H locs hl hR hS
                    refine W.sz (fun hu => ?_)
                    have hsz := RH.size hR hS hC.2.2.2.2.2.2.2.2.2.2.2.1 hn0 hu
                    rw [hstk]
                    refine call_go (call_run (s0 := s0) hC hr0 hd hlk hkd hrm hvo.1 hvo.2 q2 hl hR hsz hM (by omega) (by omega)) (fun v2 st2 t T1 L a1 a2 a3 a4 a5 a6 => ?_)
                    obtain ⟨b1, b2, b3⟩ := a6
                    cases b1
                    have hR1 : RH dC dI dA b sb s hp1 t.heap := b2.moved (by rw [← a3]; exact a4.alike.symm)
                    have hS1 : va_S (fun q => b ≤ q) s.heap t.heap (locs ++ L) := by
                      refine ⟨Nat.le_trans hS.1 (by rw [← a1]; exact b3.1), fun q h1 h2 => ?_, fun q hq => ?_⟩
                      · rw [b3.2 q (by rw [a1]; have := hS.1; omega) h2, a1]
                        exact hS.2.1 q h1 h2
                      · rcases List.mem_append.mp hq with h | h
                        · exact hS.2.2 q h
                        · exact a5 q h
                    have key := ih mid is lv (v1.toList ++ rest) hp1 v hp' hm h hSL hC (by omega) (by omega) hRc hRs hend (pc + 3) (hnx rfl) ls t.heap (locs ++ L) hl hR1 hS1
                    rw [show hp.1 - n0 + (hp1.1 - hp.1) = hp1.1 - n0 by omega, show hp.2.1 - s0 + (hp1.2.1 - hp.2.1) = hp1.2.1 - s0 by omega]
                    rw [List.map_append] at key
                    have ev : (v1.map (cv b sb)).toList = v1.toList.map (cv b sb) := by cases v1 <;> rfl
                    rw [ev]
                    exact key
                · cases h
              · rename_i v2 hs
                cases h
                obtain ⟨rfl, hret⟩ := stp_ret hs
                intro ls H locs hl hR hS
                refine hend pc ls H locs (ret_ok hm hd htr hlen hcr hret) hR hS
            · cases hI
          · cases hI
        · cases hck
end
section
theorem ao_in : Cond.arrayOver (.object RX2) ∈ tables_1 := by decide +kernel
def instOK (ci : Nat) : Bool := match vwCl[ci]? with
  | some (C, _, N) => wOK (.instantiable C N)
  | none => true
theorem inst_all : (List.range 7).all instOK = true := by decide +kernel
theorem inst_ok {ci : Nat} {C : String} {T : u_T} {N : Nat} (h : vwCl[ci]? = some (C, T, N)) : Cond.instantiable C N ∈ AW := by
  have h7 := (cls_ok h).2.2.2
  have h1 := List.all_eq_true.mp inst_all ci (List.mem_range.mpr h7)
  unfold instOK at h1
  rw [h] at h1
  exact wOK_in h1
/-! THE CLAIM OUT OF ONE WALK OF THE LAW'S BODY. Your part is whole_start (and what it stands on); all else here is the same for every law, but numbers. -/
def R_law : String := "FieldsByDotsLaw"
def lw_P (b : Addr) (xs : List Int32) (args : Array Value) (s : State) : Prop := args = #[.ref b] ∧ s.IntsAt b xs ∧ xs.length ≤ 320 ∧ (Jvm.Cond.and given_1 narrow_1).before args s = true
def lw_Q (_ : Array Value) (s : State) (o : Outcome) (t : State) : Prop := o = .returned (some (.int 1)) ∧ Framed s o t [] 600000 7302250
def lw_Z (below : List Frame) (a : Array Value) (s : State) : State → Prop := fun t => ∃ o, t.status = .running ∧ Ended t below o ∧ lw_Q a s o t
/-- the law's own end, with 1 on the stack, nothing written that was there before, its room as the claim has it -/
theorem lw_ret {p : Program} {l : Launch} {e : Env} {s : State} {m : MethodId} {below : List Frame} {meth : Method} {c : Code} {b : Nat} (hx : p.tables.exec = Jvm.exec) (hb : c.code = code) (hr : meth.sig.returnType = ret) (hlocks : meth.locks = false) {pc : Nat} {H : Heap} {ls : Array Slot} (hdg : decode code pc = .ok (.ireturn, 1)) : W p l e room_1 s m #[Value.ref b] below meth c H [] 600000 7302250 (lw_Z below #[Value.ref b] s) (F0 m pc ls [.int 1]) := by
  intro T hT X
  obtain ⟨fs, hret, hrun, hended, hW, hframe⟩ := X.leave (v := some (.int 1)) (hlocks := hlocks) (fun h => by rw [hr] at h; cases h)
  have hmeth' : T.vm.method? m = some meth := X.method'
  refine ⟨T.setFrames fs, ?_, .returned (some (.int 1)), hrun, hended, rfl, ⟨_, rfl⟩, hW, hframe⟩
  jvm_step X.here [X.here.top, hx, hb, hdg, hmeth', hr, ret, narrow_b1]
  (try refine ⟨rfl, ?_⟩); (try refine ⟨rfl, ?_⟩)
  first | (intro acts; rw [hret _ acts rfl rfl rfl]) | rw [hret _ _ rfl rfl rfl]
  exact Steps.refl _
/-- what holds at the law's entry: the machine, the code, the tables' words (any of lw_tbl by 'hts w (by decide +kernel)'), the script of L ints xs at the cell b, what the Statement gives of the start (any of its parts by flat_of_before) -/
def lw_At (p : Program) (s : State) (m : MethodId) (meth : Method) (c : Code) (b L : Nat) (xs : Nat → Int32) : Prop :=
  p.tables.exec = Jvm.exec ∧ c.code = code ∧ meth.sig.returnType = ret ∧ c.maxLocals = 4 ∧ s.vm.findClass R_law = some m.cls ∧ (∀ w ∈ lw_tbl, w.before #[Value.ref b] s = true) ∧ va_X b L xs s s.heap ∧ b < s.heap.size ∧ meth.locks = false ∧ (Jvm.Cond.and given_1 narrow_1).before #[Value.ref b] s = true

/-- the heap at the law's entry: nothing but the script -/
def h0 (L : Nat) (xs : Nat → Int32) : fH := (0, 0, fun k => if k = SL then .inl (9, L, .inl xs) else bad)
/-- the law's body on the small machine -/
def LawGo (L : Nat) (xs : Nat → Int32) : Prop := Go 184 (blk 184 0) [.ref SL, jk, jk, jk] [] (h0 L xs) (fun v h => v = some (.int 1) ∧ h.1 ≤ 600000 ∧ h.2.1 ≤ 7302250)
theorem K_start {args : Array Value} {s : State} (hts : ∀ w ∈ AW, w.before args s = true) (hA3 : va_AO RX2 s) : ∃ (dC : Nat → ClassId) (dI : Nat → Nat → Nat) (dA : Nat → ClassId), va_K (dC, dI) vwCl (tysO dA) s := by
  have kn : ∀ ci : Nat, ∃ (cC : ClassId) (iS : Nat → Nat), ∀ q : vw_C, vwCl[ci]? = some q → u_Kn s q.1 q.2.1 q.2.2 cC iS := by
    intro ci
    cases hv : vwCl[ci]? with
    | none => exact ⟨0, fun _ => 0, fun q h => by cases h⟩
    | some q =>
      obtain ⟨C, T, N⟩ := q
      obtain ⟨hin, -, -, h7⟩ := cls_ok hv
      obtain ⟨cC, iS, h⟩ := u_known (n := N) hts hin (hts _ (inst_ok hv))
      exact ⟨cC, iS, fun q hq => by cases hq; exact h⟩
  obtain ⟨cI, kI, compI, i1, i2, i3⟩ := Cond.arrayClass_spec (hts _ ac_i)
  obtain ⟨cJ, kJ, compJ, j1, j2, j3⟩ := Cond.arrayClass_spec (hts _ ac_l)
  obtain ⟨cZ, kZ, compZ, z1, z2, z3⟩ := Cond.arrayClass_spec (hts _ ac_z)
  obtain ⟨comp, cQ, kQ, q1, q2, q3, q4, q5⟩ := Cond.arrayOver_spec hA3
  refine ⟨fun ci => Classical.choose (kn ci), fun ci => Classical.choose (Classical.choose_spec (kn ci)), fun k => if k = 0 then cI else if k = 1 then cJ else if k = 2 then cZ else cQ, fun ci q hq => Classical.choose_spec (Classical.choose_spec (kn ci)) q hq, fun k q hq => ?_⟩
  match k, hq with
  | 0, hq => cases hq; exact ⟨fun n z => ⟨fun k h => (by cases h), kI, i2, compI, i3⟩, i1⟩
  | 1, hq => cases hq; exact ⟨fun n z => ⟨fun k h => (by cases h), kJ, j2, compJ, j3⟩, j1⟩
  | 2, hq => cases hq; exact ⟨fun n z => ⟨fun k h => (by cases h), kZ, z2, compZ, z3⟩, z1⟩
  | 3, hq => cases hq; exact ⟨fun n z => ⟨fun k h => (by cases h), kQ, q3, comp, q4⟩, kQ, comp, q3, q4, q1, q5⟩
  | k + 4, hq => simp [tysO] at hq
set_option maxHeartbeats 4000000 in
set_option maxRecDepth 100000 in
theorem whole_of {p : Program} {e : Env} {s : State} {m : MethodId} {below : List Frame} {meth : Method} {c : Code} (l : Launch) {b L : Nat} {xs : Nat → Int32} (hgo : LawGo L xs) (C0 : lw_At p s m meth c b L xs) : W p l e room_1 s m #[Value.ref b] below meth c s.heap [] 0 0 (lw_Z below #[Value.ref b] s) (entryFrame m ([Value.ref b] : List Value).toArray 4) := by
  obtain ⟨hx, hb, hr, hml, hown, hts, hX, hbl, hlocks, hgv⟩ := id C0
  have hAW := aw_tbl hts
  have hAO : va_AO RX2 s := va_AO.of (hts (.arrayOver (.object RX2)) (List.mem_append_right _ ao_in))
  have hNW : NW s := fun q hq hk => by
    have h1 := mt_all q hq
    obtain ⟨cn, x, k, na, kd⟩ := q
    rcases hk with hk | hk
    · dsimp only at hk
      subst hk
      exact va_Nw.of rfl (hts _ (List.mem_append_right _ h1.2.2))
    · dsimp only at hk
      subst hk
      exact va_Nw.of rfl (hts _ (List.mem_append_right _ h1.2.2))
  obtain ⟨dC, dI, dA, hK⟩ := K_start hAW hAO
  obtain ⟨n, v, h, hrun, hv, hc, hs⟩ := hgo
  subst hv
  have key := snd_all l dC dI dA s.heap.size b n 184 _ _ _ _ _ _ (by decide) hrun (by show h.1 ≤ 1000000; omega) (p := p) (e := e) (R := room_1) (s := s) (m := m) (args := #[Value.ref b]) (below := below) (meth := meth) (c := c) (Qw := lw_Z below #[Value.ref b] s) (n0 := 0) (s0 := 0)
    ⟨hx, hb, hml, hown, hAW, fun q => absurd q (by decide), hK, hNW, hAO, by decide, by decide, rfl, hbl⟩ (Nat.zero_le _) (Nat.zero_le _) (by show h.1 - 0 ≤ 600000; omega) (by show h.2.1 - 0 ≤ 7302250; omega) ?_ 0 ?_
  · have hl := lv_entry ([.ref b]) (n := 4) (Nat.le_of_ble_eq_true rfl)
    rw [lg_entry_eq]
    have e1 : cvN s.heap.size b SL = b := cvN_s
    refine key _ s.heap [] ⟨rfl, hl.1, hl.2.1, fun q hq => hl.2.2 q ?_⟩ ?_ va_S.rf
    · have h2 : lvA s.heap.size b 0 [.ref SL, jk, jk, jk] = [(0, .ref b)] := by
        simp only [lvA, isJk, jk, cv, e1, if_true, Bool.false_eq_true, if_false]
      rw [h2] at hq
      exact hq
    · refine ⟨fun k q hq => ?_, fun n f hq => ?_, fun k _ h9 => ?_, by show 0 ≤ 1000000; omega, fun k h9 n x hq => ?_, Or.inr ⟨L, xs, ?_⟩⟩
      · obtain ⟨hk, -⟩ := wsO_at hq
        exact absurd hk (Nat.not_lt_zero _)
      · have h3 : (h0 L xs).2.2 SL = .inl (9, L, .inl xs) := by simp [h0]
        rw [h3] at hq
        cases hq
        exact hX
      · exact if_neg h9
      · have h3 : (h0 L xs).2.2 k = bad := if_neg h9
        rw [h3] at hq
        cases hq
      · simp [h0]
  · intro pc ls H locs hret hR hS
    have hd : decode (cM 184) pc = .ok (.ireturn, 1) := hret.1
    refine va_forget (fun q hq => hS.2.2 q hq) ?_
    refine W.widen (k := 600000) (n := 7302250) (by omega) (by omega) ?_
    exact lw_ret hx hb hr hlocks hd
  · exact List.all_eq_true.mp (ck_all (show 184 < 189 by decide)) 0 (by decide +kernel)
end
section
/-! Numbers: an int as iI of an Int. -/
def iI (z : Int) : Int32 := Int32.ofInt z
theorem iI_f (z : Int) : Int32.ofInt z = iI z := rfl
theorem iI_nat (k : Nat) : Int32.ofNat k = iI k := by simp [iI, Int32.ofInt_eq_ofNat]
theorem iI_lit (n : Nat) : (OfNat.ofNat n : Int32) = iI n := iI_nat n
theorem iI_0 : (0 : Int32) = iI 0 := rfl
theorem iI_add (a b : Int) : iI a + iI b = iI (a + b) := (Int32.ofInt_add a b).symm
theorem iI_sub (a b : Int) : iI a - iI b = iI (a - b) := (Int32.ofInt_sub a b).symm
theorem iI_mul (a b : Int) : iI a * iI b = iI (a * b) := (Int32.ofInt_mul a b).symm
theorem iI_neg (a : Int) : -iI a = iI (-a) := (Int32.ofInt_neg a).symm
theorem iI_toInt {z : Int} (h1 : -2147483648 ≤ z) (h2 : z < 2147483648) : (iI z).toInt = z := by
  rw [iI, Int32.toInt_ofInt]
  exact Int.bmod_eq_of_le (by simp [Int32.size]; omega) (by simp [Int32.size]; omega)
theorem iI_of (x : Int32) : x = iI x.toInt := (Int32.ofInt_toInt x).symm
theorem iI_cl {z : Int} (h1 : 0 ≤ z) (h2 : z < 2147483648) : (iI z).toNatClampNeg = z.toNat := by
  rw [Int32.toNatClampNeg, iI_toInt (by omega) h2]
theorem iI_in {z : Int} {n : Nat} (h3 : n ≤ 1000) (h1 : 0 ≤ z) (h2 : z < n) : vp_in (iI z) n ↔ True := by
  refine iff_true_intro ?_
  rw [vp_in_iff, iI_toInt (by omega) (by omega)]
  exact ⟨h1, h2⟩
theorem iI_lt {a b : Int} (h1 : -2147483648 ≤ a) (h2 : a < 2147483648) (h3 : -2147483648 ≤ b) (h4 : b < 2147483648) : iI a < iI b ↔ a < b := by
  rw [Int32.lt_iff_toInt_lt, iI_toInt h1 h2, iI_toInt h3 h4]
theorem iI_le {a b : Int} (h1 : -2147483648 ≤ a) (h2 : a < 2147483648) (h3 : -2147483648 ≤ b) (h4 : b < 2147483648) : iI a ≤ iI b ↔ a ≤ b := by
  rw [Int32.le_iff_toInt_le, iI_toInt h1 h2, iI_toInt h3 h4]
theorem iI_eq {a b : Int} (h1 : -2147483648 ≤ a) (h2 : a < 2147483648) (h3 : -2147483648 ≤ b) (h4 : b < 2147483648) : iI a = iI b ↔ a = b := by
  constructor
  · intro h
    have := congrArg Int32.toInt h
    rwa [iI_toInt h1 h2, iI_toInt h3 h4] at this
  · exact fun h => by rw [h]
theorem iI_div {a b : Int} (h1 : -2147483648 < a) (h2 : a < 2147483648) (h3 : -2147483648 ≤ b) (h4 : b < 2147483648) : iI a / iI b = iI (a.tdiv b) := by
  apply Int32.toInt_inj.mp
  rw [Int32.toInt_div_of_ne_left, iI_toInt (by omega) h2, iI_toInt h3 h4, iI_toInt]
  · have := Int.natAbs_tdiv_le_natAbs a b; omega
  · have := Int.natAbs_tdiv_le_natAbs a b; omega
  · intro h
    have := congrArg Int32.toInt h
    rw [iI_toInt (by omega) h2] at this
    have h5 : (Int32.minValue).toInt = -2147483648 := by decide
    omega
theorem iI_rem {a b : Int} (h1 : -2147483648 < a) (h2 : a < 2147483648) (h3 : -2147483648 ≤ b) (h4 : b < 2147483648) : iI a - iI a / iI b * iI b = iI (a.tmod b) := by
  rw [iI_div h1 h2 h3 h4, iI_mul, iI_sub]
  congr 1
  have := Int.tdiv_mul_add_tmod a b
  omega
theorem i_nn (k : Nat) : (k : Int).toNat = k := Int.toNat_natCast k
theorem ite_i (c : Prop) [Decidable c] (a b : Int) : (if c then iI a else iI b) = iI (if c then a else b) := by split <;> rfl
/-- what an if that is a goal comes to -/
theorem ite_t {c : Prop} [Decidable c] {A B : Prop} (h : c) (a : A) : if c then A else B := by rw [if_pos h]; exact a
theorem ite_f {c : Prop} [Decidable c] {A B : Prop} (h : ¬ c) (b : B) : if c then A else B := by rw [if_neg h]; exact b
theorem ite_c {c : Prop} [Decidable c] {A B : Prop} (a : c → A) (b : ¬ c → B) : if c then A else B := by
  split
  · rename_i h; exact a h
  · rename_i h; exact b h
/-- the corners of an outline at o: its rows at o + 1 and o + 2 -/
def Out (h : fH) (o n : Nat) (X Y : Nat → Int) : Prop := f_get h o = .inr (2, [.ref (o + 1), .ref (o + 2), .int (iI n)]) ∧ f_get h (o + 1) = .inl (0, 10, .inl (fun j => iI (X j))) ∧ f_get h (o + 2) = .inl (0, 10, .inl (fun j => iI (Y j)))
def Rg (n : Nat) (X Y : Nat → Int) : Prop := ∀ i, i < n → 0 ≤ X i ∧ X i ≤ 15 ∧ 0 ≤ Y i ∧ Y i ≤ 15
def sd (X Y : Nat → Int) (a b c : Nat) : Int := (X b - X a) * (Y c - Y a) - (Y b - Y a) * (X c - X a)
/-- the spread at c: below 0 if a and b are more than a quarter apart -/
def dt (X Y : Nat → Int) (c a b : Nat) : Int := (X a - X c) * (X b - X c) + (Y a - Y c) * (Y b - Y c)
theorem mul_bd {a b M N : Int} (ha : -M ≤ a) (ha2 : a ≤ M) (hb : -N ≤ b) (hb2 : b ≤ N) (hM : 0 ≤ M) (hN : 0 ≤ N) : -(M * N) ≤ a * b ∧ a * b ≤ M * N := by
  have h : (a * b).natAbs ≤ (M * N).natAbs := by
    rw [Int.natAbs_mul, Int.natAbs_mul]
    exact Nat.mul_le_mul (by omega) (by omega)
  have h2 : 0 ≤ M * N := Int.mul_nonneg hM hN
  omega
theorem sd_bd {n : Nat} {X Y : Nat → Int} (h : Rg n X Y) {a b c : Nat} (ha : a < n) (hb : b < n) (hc : c < n) : -450 ≤ sd X Y a b c ∧ sd X Y a b c ≤ 450 := by
  obtain ⟨a1, a2, a3, a4⟩ := h a ha
  obtain ⟨b1, b2, b3, b4⟩ := h b hb
  obtain ⟨c1, c2, c3, c4⟩ := h c hc
  have h1 := mul_bd (a := X b - X a) (b := Y c - Y a) (M := 15) (N := 15) (by omega) (by omega) (by omega) (by omega) (by omega) (by omega)
  have h2 := mul_bd (a := Y b - Y a) (b := X c - X a) (M := 15) (N := 15) (by omega) (by omega) (by omega) (by omega) (by omega) (by omega)
  unfold sd
  omega
theorem dt_bd {n : Nat} {X Y : Nat → Int} (h : Rg n X Y) {a b c : Nat} (ha : a < n) (hb : b < n) (hc : c < n) : -450 ≤ dt X Y c a b ∧ dt X Y c a b ≤ 450 := by
  obtain ⟨a1, a2, a3, a4⟩ := h a ha
  obtain ⟨b1, b2, b3, b4⟩ := h b hb
  obtain ⟨c1, c2, c3, c4⟩ := h c hc
  have h1 := mul_bd (a := X a - X c) (b := X b - X c) (M := 15) (N := 15) (by omega) (by omega) (by omega) (by omega) (by omega) (by omega)
  have h2 := mul_bd (a := Y a - Y c) (b := Y b - Y c) (M := 15) (N := 15) (by omega) (by omega) (by omega) (by omega) (by omega) (by omega)
  unfold dt
  omega
def nx (n i : Nat) : Nat := if i + 1 < n then i + 1 else 0
def pv (n i : Nat) : Nat := if 0 < i then i - 1 else n - 1
theorem nx_lt {n i : Nat} (h : i < n) : nx n i < n := by unfold nx; split <;> omega
theorem pv_lt {n i : Nat} (h : i < n) : pv n i < n := by unfold pv; split <;> omega
def bI (c : Prop) [Decidable c] : Int := if c then 1 else 0
end
section
set_option maxRecDepth 10000 in
theorem c_sideOf {h : fH} {o n : Nat} {X Y : Nat → Int} (hO : Out h o n X Y) (hn : n ≤ 10) {a b c : Nat} (ha : a < n) (hb : b < n) (hc : c < n) (Q : Option Value → fH → Prop) :
    Call 27 [.ref o, .int (iI a), .int (iI b), .int (iI c)] h Q ↔ Q (some (.int (iI (sd X Y a b c)))) h := by
  obtain ⟨h1, h2, h3⟩ := hO
  refine Call.iff ⟨by simp [vOK, entL, isL, mlT, kdT, clT, isO, h1], rfl, ?_⟩ Q
  rw [show ent 27 [.ref o, .int (iI a), .int (iI b), .int (iI c)] = [.ref o, .int (iI a), .int (iI b), .int (iI c)] from rfl, B27_0, b27_0]
  simp (disch := omega) only [g_iconst, g_lconst, g_iadd, g_isub, g_imul, g_iand, g_ior, g_ishl, g_ishr, g_iushr, g_ladd, g_lsub, g_lmul, g_land, g_lor, g_lcmp, g_ineg, g_lshl, g_lshr, g_i2l, g_l2i, g_dupi, g_dupr, g_pop, g_dup2, g_mabs, g_mmax, g_mmin, g_goto, g_jsr, g_icmp_eq, g_icmp_ne, g_icmp_lt, g_icmp_ge, g_icmp_gt, g_icmp_le, g_if_eq, g_if_ne, g_if_lt, g_if_ge, g_if_gt, g_if_le, g_idiv, g_irem, g_ldiv, g_iload, g_lload, g_aload, g_istore, g_astore, g_lstore, g_iinc, g_getfield, g_putfield, g_iaload, g_baload, g_laload, g_aaload, g_iastore, g_bastore, g_lastore, g_arraylength, g_call0, g_call1, g_call2, g_call3, g_call4, g_call5, g_call6, g_ireturn, g_lreturn, g_return, g_zreturn, sto_0, sto_s, sto2_0, sto2_s, isL_i, isL_r, isL_l, isL_j, ldI_0, ldI_9, ldZ_2, ldL_1, ldQ_3, stI_0, stL_1, stZ_2, gF_o, pF_o, lenA_9, oB_some, vI_i, vJ_j, vR_r, Option.map_some, List.getElem?_cons_zero, List.getElem?_cons_succ, Nat.reduceDiv, Nat.reduceMod, Int.reduceToNat, true_and, and_true, false_and, reduceIte, List.set_cons_zero, List.set_cons_succ, Option.toList_some, Option.toList_none, List.cons_append, List.nil_append, List.length_cons, List.length_nil, Nat.reduceAdd, Nat.reduceLeDiff, Nat.reduceLT, Nat.reduceEqDiff, and_self, and_false, Bool.false_eq_true, h1, h2, h3, iI_f, iI_0, iI_lit, iI_add, iI_sub, iI_mul, iI_neg, iI_lt, iI_le, iI_eq, iI_in, iI_cl, i_nn]
  rfl
set_option maxRecDepth 10000 in
theorem c_spreadAt {h : fH} {o n : Nat} {X Y : Nat → Int} (hO : Out h o n X Y) (hn : n ≤ 10) {a b c : Nat} (ha : a < n) (hb : b < n) (hc : c < n) (Q : Option Value → fH → Prop) :
    Call 28 [.ref o, .int (iI c), .int (iI a), .int (iI b)] h Q ↔ Q (some (.int (iI (dt X Y c a b)))) h := by
  obtain ⟨h1, h2, h3⟩ := hO
  refine Call.iff ⟨by simp [vOK, entL, isL, mlT, kdT, clT, isO, h1], rfl, ?_⟩ Q
  rw [show ent 28 [.ref o, .int (iI c), .int (iI a), .int (iI b)] = [.ref o, .int (iI c), .int (iI a), .int (iI b)] from rfl, B28_0, b28_0]
  simp (disch := omega) only [g_iconst, g_lconst, g_iadd, g_isub, g_imul, g_iand, g_ior, g_ishl, g_ishr, g_iushr, g_ladd, g_lsub, g_lmul, g_land, g_lor, g_lcmp, g_ineg, g_lshl, g_lshr, g_i2l, g_l2i, g_dupi, g_dupr, g_pop, g_dup2, g_mabs, g_mmax, g_mmin, g_goto, g_jsr, g_icmp_eq, g_icmp_ne, g_icmp_lt, g_icmp_ge, g_icmp_gt, g_icmp_le, g_if_eq, g_if_ne, g_if_lt, g_if_ge, g_if_gt, g_if_le, g_idiv, g_irem, g_ldiv, g_iload, g_lload, g_aload, g_istore, g_astore, g_lstore, g_iinc, g_getfield, g_putfield, g_iaload, g_baload, g_laload, g_aaload, g_iastore, g_bastore, g_lastore, g_arraylength, g_call0, g_call1, g_call2, g_call3, g_call4, g_call5, g_call6, g_ireturn, g_lreturn, g_return, g_zreturn, sto_0, sto_s, sto2_0, sto2_s, isL_i, isL_r, isL_l, isL_j, ldI_0, ldI_9, ldZ_2, ldL_1, ldQ_3, stI_0, stL_1, stZ_2, gF_o, pF_o, lenA_9, oB_some, vI_i, vJ_j, vR_r, Option.map_some, List.getElem?_cons_zero, List.getElem?_cons_succ, Nat.reduceDiv, Nat.reduceMod, Int.reduceToNat, true_and, and_true, false_and, reduceIte, List.set_cons_zero, List.set_cons_succ, Option.toList_some, Option.toList_none, List.cons_append, List.nil_append, List.length_cons, List.length_nil, Nat.reduceAdd, Nat.reduceLeDiff, Nat.reduceLT, Nat.reduceEqDiff, and_self, and_false, Bool.false_eq_true, h1, h2, h3, iI_f, iI_0, iI_lit, iI_add, iI_sub, iI_mul, iI_neg, iI_lt, iI_le, iI_eq, iI_in, iI_cl, i_nn]
  rfl
set_option maxRecDepth 10000 in
theorem c_next {h : fH} {o n : Nat} {X Y : Nat → Int} (hO : Out h o n X Y) (hn : n ≤ 10) {a : Nat} (ha : a < n) (Q : Option Value → fH → Prop) :
    Call 25 [.ref o, .int (iI a)] h Q ↔ Q (some (.int (iI (nx n a)))) h := by
  obtain ⟨h1, h2, h3⟩ := hO
  refine Call.iff ⟨by simp [vOK, entL, isL, mlT, kdT, clT, isO, h1], rfl, ?_⟩ Q
  rw [show ent 25 [.ref o, .int (iI a)] = [.ref o, .int (iI a)] from rfl]
  simp (disch := omega) only [B25_0, b25_0, B25_16, b25_16, B25_17, b25_17, g_iconst, g_lconst, g_iadd, g_isub, g_imul, g_iand, g_ior, g_ishl, g_ishr, g_iushr, g_ladd, g_lsub, g_lmul, g_land, g_lor, g_lcmp, g_ineg, g_lshl, g_lshr, g_i2l, g_l2i, g_dupi, g_dupr, g_pop, g_dup2, g_mabs, g_mmax, g_mmin, g_goto, g_jsr, g_icmp_eq, g_icmp_ne, g_icmp_lt, g_icmp_ge, g_icmp_gt, g_icmp_le, g_if_eq, g_if_ne, g_if_lt, g_if_ge, g_if_gt, g_if_le, g_idiv, g_irem, g_ldiv, g_iload, g_lload, g_aload, g_istore, g_astore, g_lstore, g_iinc, g_getfield, g_putfield, g_iaload, g_baload, g_laload, g_aaload, g_iastore, g_bastore, g_lastore, g_arraylength, g_call0, g_call1, g_call2, g_call3, g_call4, g_call5, g_call6, g_ireturn, g_lreturn, g_return, g_zreturn, sto_0, sto_s, sto2_0, sto2_s, isL_i, isL_r, isL_l, isL_j, ldI_0, ldI_9, ldZ_2, ldL_1, ldQ_3, stI_0, stL_1, stZ_2, gF_o, pF_o, lenA_9, oB_some, vI_i, vJ_j, vR_r, Option.map_some, List.getElem?_cons_zero, List.getElem?_cons_succ, Nat.reduceDiv, Nat.reduceMod, Int.reduceToNat, true_and, and_true, false_and, reduceIte, List.set_cons_zero, List.set_cons_succ, Option.toList_some, Option.toList_none, List.cons_append, List.nil_append, List.length_cons, List.length_nil, Nat.reduceAdd, Nat.reduceLeDiff, Nat.reduceLT, Nat.reduceEqDiff, and_self, and_false, Bool.false_eq_true, h1, h2, h3, iI_f, iI_0, iI_lit, iI_add, iI_sub, iI_mul, iI_neg, iI_lt, iI_le, iI_eq, iI_in, iI_cl, i_nn]
  unfold nx
  trace_state
  split <;> split <;> sorry
end
